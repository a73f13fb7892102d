/-! Plays on a network: sums over ways, coming to an end, the greatest-value principle, the best reply, plans that get better. Pure: nothing of the machine. -/
/-- the sum of weight times value over a list of (weight, target) -/
def pz_s : List (Nat × Nat) → (Nat → Rat) → Rat
  | [], _ => 0
  | p :: l, u => (p.1 : Rat) * u p.2 + pz_s l u
theorem pz_s_sub (l : List (Nat × Nat)) (u v : Nat → Rat) : pz_s l (fun k => u k - v k) = pz_s l u - pz_s l v := by
  induction l with
  | nil => simp [pz_s]; grind
  | cons p l ih => simp only [pz_s, ih]; grind
theorem pz_s_const (l : List (Nat × Nat)) (c : Rat) : pz_s l (fun _ => c) = pz_s l (fun _ => 1) * c := by
  induction l with
  | nil => simp [pz_s]
  | cons p l ih => simp only [pz_s, ih]; grind
theorem pz_cast_nonneg (n : Nat) : (0 : Rat) ≤ (n : Rat) := by exact_mod_cast Nat.zero_le n
theorem pz_cast_pos {n : Nat} (h : 0 < n) : (0 : Rat) < (n : Rat) := by exact_mod_cast h
theorem pz_s_le {l : List (Nat × Nat)} {u v : Nat → Rat} (h : ∀ p ∈ l, u p.2 ≤ v p.2) : pz_s l u ≤ pz_s l v := by
  induction l with
  | nil => exact Rat.le_refl
  | cons p l ih =>
    have h1 := h p List.mem_cons_self
    have h2 := ih (fun q hq => h q (List.mem_cons_of_mem _ hq))
    have h3 := Rat.mul_le_mul_of_nonneg_left h1 (pz_cast_nonneg p.1)
    simp only [pz_s]
    grind
theorem pz_s_nonneg {l : List (Nat × Nat)} {u : Nat → Rat} (h : ∀ p ∈ l, 0 ≤ u p.2) : 0 ≤ pz_s l u := by
  have := pz_s_le (l := l) (u := fun _ => 0) (v := u) h
  rw [pz_s_const, Rat.mul_zero] at this
  exact this
/-- terms that are none below 0 and together not above 0 are all 0 -/
theorem pz_s_zero {l : List (Nat × Nat)} {u : Nat → Rat} (hw : ∀ p ∈ l, 0 < p.1) (h : ∀ p ∈ l, 0 ≤ u p.2) (hs : pz_s l u ≤ 0) : ∀ p ∈ l, u p.2 = 0 := by
  induction l with
  | nil => intro p hp; cases hp
  | cons q l ih =>
    have h1 := h q List.mem_cons_self
    have h2 : 0 ≤ pz_s l u := pz_s_nonneg (fun p hp => h p (List.mem_cons_of_mem _ hp))
    have h3 := Rat.mul_nonneg (pz_cast_nonneg q.1) h1
    simp only [pz_s] at hs
    have e1 : (q.1 : Rat) * u q.2 = 0 := by grind
    have e2 : pz_s l u ≤ 0 := by grind
    have hq := pz_cast_pos (hw q List.mem_cons_self)
    intro p hp
    rcases List.mem_cons.mp hp with rfl | hp
    · rcases Rat.mul_eq_zero.mp e1 with h0 | h0
      · rw [h0] at hq; exact absurd hq Rat.lt_irrefl
      · exact h0
    · exact ih (fun p hp => hw p (List.mem_cons_of_mem _ hp)) (fun p hp => h p (List.mem_cons_of_mem _ hp)) e2 p hp
/-- some place below n has the greatest of the values -/
theorem pz_max (u : Nat → Rat) : ∀ n : Nat, 0 < n → ∃ k, k < n ∧ ∀ j, j < n → u j ≤ u k
  | 1, _ => ⟨0, by omega, fun j hj => by rw [show j = 0 by omega]; exact Rat.le_refl⟩
  | n + 2, _ => by
    obtain ⟨k, hk, h⟩ := pz_max u (n + 1) (by omega)
    by_cases hn : u (n + 1) ≤ u k
    · exact ⟨k, by omega, fun j hj => by
        rcases Nat.lt_or_ge j (n + 1) with q | q
        · exact h j q
        · rw [show j = n + 1 by omega]; exact hn⟩
    · refine ⟨n + 1, by omega, fun j hj => ?_⟩
      rcases Nat.lt_or_ge j (n + 1) with q | q
      · have := h j q
        grind
      · rw [show j = n + 1 by omega]; exact Rat.le_refl
section PZ
variable (n : Nat) (en : Nat → Bool) (sc : Nat → List (Nat × Nat))
/-- an end is come to in at most m moves by the ways sc -/
def pz_R : Nat → Nat → Prop
  | 0, k => en k = true
  | m + 1, k => en k = true ∨ ∃ p ∈ sc k, pz_R m p.2
def pz_C (k : Nat) : Prop := ∃ m, pz_R en sc m k
/-- ways lead to places below n, by weights above 0, and there is one -/
def pz_ok : Prop := ∀ k, k < n → en k = false → sc k ≠ [] ∧ ∀ p ∈ sc k, 0 < p.1 ∧ p.2 < n
variable {n en sc}
theorem pz_C_step {k : Nat} {p : Nat × Nat} (hp : p ∈ sc k) (h : pz_C en sc p.2) : pz_C en sc k := by
  obtain ⟨m, hm⟩ := h
  exact ⟨m + 1, Or.inr ⟨p, hp, hm⟩⟩
theorem pz_C_end {k : Nat} (h : en k = true) : pz_C en sc k := ⟨0, h⟩
/-- THE PRINCIPLE: what is not above 0 at ends and where no end is come to, and elsewhere not above the mean of what follows, is nowhere above 0 -/
theorem pz_prin (hok : pz_ok n en sc) {u : Nat → Rat} (h0 : ∀ k, k < n → (en k = true ∨ ¬ pz_C en sc k) → u k ≤ 0) (h1 : ∀ k, k < n → en k = false → pz_C en sc k → pz_s (sc k) (fun _ => 1) * u k ≤ pz_s (sc k) u) : ∀ k, k < n → u k ≤ 0 := by
  intro k hk
  obtain ⟨x, hx, hmax⟩ := pz_max u n (by omega)
  by_cases hM : u x ≤ 0
  · exact Rat.le_trans (hmax k hk) hM
  · exfalso
    have key : ∀ m y, y < n → u y = u x → pz_R en sc m y → False := by
      intro m
      induction m with
      | zero => intro y hy e hr; exact hM (by rw [← e]; exact h0 y hy (Or.inl hr))
      | succ m ih =>
        intro y hy e hr
        by_cases he : en y = true
        · exact hM (by rw [← e]; exact h0 y hy (Or.inl he))
        · have he : en y = false := by simpa using he
          rcases hr with hr | ⟨p, hp, hr⟩
          · rw [hr] at he; cases he
          · have hc : pz_C en sc y := ⟨m + 1, Or.inr ⟨p, hp, hr⟩⟩
            have hs := h1 y hy he hc
            obtain ⟨-, hall⟩ := hok y hy he
            have hz := pz_s_zero (l := sc y) (u := fun k => u x - u k) (fun q hq => (hall q hq).1) (fun q hq => by
              have := hmax q.2 (hall q hq).2
              grind) (by
              rw [pz_s_sub (sc y) (fun _ => u x) u, pz_s_const]
              rw [e] at hs
              grind)
            have := hz p hp
            exact ih p.2 (hall p hp).2 (by grind) hr
    by_cases hc : pz_C en sc x
    · obtain ⟨m, hm⟩ := hc
      exact key m x hx rfl hm
    · exact hM (h0 x hx (Or.inr hc))
end PZ
/-- the sum below n -/
def pz_m : Nat → (Nat → Rat) → Rat
  | 0, _ => 0
  | n + 1, f => pz_m n f + f n
theorem pz_m_le {u v : Nat → Rat} : ∀ n : Nat, (∀ k, k < n → u k ≤ v k) → pz_m n u ≤ pz_m n v
  | 0, _ => Rat.le_refl
  | n + 1, h => by
    have h1 := pz_m_le n (fun k hk => h k (by omega))
    have h2 := h n (by omega)
    simp only [pz_m]
    grind
theorem pz_m_lt {u v : Nat → Rat} : ∀ n : Nat, (∀ k, k < n → u k ≤ v k) → (∃ k, k < n ∧ u k < v k) → pz_m n u < pz_m n v
  | 0, _, ⟨k, hk, _⟩ => absurd hk (by omega)
  | n + 1, h, ⟨k, hk, hl⟩ => by
    have h2 := h n (by omega)
    simp only [pz_m]
    rcases Nat.lt_or_ge k n with q | q
    · have h1 := pz_m_lt n (fun j hj => h j (by omega)) ⟨k, q, hl⟩
      grind
    · have e : k = n := by omega
      subst e
      have h1 := pz_m_le k (fun j hj => h j (by omega))
      grind
theorem pz_m_eq {u v : Nat → Rat} {n : Nat} (h : ∀ k, k < n → u k ≤ v k) (hs : pz_m n v ≤ pz_m n u) : ∀ k, k < n → u k = v k := by
  intro k hk
  have h1 := h k hk
  by_cases e : u k = v k
  · exact e
  · have := pz_m_lt n h ⟨k, hk, Rat.lt_of_le_of_ne h1 e⟩
    grind
/-- of a list that isn't empty, one with the least number -/
theorem pz_least {α : Type} (f : α → Rat) : ∀ l : List α, l ≠ [] → ∃ a, a ∈ l ∧ ∀ b, b ∈ l → f a ≤ f b
  | [], h => absurd rfl h
  | [a], _ => ⟨a, List.mem_cons_self, fun b hb => by rw [List.mem_singleton.mp hb]; exact Rat.le_refl⟩
  | a :: c :: l, _ => by
    obtain ⟨x, hx, h⟩ := pz_least f (c :: l) (by simp)
    by_cases hl : f a ≤ f x
    · refine ⟨a, List.mem_cons_self, fun b hb => ?_⟩
      rcases List.mem_cons.mp hb with rfl | hb
      · exact Rat.le_refl
      · exact Rat.le_trans hl (h b hb)
    · refine ⟨x, List.mem_cons_of_mem _ hx, fun b hb => ?_⟩
      rcases List.mem_cons.mp hb with rfl | hb
      · grind
      · exact h b hb
/-- the ways from k by the choice c: a player's node goes its one way, else all ways of chance -/
def pz_sc (pl : Nat → Bool) (ch : Nat → List (Nat × Nat)) (to : Nat → Nat → Nat) (c : Nat → Nat) (k : Nat) : List (Nat × Nat) := if pl k = true then [(1, to k (c k))] else ch k
section PB
variable (n : Nat) (en : Nat → Bool) (pay : Nat → Rat) (pl mx : Nat → Bool) (ch : Nat → List (Nat × Nat)) (to : Nat → Nat → Nat) (al : Nat → Nat → Prop)
/-- v is what the play by c brings -/
def pz_V (c : Nat → Nat) (v : Nat → Rat) : Prop :=
  (∀ k, k < n → en k = true → v k = pay k) ∧ (∀ k, k < n → en k = false → ¬ pz_C en (pz_sc pl ch to c) k → v k = 0) ∧
  ∀ k, k < n → en k = false → pz_C en (pz_sc pl ch to c) k → pz_s (pz_sc pl ch to c k) (fun _ => 1) * v k = pz_s (pz_sc pl ch to c k) v
/-- a legal choice -/
def pz_L (c : Nat → Nat) : Prop := ∀ k, k < n → pl k = true → al k (c k)
/-- the network: chance has ways by weights above 0, all ways lead to nodes, ends pay 0 or more; MAX's nodes are players' -/
def pz_N : Prop := (∀ k, k < n → en k = false → pl k = false → ch k ≠ [] ∧ ∀ p ∈ ch k, 0 < p.1 ∧ p.2 < n) ∧ (∀ k, k < n → ∀ i, pl k = true → al k i → to k i < n) ∧ (∀ k, k < n → en k = true → 0 ≤ pay k) ∧ ∀ k, mx k = true → pl k = true
variable {n en pay pl mx ch to al}
theorem pz_ok_of (hN : pz_N n en pay pl mx ch to al) {c : Nat → Nat} (hc : pz_L n pl al c) : pz_ok n en (pz_sc pl ch to c) := by
  intro k hk he
  unfold pz_sc
  by_cases hp : pl k = true
  · rw [if_pos hp]
    refine ⟨by simp, fun p h => ?_⟩
    rw [List.mem_singleton.mp h]
    exact ⟨Nat.one_pos, hN.2.1 k hk _ hp (hc k hk hp)⟩
  · rw [if_neg hp]
    exact hN.1 k hk he (by simpa using hp)
/-- where no end is come to, none is come to behind it -/
theorem pz_C_next {sc : Nat → List (Nat × Nat)} {k : Nat} (h : ¬ pz_C en sc k) {p : Nat × Nat} (hp : p ∈ sc k) : ¬ pz_C en sc p.2 := fun q => h (pz_C_step hp q)
theorem pz_s_all0 {l : List (Nat × Nat)} {v : Nat → Rat} (h : ∀ p ∈ l, v p.2 = 0) : pz_s l v = 0 := by
  induction l with
  | nil => rfl
  | cons p l ih =>
    simp only [pz_s]
    rw [h p List.mem_cons_self, ih (fun q hq => h q (List.mem_cons_of_mem _ hq))]
    grind
/-- the mean holds at every node that is no end -/
theorem pz_V_mean (hN : pz_N n en pay pl mx ch to al) {c : Nat → Nat} (hc : pz_L n pl al c) {v : Nat → Rat} (hv : pz_V n en pay pl ch to c v) : ∀ k, k < n → en k = false → pz_s (pz_sc pl ch to c k) (fun _ => 1) * v k = pz_s (pz_sc pl ch to c k) v := by
  intro k hk he
  by_cases h : pz_C en (pz_sc pl ch to c) k
  · exact hv.2.2 k hk he h
  · rw [hv.2.1 k hk he h, Rat.mul_zero]
    refine (pz_s_all0 fun p hp => ?_).symm
    have hb := ((pz_ok_of hN hc k hk he).2 p hp).2
    have hq := pz_C_next h hp
    by_cases e2 : en p.2 = true
    · exact absurd (pz_C_end e2) hq
    · exact hv.2.1 p.2 hb (by simpa using e2) hq
theorem pz_V_nonneg (hN : pz_N n en pay pl mx ch to al) {c : Nat → Nat} (hc : pz_L n pl al c) {v : Nat → Rat} (hv : pz_V n en pay pl ch to c v) : ∀ k, k < n → 0 ≤ v k := by
  intro k hk
  have := pz_prin (pz_ok_of hN hc) (u := fun k => 0 - v k) (fun j hj h => by
    rcases h with h | h
    · have := hN.2.2.1 j hj h
      rw [← hv.1 j hj h] at this
      grind
    · by_cases e : en j = true
      · exact absurd (pz_C_end e) h
      · rw [hv.2.1 j hj (by simpa using e) h]; grind) (fun j hj he _ => by
    have := pz_V_mean hN hc hv j hj he
    have e0 : pz_s (pz_sc pl ch to c j) (fun _ => 0) = 0 := by rw [pz_s_const _ 0, Rat.mul_zero]
    rw [pz_s_sub _ (fun _ => 0) v, e0]
    grind) k hk
  grind
/-- a player's node has the value of where its way leads -/
theorem pz_V_way (hN : pz_N n en pay pl mx ch to al) {c : Nat → Nat} (hc : pz_L n pl al c) {v : Nat → Rat} (hv : pz_V n en pay pl ch to c v) {k : Nat} (hk : k < n) (he : en k = false) (hp : pl k = true) : v k = v (to k (c k)) := by
  have := pz_V_mean hN hc hv k hk he
  unfold pz_sc at this
  rw [if_pos hp] at this
  simp only [pz_s] at this
  grind
theorem pz_V_chance (hN : pz_N n en pay pl mx ch to al) {c : Nat → Nat} (hc : pz_L n pl al c) {v : Nat → Rat} (hv : pz_V n en pay pl ch to c v) {k : Nat} (hk : k < n) (he : en k = false) (hp : pl k = false) : pz_s (ch k) (fun _ => 1) * v k = pz_s (ch k) v := by
  have := pz_V_mean hN hc hv k hk he
  unfold pz_sc at this
  rw [if_neg (by simp [hp])] at this
  exact this
/-- ways that stay among nodes that are no ends come to none -/
theorem pz_stay {sc : Nat → List (Nat × Nat)} {S : Nat → Prop} (he : ∀ k, S k → en k = false) (hs : ∀ k, S k → ∀ p ∈ sc k, S p.2) : ∀ k, S k → ¬ pz_C en sc k := by
  intro k hk ⟨m, hm⟩
  induction m generalizing k with
  | zero => have := he k hk; rw [show en k = true from hm] at this; cases this
  | succ m ih =>
    rcases hm with h | ⟨p, hp, h⟩
    · have := he k hk; rw [h] at this; cases this
    · exact ih p.2 (hs k hk p hp) h
/-- changing a choice to that of another one on a set keeps it legal -/
theorem pz_L_mix {c d : Nat → Nat} (hc : pz_L n pl al c) (hd : pz_L n pl al d) (S : Nat → Prop) (f : Nat → Nat) (hf : ∀ k, (S k → f k = c k) ∧ (¬ S k → f k = d k)) : pz_L n pl al f := by
  intro k hk hp
  by_cases h : S k
  · rw [(hf k).1 h]; exact hc k hk hp
  · rw [(hf k).2 h]; exact hd k hk hp
theorem pz_sc_congr {c d : Nat → Nat} {k : Nat} (h : c k = d k) : pz_sc pl ch to c k = pz_sc pl ch to d k := by
  unfold pz_sc
  rw [h]
/-- THE BEST REPLY: of all legal choices that keep MAX's ways s, one is least at every node; it is 0 wherever any of them never ends; no way of MIN leads lower -/
theorem pz_best (hN : pz_N n en pay pl mx ch to al) (val : (Nat → Nat) → Nat → Rat) (hval : ∀ c, pz_L n pl al c → pz_V n en pay pl ch to c (val c)) {s : Nat → Nat} {P : List (Nat → Nat)} (hP0 : P ≠ []) (hP : ∀ c, c ∈ P → pz_L n pl al c ∧ ∀ k, k < n → mx k = true → c k = s k) (hall : ∀ c, pz_L n pl al c → (∀ k, k < n → mx k = true → c k = s k) → ∃ d, d ∈ P ∧ ∀ k, k < n → val d k = val c k) :
    ∃ b, b ∈ P ∧ (∀ c, pz_L n pl al c → (∀ k, k < n → mx k = true → c k = s k) → ∀ k, k < n → val b k ≤ val c k) ∧
      (∀ c, pz_L n pl al c → (∀ k, k < n → mx k = true → c k = s k) → ∀ k, k < n → ¬ pz_C en (pz_sc pl ch to c) k → val b k = 0) ∧
      ∀ k, k < n → en k = false → pl k = true → mx k = false → ∀ i, al k i → val b k ≤ val b (to k i) := by
  obtain ⟨b, hb, hleast⟩ := pz_least (fun c => pz_m n (val c)) P hP0
  obtain ⟨hbL, hbs⟩ := hP b hb
  have hmin : ∀ c, pz_L n pl al c → (∀ k, k < n → mx k = true → c k = s k) → pz_m n (val b) ≤ pz_m n (val c) := by
    intro c hc hcs
    obtain ⟨d, hd, he⟩ := hall c hc hcs
    exact Rat.le_trans (hleast d hd) (pz_m_le n (fun k hk => by rw [he k hk]; exact Rat.le_refl))
  have hvb := hval b hbL
  have hb0 := pz_V_nonneg hN hbL hvb
  -- 0 where a choice never ends
  have hA1 : ∀ c, pz_L n pl al c → (∀ k, k < n → mx k = true → c k = s k) → ∀ k, k < n → ¬ pz_C en (pz_sc pl ch to c) k → val b k = 0 := by
    intro c hc hcs
    obtain ⟨f, hf⟩ : ∃ f : Nat → Nat, ∀ k, ((k < n ∧ ¬ pz_C en (pz_sc pl ch to c) k) → f k = c k) ∧ (¬ (k < n ∧ ¬ pz_C en (pz_sc pl ch to c) k) → f k = b k) := by
      classical
      exact ⟨fun k => if k < n ∧ ¬ pz_C en (pz_sc pl ch to c) k then c k else b k, fun k => ⟨fun h => if_pos h, fun h => if_neg h⟩⟩
    have hfL := pz_L_mix hc hbL _ f hf
    have hfs : ∀ k, k < n → mx k = true → f k = s k := by
      intro k hk hm
      by_cases h : k < n ∧ ¬ pz_C en (pz_sc pl ch to c) k
      · rw [(hf k).1 h]; exact hcs k hk hm
      · rw [(hf k).2 h]; exact hbs k hk hm
    have hvf := hval f hfL
    have hst : ∀ k, (k < n ∧ ¬ pz_C en (pz_sc pl ch to c) k) → ¬ pz_C en (pz_sc pl ch to f) k := by
      refine pz_stay (S := fun k => k < n ∧ ¬ pz_C en (pz_sc pl ch to c) k) (fun k h => ?_) (fun k h p hp => ?_)
      · cases e : en k
        · rfl
        · exact absurd (pz_C_end e) h.2
      · rw [pz_sc_congr ((hf k).1 h)] at hp
        have e : en k = false := by
          cases e : en k
          · rfl
          · exact absurd (pz_C_end e) h.2
        exact ⟨((pz_ok_of hN hc k h.1 e).2 p hp).2, pz_C_next h.2 hp⟩
    have hle := pz_prin (pz_ok_of hN hfL) (u := fun k => val f k - val b k) (fun j hj h => by
      rcases h with h | h
      · rw [hvf.1 j hj h, hvb.1 j hj h]; grind
      · have e : en j = false := by
          cases e : en j
          · rfl
          · exact absurd (pz_C_end e) h
        have := hb0 j hj
        rw [hvf.2.1 j hj e h]; grind) (fun j hj he hr => by
      have hnS : ¬ (j < n ∧ ¬ pz_C en (pz_sc pl ch to c) j) := fun q => hst j q hr
      have e1 := pz_V_mean hN hfL hvf j hj he
      have e2 := pz_V_mean hN hbL hvb j hj he
      rw [← pz_sc_congr ((hf j).2 hnS)] at e2
      rw [pz_s_sub]
      grind)
    have heq := pz_m_eq (u := val f) (v := val b) (n := n) (fun k hk => by have := hle k hk; grind) (hmin f hfL hfs)
    intro k hk hr
    have h1 := hst k ⟨hk, hr⟩
    have e : en k = false := by
      cases e : en k
      · rfl
      · exact absurd (pz_C_end e) hr
    rw [← heq k hk]
    exact hvf.2.1 k hk e h1
  -- no way of MIN leads lower
  have hA2 : ∀ k, k < n → en k = false → pl k = true → mx k = false → ∀ i, al k i → val b k ≤ val b (to k i) := by
    intro k hk he hp hm i hi
    by_cases hlt : val b k ≤ val b (to k i)
    · exact hlt
    · exfalso
      obtain ⟨f, hfk, hfo⟩ : ∃ f : Nat → Nat, f k = i ∧ ∀ j, j ≠ k → f j = b j := ⟨fun j => if j = k then i else b j, if_pos rfl, fun j h => if_neg h⟩
      have hfL : pz_L n pl al f := by
        intro j hj hpj
        by_cases h : j = k
        · subst h; rw [hfk]; exact hi
        · rw [hfo j h]; exact hbL j hj hpj
      have hfs : ∀ j, j < n → mx j = true → f j = s j := by
        intro j hj hmj
        have h : j ≠ k := fun h => by rw [h, hm] at hmj; cases hmj
        rw [hfo j h]; exact hbs j hj hmj
      have hvf := hval f hfL
      have hto := hN.2.1 k hk i hp hi
      have hle := pz_prin (pz_ok_of hN hfL) (u := fun k => val f k - val b k) (fun j hj h => by
        rcases h with h | h
        · rw [hvf.1 j hj h, hvb.1 j hj h]; grind
        · have e : en j = false := by
            cases e : en j
            · rfl
            · exact absurd (pz_C_end e) h
          have := hb0 j hj
          rw [hvf.2.1 j hj e h]; grind) (fun j hj hej hr => by
        by_cases h : j = k
        · subst h
          have e1 := pz_V_way hN hfL hvf hj hej hp
          rw [hfk] at e1
          unfold pz_sc
          rw [if_pos hp, hfk]
          simp only [pz_s]
          grind
        · have e1 := pz_V_mean hN hfL hvf j hj hej
          have e2 := pz_V_mean hN hbL hvb j hj hej
          rw [← pz_sc_congr (hfo j h)] at e2
          rw [pz_s_sub]
          grind)
      have hk1 := pz_V_way hN hfL hvf hk he hp
      rw [hfk] at hk1
      have h2 := hle (to k i) hto
      have := pz_m_lt (u := val f) (v := val b) n (fun j hj => by have := hle j hj; grind) ⟨k, hk, by grind⟩
      have := hmin f hfL hfs
      grind
  refine ⟨b, hb, ?_, hA1, hA2⟩
  intro c hc hcs
  have hvc := hval c hc
  have hle := pz_prin (pz_ok_of hN hc) (u := fun k => val b k - val c k) (fun j hj h => by
    rcases h with h | h
    · rw [hvb.1 j hj h, hvc.1 j hj h]; grind
    · have e : en j = false := by
        cases e : en j
        · rfl
        · exact absurd (pz_C_end e) h
      rw [hA1 c hc hcs j hj h, hvc.2.1 j hj e h]; grind) (fun j hj hej hr => by
    cases hp : pl j
    · have e1 := pz_V_chance hN hbL hvb hj hej hp
      have e2 := pz_V_chance hN hc hvc hj hej hp
      unfold pz_sc
      rw [if_neg (by simp [hp]), pz_s_sub]
      grind
    · have e2 := pz_V_way hN hc hvc hj hej hp
      have e1 : val b j ≤ val b (to j (c j)) := by
        cases hm : mx j
        · exact hA2 j hj hej hp hm _ (hc j hj hp)
        · have := pz_V_way hN hbL hvb hj hej hp
          rw [hbs j hj hm, ← hcs j hj hm] at this
          rw [← this]; exact Rat.le_refl
      unfold pz_sc
      rw [if_pos hp]
      simp only [pz_s]
      grind)
  intro k hk
  have := hle k hk
  grind
end PB
section PI
variable {n : Nat} {en : Nat → Bool} {pay : Nat → Rat} {pl mx : Nat → Bool} {ch : Nat → List (Nat × Nat)} {to : Nat → Nat → Nat} {al : Nat → Nat → Prop}
/-- A PLAN THAT IS BETTERED leaves no less: v is what is left by the ways s of MAX (its least over MIN's replies), t goes other ways only where they lead to more; then every play that keeps t brings v or more -/
theorem pz_improve (hN : pz_N n en pay pl mx ch to al) (hmx : ∀ k, k < n → mx k = true → en k = false) (hpe : ∀ k, k < n → pl k = true → en k = false) (val : (Nat → Nat) → Nat → Rat) (hval : ∀ c, pz_L n pl al c → pz_V n en pay pl ch to c (val c)) {s t b : Nat → Nat} (hb : pz_L n pl al b) (hbs : ∀ k, k < n → mx k = true → b k = s k)
    (h0 : ∀ c, pz_L n pl al c → (∀ k, k < n → mx k = true → c k = s k) → ∀ k, k < n → ¬ pz_C en (pz_sc pl ch to c) k → val b k = 0)
    (h1 : ∀ k, k < n → en k = false → pl k = true → mx k = false → ∀ i, al k i → val b k ≤ val b (to k i))
    (ht : ∀ k, k < n → mx k = true → t k = s k ∨ val b (to k (s k)) < val b (to k (t k)))
    {c : Nat → Nat} (hc : pz_L n pl al c) (hct : ∀ k, k < n → mx k = true → c k = t k) : ∀ k, k < n → val b k ≤ val c k := by
  have hvb := hval b hb
  have hvc := hval c hc
  have hb0 := pz_V_nonneg hN hb hvb
  have hok := pz_ok_of hN hc
  -- from a player's node the way of c leads to no less
  have hway : ∀ k, k < n → en k = false → pl k = true → val b k ≤ val b (to k (c k)) := by
    intro k hk he hp
    cases hm : mx k
    · exact h1 k hk he hp hm _ (hc k hk hp)
    · have e1 := pz_V_way hN hb hvb hk he hp
      rw [hbs k hk hm] at e1
      rcases ht k hk hm with e | e
      · rw [hct k hk hm, e, ← e1]; exact Rat.le_refl
      · rw [hct k hk hm]; grind
  have hsub : ∀ k, k < n → en k = false → pz_s (pz_sc pl ch to c k) (fun _ => 1) * val b k ≤ pz_s (pz_sc pl ch to c k) (val b) := by
    intro k hk he
    cases hp : pl k
    · have := pz_V_chance hN hb hvb hk he hp
      unfold pz_sc
      rw [if_neg (by simp [hp]), this]
      exact Rat.le_refl
    · have := hway k hk he hp
      unfold pz_sc
      rw [if_pos hp]
      simp only [pz_s]
      grind
  -- where play by c never ends nothing was left
  have hz : ∀ k, k < n → ¬ pz_C en (pz_sc pl ch to c) k → val b k ≤ 0 := by
    intro k hk hr
    -- the greatest of v among the nodes where play by c never ends
    obtain ⟨w, hw⟩ : ∃ w : Nat → Rat, ∀ j, ((¬ pz_C en (pz_sc pl ch to c) j) → w j = val b j) ∧ (pz_C en (pz_sc pl ch to c) j → w j = 0) := by
      classical
      exact ⟨fun j => if pz_C en (pz_sc pl ch to c) j then 0 else val b j, fun j => ⟨fun h => if_neg h, fun h => if_pos h⟩⟩
    obtain ⟨x, hx, hmax⟩ := pz_max w n (by omega)
    have hwk := hmax k hk
    rw [(hw k).1 hr] at hwk
    by_cases hM : w x ≤ 0
    · exact Rat.le_trans hwk hM
    · exfalso
      have hxr : ¬ pz_C en (pz_sc pl ch to c) x := fun q => hM (by rw [(hw x).2 q]; exact Rat.le_refl)
      have hwx := (hw x).1 hxr
      have hS : ∀ j, (j < n ∧ ¬ pz_C en (pz_sc pl ch to c) j ∧ val b j = val b x) → en j = false ∧ (mx j = true → t j = s j) ∧ ∀ p ∈ pz_sc pl ch to c j, p.2 < n ∧ ¬ pz_C en (pz_sc pl ch to c) p.2 ∧ val b p.2 = val b x := by
        intro j hj
        have he : en j = false := by
          cases e : en j
          · rfl
          · exact absurd (pz_C_end e) hj.2.1
        obtain ⟨-, hall⟩ := hok j hj.1 he
        have hnext : ∀ p ∈ pz_sc pl ch to c j, val b p.2 ≤ val b x := by
          intro p hp
          have h2 := pz_C_next hj.2.1 hp
          have h3 := hmax p.2 (hall p hp).2
          rw [(hw p.2).1 h2, hwx] at h3
          exact h3
        have hs := hsub j hj.1 he
        have hzero := pz_s_zero (l := pz_sc pl ch to c j) (u := fun i => val b x - val b i) (fun q hq => (hall q hq).1) (fun q hq => by
          have := hnext q hq
          grind) (by
          rw [pz_s_sub _ (fun _ => val b x) (val b), pz_s_const _ (val b x)]
          rw [hj.2.2] at hs
          grind)
        refine ⟨he, fun hm => ?_, fun p hp => ⟨(hall p hp).2, pz_C_next hj.2.1 hp, by have := hzero p hp; grind⟩⟩
        rcases ht j hj.1 hm with e | e
        · exact e
        · exfalso
          have hp := hN.2.2.2 j hm
          have e1 := pz_V_way hN hb hvb hj.1 he hp
          rw [hbs j hj.1 hm] at e1
          have hin : (1, to j (c j)) ∈ pz_sc pl ch to c j := by
            unfold pz_sc
            rw [if_pos hp]
            exact List.mem_singleton.mpr rfl
          have h5 := hnext _ hin
          have h6 : val b (to j (c j)) ≤ val b x := h5
          rw [hct j hj.1 hm] at h6
          have h7 := hj.2.2
          grind
      obtain ⟨f, hf⟩ : ∃ f : Nat → Nat, ∀ j, ((j < n ∧ ¬ pz_C en (pz_sc pl ch to c) j ∧ val b j = val b x) → f j = c j) ∧ (¬ (j < n ∧ ¬ pz_C en (pz_sc pl ch to c) j ∧ val b j = val b x) → f j = b j) := by
        classical
        exact ⟨fun j => if (j < n ∧ ¬ pz_C en (pz_sc pl ch to c) j ∧ val b j = val b x) then c j else b j, fun j => ⟨fun h => if_pos h, fun h => if_neg h⟩⟩
      have hfL := pz_L_mix hc hb _ f hf
      have hfs : ∀ j, j < n → mx j = true → f j = s j := by
        intro j hj hm
        by_cases h : j < n ∧ ¬ pz_C en (pz_sc pl ch to c) j ∧ val b j = val b x
        · rw [(hf j).1 h, hct j hj hm]; exact (hS j h).2.1 hm
        · rw [(hf j).2 h]; exact hbs j hj hm
      have hst : ∀ j, (j < n ∧ ¬ pz_C en (pz_sc pl ch to c) j ∧ val b j = val b x) → ¬ pz_C en (pz_sc pl ch to f) j := by
        refine pz_stay (S := fun j => j < n ∧ ¬ pz_C en (pz_sc pl ch to c) j ∧ val b j = val b x) (fun j h => (hS j h).1) (fun j h p hp => ?_)
        rw [pz_sc_congr ((hf j).1 h)] at hp
        exact (hS j h).2.2 p hp
      have := h0 f hfL hfs x hx (hst x ⟨hx, hxr, rfl⟩)
      rw [hwx, this] at hM
      exact hM Rat.le_refl
  have hle := pz_prin hok (u := fun k => val b k - val c k) (fun j hj h => by
    rcases h with h | h
    · rw [hvb.1 j hj h, hvc.1 j hj h]; grind
    · have e : en j = false := by
        cases e : en j
        · rfl
        · exact absurd (pz_C_end e) h
      have := hz j hj h
      rw [hvc.2.1 j hj e h]; grind) (fun j hj he hr => by
    have e1 := hsub j hj he
    have e2 := pz_V_mean hN hc hvc j hj he
    rw [pz_s_sub]
    grind)
  intro k hk
  have := hle k hk
  grind
/-- THE STEP: with v the least left by s, w the least left by t (each a play's own values, b and d), and a node where t leads to more: all of w is no less than v, and their sum is more -/
theorem pz_step (hN : pz_N n en pay pl mx ch to al) (hmx : ∀ k, k < n → mx k = true → en k = false) (hpe : ∀ k, k < n → pl k = true → en k = false) (val : (Nat → Nat) → Nat → Rat) (hval : ∀ c, pz_L n pl al c → pz_V n en pay pl ch to c (val c)) {s t b d : Nat → Nat} (hb : pz_L n pl al b) (hbs : ∀ k, k < n → mx k = true → b k = s k) (hd : pz_L n pl al d) (hdt : ∀ k, k < n → mx k = true → d k = t k)
    (h0 : ∀ c, pz_L n pl al c → (∀ k, k < n → mx k = true → c k = s k) → ∀ k, k < n → ¬ pz_C en (pz_sc pl ch to c) k → val b k = 0)
    (h1 : ∀ k, k < n → en k = false → pl k = true → mx k = false → ∀ i, al k i → val b k ≤ val b (to k i))
    (ht : ∀ k, k < n → mx k = true → t k = s k ∨ val b (to k (s k)) < val b (to k (t k))) (hsome : ∃ k, k < n ∧ mx k = true ∧ val b (to k (s k)) < val b (to k (t k))) : pz_m n (val b) < pz_m n (val d) := by
  have hle := pz_improve hN hmx hpe val hval hb hbs h0 h1 ht hd hdt
  refine pz_m_lt n hle ?_
  obtain ⟨k, hk, hm, hlt⟩ := hsome
  refine ⟨k, hk, ?_⟩
  have hp := hN.2.2.2 k hm
  have he := hmx k hk hm
  have e1 := pz_V_way hN hb (hval b hb) hk he hp
  have e2 := pz_V_way hN hd (hval d hd) hk he hp
  rw [hbs k hk hm] at e1
  rw [hdt k hk hm] at e2
  have h3 := hle (to k (t k)) (hN.2.1 k hk _ hp (by rw [← hdt k hk hm]; exact hd k hk hp))
  grind
end PI
/-- numbers of a finite list that grow by steps within it stop: how many of the list are above -/
def pz_up {α : Type} (f : α → Rat) (l : List α) (r : Rat) : Nat := (l.filter (fun a => decide (r < f a))).length
theorem pz_up_lt {α : Type} (f : α → Rat) : ∀ (l : List α) (a : α) (r : Rat), a ∈ l → r < f a → pz_up f l (f a) < pz_up f l r
  | [], _, _, h, _ => nomatch h
  | x :: l, a, r, h, hr => by
    have hmono : ∀ l : List α, pz_up f l (f a) ≤ pz_up f l r := by
      intro l
      induction l with
      | nil => exact Nat.le_refl _
      | cons y l ih =>
        unfold pz_up at ih ⊢
        simp only [List.filter_cons]
        by_cases h1 : f a < f y
        · have h2 : r < f y := by grind
          simp only [h1, h2, decide_true, if_true, List.length_cons]
          omega
        · by_cases h2 : r < f y
          · simp only [h1, h2, decide_true, decide_false, if_true, List.length_cons]
            simp
            omega
          · simp only [h1, h2, decide_false]
            simpa using ih
    rcases List.mem_cons.mp h with rfl | h
    · have := hmono l
      unfold pz_up at this ⊢
      simp only [List.filter_cons]
      have h1 : ¬ f a < f a := Rat.lt_irrefl
      simp only [h1, hr, decide_true, decide_false, if_true, List.length_cons]
      simp
      omega
    · have := pz_up_lt f l a r h hr
      unfold pz_up at this ⊢
      simp only [List.filter_cons]
      by_cases h1 : f a < f x
      · have h2 : r < f x := by grind
        simp only [h1, h2, decide_true, if_true, List.length_cons]
        omega
      · by_cases h2 : r < f x
        · simp only [h1, h2, decide_true, decide_false, if_true, List.length_cons]
          simp
          omega
        · simp only [h1, h2, decide_false]
          simpa using this
/-! Determinants by the first column, over the rationals: rows may be added to each other; the part behind the first pivot; whole numbers stay whole. -/
theorem pz_m_congr {u v : Nat → Rat} : ∀ n : Nat, (∀ k, k < n → u k = v k) → pz_m n u = pz_m n v
  | 0, _ => rfl
  | n + 1, h => by
    simp only [pz_m]
    rw [pz_m_congr n (fun k hk => h k (by omega)), h n (by omega)]
theorem pz_m_lin (x : Rat) (u v : Nat → Rat) : ∀ n : Nat, pz_m n (fun k => x * u k + v k) = x * pz_m n u + pz_m n v
  | 0 => by simp only [pz_m]; grind
  | n + 1 => by
    simp only [pz_m]
    rw [pz_m_lin x u v n]
    grind
theorem pz_m_zero {u : Nat → Rat} {n : Nat} (h : ∀ k, k < n → u k = 0) : pz_m n u = 0 := by
  rw [pz_m_congr n (v := fun k => 0 * u k + 0) (fun k hk => by rw [h k hk]; grind), pz_m_lin]
  have : pz_m n (fun _ => (0 : Rat)) = 0 := by
    clear h
    induction n with
    | zero => rfl
    | succ n ih => simp only [pz_m, ih]; grind
  rw [this]
  grind
/-- two terms beside each other that cancel, all others 0 -/
theorem pz_m_two {u : Nat → Rat} : ∀ (n r : Nat), r + 1 < n → (∀ k, k < n → k ≠ r → k ≠ r + 1 → u k = 0) → u r + u (r + 1) = 0 → pz_m n u = 0
  | 0, _, h, _, _ => absurd h (by omega)
  | n + 1, r, hr, h, hs => by
    simp only [pz_m]
    by_cases e : r + 1 = n
    · subst e
      simp only [pz_m]
      rw [pz_m_zero (fun k hk => h k (by omega) (by omega) (by omega))]
      grind
    · rw [pz_m_two n r (by omega) (fun k hk h1 h2 => h k (by omega) h1 h2) hs, h n (by omega) (by omega) (by omega)]
      grind
/-- only the first term -/
theorem pz_m_first {u : Nat → Rat} : ∀ n : Nat, (∀ k, k < n + 1 → k ≠ 0 → u k = 0) → pz_m (n + 1) u = u 0
  | 0, _ => by simp only [pz_m]; grind
  | n + 1, h => by
    rw [pz_m, pz_m_first n (fun k hk h0 => h k (by omega) h0), h (n + 1) (by omega) (by omega)]
    grind
def pd_skip (i a : Nat) : Nat := if a < i then a else a + 1
theorem pd_skip_at {i r : Nat} (h : i ≠ r) : pd_skip i (if r < i then r else r - 1) = r := by
  rcases Nat.lt_or_ge r i with q | q
  · rw [if_pos q]; exact if_pos q
  · rw [if_neg (by omega)]; unfold pd_skip; rw [if_neg (by omega)]; omega
def pd_sg (i : Nat) : Rat := if i % 2 = 0 then 1 else -1
def pd_det : Nat → (Nat → Nat → Rat) → Rat
  | 0, _ => 1
  | n + 1, A => pz_m (n + 1) (fun i => pd_sg i * A i 0 * pd_det n (fun a b => A (pd_skip i a) (b + 1)))
theorem pd_congr : ∀ (n : Nat) (A B : Nat → Nat → Rat), (∀ a b, a < n → b < n → A a b = B a b) → pd_det n A = pd_det n B
  | 0, _, _, _ => rfl
  | n + 1, A, B, h => by
    simp only [pd_det]
    refine pz_m_congr _ fun i hi => ?_
    rw [h i 0 hi (by omega), pd_congr n _ _ (fun a b ha hb => h _ _ (by unfold pd_skip; split <;> omega) (by omega))]
theorem pd_lin (x : Rat) : ∀ (n : Nat) (A B C : Nat → Nat → Rat) (r : Nat), r < n → (∀ a b, a ≠ r → A a b = B a b ∧ A a b = C a b) → (∀ b, A r b = x * B r b + C r b) → pd_det n A = x * pd_det n B + pd_det n C
  | 0, _, _, _, _, h, _, _ => absurd h (by omega)
  | n + 1, A, B, C, r, hr, ho, hl => by
    simp only [pd_det]
    rw [← pz_m_lin]
    refine pz_m_congr _ fun i hi => ?_
    by_cases e : i = r
    · subst e
      have e1 : pd_det n (fun a b => A (pd_skip i a) (b + 1)) = pd_det n (fun a b => B (pd_skip i a) (b + 1)) := pd_congr n _ _ (fun a b _ _ => (ho _ _ (by unfold pd_skip; split <;> omega)).1)
      have e2 : pd_det n (fun a b => A (pd_skip i a) (b + 1)) = pd_det n (fun a b => C (pd_skip i a) (b + 1)) := pd_congr n _ _ (fun a b _ _ => (ho _ _ (by unfold pd_skip; split <;> omega)).2)
      rw [← e1, ← e2, hl 0]
      grind
    · have hA := ho i 0 e
      have ih := pd_lin x n (fun a b => A (pd_skip i a) (b + 1)) (fun a b => B (pd_skip i a) (b + 1)) (fun a b => C (pd_skip i a) (b + 1)) (if r < i then r else r - 1) (by split <;> omega) (fun a b ha => ho _ _ (by revert ha; unfold pd_skip; split <;> split <;> omega)) (fun b => by
        have hs : pd_skip i (if r < i then r else r - 1) = r := pd_skip_at e
        show A (pd_skip i _) (b + 1) = _
        simp only [hs]
        exact hl (b + 1))
      rw [ih, ← hA.1, ← hA.2]
      grind
/-- two equal rows beside each other -/
theorem pd_eq1 : ∀ (n : Nat) (A : Nat → Nat → Rat) (r : Nat), r + 1 < n → (∀ b, A r b = A (r + 1) b) → pd_det n A = 0
  | 0, _, _, h, _ => absurd h (by omega)
  | n + 1, A, r, hr, he => by
    simp only [pd_det]
    refine pz_m_two (n + 1) r hr (fun i hi h1 h2 => ?_) ?_
    · rw [pd_eq1 n (fun a b => A (pd_skip i a) (b + 1)) (if r < i then r else r - 1) (by split <;> omega) (fun b => ?_)]
      · grind
      · have hs : pd_skip i (if r < i then r else r - 1) = r := pd_skip_at h1
        have hs2 : pd_skip i ((if r < i then r else r - 1) + 1) = r + 1 := by
          rcases Nat.lt_or_ge r i with q | q
          · rw [if_pos q]; exact if_pos (by omega)
          · rw [if_neg (by omega)]; unfold pd_skip; rw [if_neg (by omega)]; omega
        show A (pd_skip i _) (b + 1) = A (pd_skip i _) (b + 1)
        rw [hs, hs2]
        exact he (b + 1)
    · have e : pd_det n (fun a b => A (pd_skip r a) (b + 1)) = pd_det n (fun a b => A (pd_skip (r + 1) a) (b + 1)) := pd_congr n _ _ (fun a b _ _ => by
        unfold pd_skip
        by_cases h : a = r
        · subst h
          rw [if_neg (by omega), if_pos (by omega)]
          exact (he (b + 1)).symm
        · by_cases h2 : a < r
          · rw [if_pos h2, if_pos (by omega)]
          · rw [if_neg h2, if_neg (by omega)])
      rw [e, he 0]
      have hsg : pd_sg (r + 1) = -pd_sg r := by
        unfold pd_sg
        by_cases h : r % 2 = 0
        · rw [if_pos h, if_neg (by omega)]
        · rw [if_neg h, if_pos (by omega)]; grind
      rw [hsg]
      grind
/-- the matrix with the row r replaced -/
def pd_row (A : Nat → Nat → Rat) (r : Nat) (u : Nat → Rat) : Nat → Nat → Rat := fun a b => if a = r then u b else A a b
theorem pd_row_at (A : Nat → Nat → Rat) (r : Nat) (u : Nat → Rat) (b : Nat) : pd_row A r u r b = u b := if_pos rfl
theorem pd_row_ne (A : Nat → Nat → Rat) {r a : Nat} (u : Nat → Rat) (b : Nat) (h : a ≠ r) : pd_row A r u a b = A a b := if_neg h
/-- rows beside each other change places: the sign turns -/
theorem pd_swap (n : Nat) (A : Nat → Nat → Rat) (r : Nat) (hr : r + 1 < n) : pd_det n (pd_row (pd_row A r (A (r + 1))) (r + 1) (A r)) = -pd_det n A := by
  have hs : ∀ u v : Nat → Rat, pd_det n (pd_row (pd_row A r u) (r + 1) v) = pd_det n (pd_row (pd_row A r u) (r + 1) v) := fun _ _ => rfl
  -- both rows u + v
  have z : ∀ u : Nat → Rat, pd_det n (pd_row (pd_row A r u) (r + 1) u) = 0 := fun u => pd_eq1 n _ r hr (fun b => by
    rw [pd_row_at, pd_row_ne _ _ _ (by omega), pd_row_at])
  have l2 : ∀ u v w : Nat → Rat, pd_det n (pd_row (pd_row A r u) (r + 1) (fun b => v b + w b)) = pd_det n (pd_row (pd_row A r u) (r + 1) v) + pd_det n (pd_row (pd_row A r u) (r + 1) w) := fun u v w => by
    rw [pd_lin 1 n _ (pd_row (pd_row A r u) (r + 1) v) (pd_row (pd_row A r u) (r + 1) w) (r + 1) hr (fun a b h => by
      rw [pd_row_ne _ _ _ h, pd_row_ne _ _ _ h, pd_row_ne _ _ _ h]; exact ⟨rfl, rfl⟩) (fun b => by
      rw [pd_row_at, pd_row_at, pd_row_at]; grind)]
    grind
  have l1 : ∀ u v w : Nat → Rat, pd_det n (pd_row (pd_row A r (fun b => u b + v b)) (r + 1) w) = pd_det n (pd_row (pd_row A r u) (r + 1) w) + pd_det n (pd_row (pd_row A r v) (r + 1) w) := fun u v w => by
    rw [pd_lin 1 n _ (pd_row (pd_row A r u) (r + 1) w) (pd_row (pd_row A r v) (r + 1) w) r (by omega) (fun a b h => by
      by_cases h2 : a = r + 1
      · subst h2; rw [pd_row_at, pd_row_at, pd_row_at]; exact ⟨rfl, rfl⟩
      · rw [pd_row_ne _ _ _ h2, pd_row_ne _ _ _ h, pd_row_ne _ _ _ h2, pd_row_ne _ _ _ h, pd_row_ne _ _ _ h2, pd_row_ne _ _ _ h]; exact ⟨rfl, rfl⟩) (fun b => by
      rw [pd_row_ne _ _ _ (by omega), pd_row_at, pd_row_ne _ _ _ (by omega), pd_row_at, pd_row_ne _ _ _ (by omega), pd_row_at]; grind)]
    grind
  have h := z (fun b => A r b + A (r + 1) b)
  rw [l1 (A r) (A (r + 1)), l2, l2, z, z] at h
  have hid : pd_det n (pd_row (pd_row A r (A r)) (r + 1) (A (r + 1))) = pd_det n A := pd_congr n _ _ (fun a b _ _ => by
    by_cases h2 : a = r + 1
    · subst h2; rw [pd_row_at]
    · rw [pd_row_ne _ _ _ h2]
      by_cases h3 : a = r
      · subst h3; rw [pd_row_at]
      · rw [pd_row_ne _ _ _ h3])
  rw [hid] at h
  grind
/-- two equal rows -/
theorem pd_eq2 (n : Nat) : ∀ (k : Nat) (A : Nat → Nat → Rat) (r : Nat), r + 1 + k < n → (∀ b, A r b = A (r + 1 + k) b) → pd_det n A = 0
  | 0, A, r, hr, he => pd_eq1 n A r hr he
  | k + 1, A, r, hr, he => by
    have h1 := pd_swap n A (r + 1 + k) (by omega)
    have h2 := pd_eq2 n k (pd_row (pd_row A (r + 1 + k) (A (r + 1 + k + 1))) (r + 1 + k + 1) (A (r + 1 + k))) r (by omega) (fun b => by
      rw [pd_row_ne _ _ _ (by omega), pd_row_ne _ _ _ (by omega), pd_row_ne _ _ _ (by omega), pd_row_at]
      exact he b)
    rw [h2] at h1
    grind
/-- a multiple of the first row may be added to another -/
theorem pd_add (n : Nat) (A : Nat → Nat → Rat) (r : Nat) (hr : r + 1 < n) (x : Rat) : pd_det n (pd_row A (r + 1) (fun b => x * A 0 b + A (r + 1) b)) = pd_det n A := by
  rw [pd_lin x n _ (pd_row A (r + 1) (A 0)) A (r + 1) hr (fun a b h => by rw [pd_row_ne _ _ _ h, pd_row_ne _ _ _ h]; exact ⟨rfl, rfl⟩) (fun b => by rw [pd_row_at, pd_row_at])]
  rw [pd_eq2 n r (pd_row A (r + 1) (A 0)) 0 (by omega) (fun b => by rw [pd_row_ne _ _ _ (by omega), show 0 + 1 + r = r + 1 by omega, pd_row_at])]
  grind
/-- what is left behind the first pivot -/
def pd_schur (A : Nat → Nat → Rat) : Nat → Nat → Rat := fun a b => A (a + 1) (b + 1) - A (a + 1) 0 * A 0 (b + 1) / A 0 0
def pd_clear (A : Nat → Nat → Rat) (k : Nat) : Nat → Nat → Rat := fun a b => if a = 0 ∨ k < a then A a b else A a b - A a 0 * A 0 b / A 0 0
theorem pd_clear_det (n : Nat) (A : Nat → Nat → Rat) : ∀ k : Nat, k < n → pd_det n (pd_clear A k) = pd_det n A
  | 0, _ => pd_congr n _ _ (fun a b _ _ => by unfold pd_clear; rw [if_pos (by omega)])
  | k + 1, hk => by
    rw [← pd_clear_det n A k (by omega), ← pd_add n (pd_clear A k) k hk (-(A (k + 1) 0 / A 0 0))]
    refine pd_congr n _ _ (fun a b _ _ => ?_)
    by_cases h : a = k + 1
    · subst h
      rw [pd_row_at]
      unfold pd_clear
      rw [if_neg (by omega), if_pos (by omega), if_pos (by omega)]
      grind
    · rw [pd_row_ne _ _ _ h]
      unfold pd_clear
      by_cases h2 : a = 0 ∨ k + 1 < a
      · rw [if_pos h2, if_pos (by omega)]
      · rw [if_neg h2, if_neg (by omega)]
theorem pd_pivot (n : Nat) (A : Nat → Nat → Rat) (h0 : A 0 0 ≠ 0) : pd_det (n + 1) A = A 0 0 * pd_det n (pd_schur A) := by
  rw [← pd_clear_det (n + 1) A n (by omega)]
  rw [pd_det]
  rw [pz_m_first n (fun i hi h => by
    have : pd_clear A n i 0 = 0 := by
      unfold pd_clear
      rw [if_neg (by omega)]
      have := Rat.mul_div_cancel (a := A i 0) h0
      grind
    rw [this]; grind)]
  have e1 : pd_clear A n 0 0 = A 0 0 := by unfold pd_clear; rw [if_pos (by omega)]
  rw [e1, pd_congr n (fun a b => pd_clear A n (pd_skip 0 a) (b + 1)) (pd_schur A) (fun a b ha hb => by
    unfold pd_clear pd_skip pd_schur
    rw [if_neg (by omega : ¬ a < 0), if_neg (by omega)])]
  unfold pd_sg
  rw [if_pos (by omega)]
  grind
/-- whole numbers -/
def pd_Z (x : Rat) : Prop := ∃ z : Int, x = (z : Rat)
theorem pd_Z_add {x y : Rat} (hx : pd_Z x) (hy : pd_Z y) : pd_Z (x + y) := by
  obtain ⟨a, rfl⟩ := hx
  obtain ⟨b, rfl⟩ := hy
  exact ⟨a + b, (Rat.intCast_add a b).symm⟩
theorem pd_Z_mul {x y : Rat} (hx : pd_Z x) (hy : pd_Z y) : pd_Z (x * y) := by
  obtain ⟨a, rfl⟩ := hx
  obtain ⟨b, rfl⟩ := hy
  exact ⟨a * b, (Rat.intCast_mul a b).symm⟩
theorem pd_Z_sum {u : Nat → Rat} : ∀ n : Nat, (∀ k, k < n → pd_Z (u k)) → pd_Z (pz_m n u)
  | 0, _ => ⟨0, rfl⟩
  | n + 1, h => pd_Z_add (pd_Z_sum n (fun k hk => h k (by omega))) (h n (by omega))
theorem pd_Z_det : ∀ (n : Nat) (A : Nat → Nat → Rat), (∀ a b, a < n → b < n → pd_Z (A a b)) → pd_Z (pd_det n A)
  | 0, _, _ => ⟨1, rfl⟩
  | n + 1, A, h => by
    simp only [pd_det]
    refine pd_Z_sum _ fun i hi => pd_Z_mul (pd_Z_mul ?_ (h i 0 hi (by omega))) (pd_Z_det n _ (fun a b ha hb => h _ _ (by unfold pd_skip; split <;> omega) (by omega)))
    unfold pd_sg
    split
    · exact ⟨1, rfl⟩
    · exact ⟨-1, rfl⟩
/-! Elimination: all rows are cleared at each pivot. d times what stands is whole where the matrix is; where the matrix is that of a play that ends, pivots are above 0. -/
def pd_G : Nat → (Nat → Nat → Rat) → Nat → Nat → Rat
  | 0, A => A
  | c + 1, A => fun i j => if i = c then pd_G c A c j / pd_G c A c c else pd_G c A i j - pd_G c A i c * pd_G c A c j / pd_G c A c c
def pd_d : Nat → (Nat → Nat → Rat) → Rat
  | 0, _ => 1
  | c + 1, A => pd_d c A * pd_G c A c c
theorem pd_G_at (c : Nat) (A : Nat → Nat → Rat) (j : Nat) : pd_G (c + 1) A c j = pd_G c A c j / pd_G c A c c := if_pos rfl
theorem pd_G_ne (c : Nat) (A : Nat → Nat → Rat) {i : Nat} (j : Nat) (h : i ≠ c) : pd_G (c + 1) A i j = pd_G c A i j - pd_G c A i c * pd_G c A c j / pd_G c A c c := if_neg h
theorem pd_G_schur (A : Nat → Nat → Rat) : ∀ (c a b : Nat), pd_G (c + 1) A (a + 1) (b + 1) = pd_G c (pd_schur A) a b
  | 0, a, b => by
    rw [pd_G_ne 0 A _ (by omega)]
    rfl
  | c + 1, a, b => by
    by_cases h : a = c
    · subst h
      rw [pd_G_at (a + 1) A, pd_G_at a, pd_G_schur A a, pd_G_schur A a]
    · rw [pd_G_ne (c + 1) A _ (by omega), pd_G_ne c _ _ h, pd_G_schur A c, pd_G_schur A c, pd_G_schur A c, pd_G_schur A c]
theorem pd_d_schur (A : Nat → Nat → Rat) : ∀ c : Nat, pd_d (c + 1) A = A 0 0 * pd_d c (pd_schur A)
  | 0 => by simp only [pd_d, pd_G]; grind
  | c + 1 => by
    rw [pd_d, pd_d_schur A c, pd_G_schur A c, pd_d]
    grind
/-- rows from c on: d times what stands there is the determinant of the first c rows and columns with one row and column more -/
theorem pd_border : ∀ (c : Nat) (A : Nat → Nat → Rat) (r j : Nat), c ≤ r → c ≤ j → (∀ k, k < c → pd_G k A k k ≠ 0) → pd_d c A * pd_G c A r j = pd_det (c + 1) (fun a b => A (if a < c then a else r) (if b < c then b else j))
  | 0, A, r, j, _, _, _ => by
    simp only [pd_d, pd_G, pd_det, pz_m, pd_sg]
    simp
    grind
  | c + 1, A, r, j, hr, hj, hp => by
    obtain ⟨r, rfl⟩ : ∃ x, r = x + 1 := ⟨r - 1, by omega⟩
    obtain ⟨j, rfl⟩ : ∃ x, j = x + 1 := ⟨j - 1, by omega⟩
    have h0 : A 0 0 ≠ 0 := hp 0 (by omega)
    rw [pd_d_schur, pd_G_schur, pd_pivot (c + 1) _ (by simpa using h0)]
    have ih := pd_border c (pd_schur A) r j (by omega) (by omega) (fun k hk => by rw [← pd_G_schur]; exact hp (k + 1) (by omega))
    have e : pd_det (c + 1) (pd_schur (fun a b => A (if a < c + 1 then a else r + 1) (if b < c + 1 then b else j + 1))) = pd_det (c + 1) (fun a b => pd_schur A (if a < c then a else r) (if b < c then b else j)) := by
      refine pd_congr _ _ _ fun a b ha hb => ?_
      unfold pd_schur
      have e1 : (if a + 1 < c + 1 then a + 1 else r + 1) = (if a < c then a else r) + 1 := by
        by_cases h : a < c
        · rw [if_pos h, if_pos (by omega)]
        · rw [if_neg h, if_neg (by omega)]
      have e2 : (if b + 1 < c + 1 then b + 1 else j + 1) = (if b < c then b else j) + 1 := by
        by_cases h : b < c
        · rw [if_pos h, if_pos (by omega)]
        · rw [if_neg h, if_neg (by omega)]
      simp only [e1, e2, if_pos (show 0 < c + 1 by omega)]
    rw [e, ← ih]
    simp only [if_pos (show 0 < c + 1 by omega)]
    grind
/-- pivot columns are cleared -/
theorem pd_unit (A : Nat → Nat → Rat) : ∀ (c : Nat), (∀ k, k < c → pd_G k A k k ≠ 0) → ∀ i j, j < c → pd_G c A i j = if i = j then 1 else 0
  | 0, _, i, j, h => absurd h (by omega)
  | c + 1, hp, i, j, hj => by
    have hc := hp c (by omega)
    rcases Nat.lt_or_ge j c with q | q
    · have ih := pd_unit A c (fun k hk => hp k (by omega))
      by_cases h : i = c
      · subst h
        rw [pd_G_at, ih i j q, if_neg (by omega)]
        grind
      · rw [pd_G_ne c A j h, ih i j q, ih c j q, if_neg (by omega : ¬ c = j)]
        grind
    · have e : j = c := by omega
      subst e
      by_cases h : i = j
      · subst h
        rw [pd_G_at, if_pos rfl]
        have := Rat.mul_inv_cancel _ hc
        grind
      · rw [pd_G_ne j A j h, if_neg h]
        have := Rat.mul_div_cancel (a := pd_G j A i j) hc
        grind
/-- with one row R in place of A's: minus the unit row of i -/
def pd_aug (A : Nat → Nat → Rat) (R i : Nat) : Nat → Nat → Rat := fun a b => if a = R then (if b = i then -1 else 0) else A a b
theorem pd_aug_other (A : Nat → Nat → Rat) (R i : Nat) : ∀ c, c ≤ R → ∀ a b, a ≠ R → pd_G c (pd_aug A R i) a b = pd_G c A a b
  | 0, _, a, b, h => if_neg h
  | c + 1, hc, a, b, h => by
    have ih := pd_aug_other A R i c (by omega)
    by_cases e : a = c
    · subst e
      rw [pd_G_at, pd_G_at, ih a b h, ih a a h]
    · rw [pd_G_ne c _ b e, pd_G_ne c A b e, ih a b h, ih a c h, ih c b (by omega), ih c c (by omega)]
theorem pd_aug_before (A : Nat → Nat → Rat) (R i : Nat) : ∀ c, c ≤ R → c ≤ i → ∀ b, pd_G c (pd_aug A R i) R b = if b = i then -1 else 0
  | 0, _, _, b => if_pos rfl
  | c + 1, hc, hi, b => by
    have ih := pd_aug_before A R i c (by omega) (by omega)
    rw [pd_G_ne c _ b (by omega), ih b, ih c, if_neg (by omega : ¬ c = i)]
    grind
theorem pd_aug_behind (A : Nat → Nat → Rat) (R i : Nat) (hiR : i < R) : ∀ c, i < c → c ≤ R → (∀ k, k < c → pd_G k A k k ≠ 0) → ∀ b, b ≠ i → pd_G c (pd_aug A R i) R b = pd_G c A i b
  | 0, h, _, _, _, _ => absurd h (by omega)
  | c + 1, h, hc, hp, b, hb => by
    by_cases e : i = c
    · subst e
      rw [pd_G_ne i _ b (by omega), pd_aug_before A R i i (by omega) (by omega), pd_aug_before A R i i (by omega) (by omega), if_neg hb, if_pos rfl, pd_aug_other A R i i (by omega) i b (by omega), pd_aug_other A R i i (by omega) i i (by omega), pd_G_at]
      grind
    · have ih := pd_aug_behind A R i hiR c (by omega) (by omega) (fun k hk => hp k (by omega))
      rw [pd_G_ne c _ b (by omega), pd_G_ne c A b e, ih b hb, ih c (fun q => e q.symm), pd_aug_other A R i c (by omega) c b (by omega), pd_aug_other A R i c (by omega) c c (by omega)]
theorem pd_aug_d (A : Nat → Nat → Rat) (R i : Nat) : ∀ c, c ≤ R → pd_d c (pd_aug A R i) = pd_d c A
  | 0, _ => rfl
  | c + 1, hc => by rw [pd_d, pd_d, pd_aug_d A R i c (by omega), pd_aug_other A R i c (by omega) c c (by omega)]
/-- WHOLE: of a matrix of whole numbers, d times what stands is whole, everywhere -/
theorem pd_whole (A : Nat → Nat → Rat) (hA : ∀ a b, pd_Z (A a b)) : ∀ c, (∀ k, k < c → pd_G k A k k ≠ 0) → pd_Z (pd_d c A) ∧ ∀ i j, pd_Z (pd_d c A * pd_G c A i j) := by
  intro c hp
  have hrow : ∀ (B : Nat → Nat → Rat), (∀ a b, pd_Z (B a b)) → ∀ c, (∀ k, k < c → pd_G k B k k ≠ 0) → ∀ r j, c ≤ r → c ≤ j → pd_Z (pd_d c B * pd_G c B r j) := by
    intro B hB c hp r j hr hj
    rw [pd_border c B r j hr hj hp]
    exact pd_Z_det _ _ (fun a b _ _ => hB _ _)
  have hd : pd_Z (pd_d c A) := by
    cases c with
    | zero => exact ⟨1, rfl⟩
    | succ c =>
      rw [pd_d]
      exact hrow A hA c (fun k hk => hp k (by omega)) c c (by omega) (by omega)
  refine ⟨hd, fun i j => ?_⟩
  rcases Nat.lt_or_ge j c with hj | hj
  · rw [pd_unit A c hp i j hj]
    split
    · rw [Rat.mul_one]; exact hd
    · rw [Rat.mul_zero]; exact ⟨0, rfl⟩
  · rcases Nat.lt_or_ge i c with hi | hi
    · have hB : ∀ a b, pd_Z (pd_aug A c i a b) := fun a b => by
        unfold pd_aug
        split
        · split
          · exact ⟨-1, rfl⟩
          · exact ⟨0, rfl⟩
        · exact hA a b
      have hpB : ∀ k, k < c → pd_G k (pd_aug A c i) k k ≠ 0 := fun k hk => by
        rw [pd_aug_other A c i k (by omega) k k (by omega)]; exact hp k hk
      have := hrow (pd_aug A c i) hB c hpB c j (by omega) hj
      rw [pd_aug_d A c i c (by omega), pd_aug_behind A c i hi c hi (by omega) hp j (by omega)] at this
      exact this
    · exact hrow A hA c hp i j hi hj
/-! Matrices of plays: nothing above 0 beside the diagonal, some vector above 0 that is sent above 0. Elimination keeps that; pivots are above 0; what stands is bounded; the numbers behind solve the rows. -/
theorem pz_m_pos {u : Nat → Rat} {n c : Nat} (hc : c < n) (h : ∀ k, k < n → k ≠ c → u k ≤ 0) (hs : 0 < pz_m n u) : 0 < u c := by
  by_cases q : 0 < u c
  · exact q
  · exfalso
    have : pz_m n u ≤ pz_m n (fun _ => 0) := pz_m_le n (fun k hk => by
      by_cases e : k = c
      · subst e; grind
      · exact h k hk e)
    rw [pz_m_zero (fun _ _ => rfl)] at this
    grind
/-- a sum whose other terms are not above 0 is at most its own term -/
theorem pz_m_own {u : Nat → Rat} : ∀ (n c : Nat), c < n → (∀ k, k < n → k ≠ c → u k ≤ 0) → pz_m n u ≤ u c
  | 0, _, h, _ => absurd h (by omega)
  | n + 1, c, hc, h => by
    simp only [pz_m]
    by_cases e : c = n
    · subst e
      have : pz_m c u ≤ pz_m c (fun _ => 0) := pz_m_le c (fun k hk => h k (by omega) (by omega))
      rw [pz_m_zero (fun _ _ => rfl)] at this
      grind
    · have h1 := pz_m_own n c (by omega) (fun k hk => h k (by omega))
      have h2 := h n (by omega) (fun q => e q.symm)
      grind
/-- .. and at most its own and another term -/
theorem pz_m_own2 {u : Nat → Rat} : ∀ (n c j : Nat), c < n → j < n → j ≠ c → (∀ k, k < n → k ≠ c → u k ≤ 0) → pz_m n u ≤ u c + u j
  | 0, _, _, h, _, _, _ => absurd h (by omega)
  | n + 1, c, j, hc, hj, hne, h => by
    simp only [pz_m]
    by_cases e : c = n
    · subst e
      have h1 := pz_m_le c (u := u) (v := fun k => if k = j then u j else 0) (fun k hk => by
        by_cases q : k = j
        · subst q; rw [if_pos rfl]; exact Rat.le_refl
        · rw [if_neg q]; exact h k (by omega) (by omega))
      have h2 : pz_m c (fun k => if k = j then u j else 0) ≤ u j := by
        have := pz_m_own c j (u := fun k => if k = j then u j else 0) (by omega) (fun k hk q => by rw [if_neg q]; exact Rat.le_refl)
        rw [if_pos rfl] at this
        exact this
      grind
    · by_cases e2 : j = n
      · subst e2
        have := pz_m_own j c (by omega) (fun k hk => h k (by omega))
        grind
      · have h1 := pz_m_own2 n c j (by omega) (by omega) hne (fun k hk => h k (by omega))
        have h2 := h n (by omega) (fun q => e q.symm)
        grind
section PM
variable (n : Nat)
/-- nothing above 0 beside the diagonal -/
def pm_O (A : Nat → Nat → Rat) : Prop := ∀ i j, i < n → j < n → i ≠ j → A i j ≤ 0
/-- the row i times y -/
def pm_s (A : Nat → Nat → Rat) (y : Nat → Rat) (i : Nat) : Rat := pz_m n (fun j => A i j * y j)
variable {n}
theorem pm_s_at (A : Nat → Nat → Rat) (y : Nat → Rat) (c : Nat) : pm_s n (pd_G (c + 1) A) y c = pm_s n (pd_G c A) y c / pd_G c A c c := by
  unfold pm_s
  rw [pz_m_congr n (v := fun j => (pd_G c A c c)⁻¹ * (pd_G c A c j * y j) + 0) (fun j _ => by rw [pd_G_at]; grind), pz_m_lin, pz_m_zero (fun _ _ => rfl)]
  grind
theorem pm_s_ne (A : Nat → Nat → Rat) (y : Nat → Rat) {c i : Nat} (h : i ≠ c) : pm_s n (pd_G (c + 1) A) y i = pm_s n (pd_G c A) y i - pd_G c A i c / pd_G c A c c * pm_s n (pd_G c A) y c := by
  unfold pm_s
  rw [pz_m_congr n (v := fun j => (-(pd_G c A i c / pd_G c A c c)) * (pd_G c A c j * y j) + pd_G c A i j * y j) (fun j _ => by rw [pd_G_ne c A j h]; grind), pz_m_lin]
  grind
theorem pm_mul_nonpos {a b : Rat} (ha : a ≤ 0) (hb : b ≤ 0) : 0 ≤ a * b := by
  have := Rat.mul_nonneg (a := -a) (b := -b) (by grind) (by grind)
  grind
theorem pm_div_nonpos {a b : Rat} (ha : a ≤ 0) (hb : 0 < b) : a / b ≤ 0 := by
  have := Rat.mul_nonneg (a := -a) (b := b⁻¹) (by grind) (Rat.le_of_lt (Rat.inv_pos.mpr hb))
  rw [Rat.div_def]
  grind
theorem pm_div_pos {a b : Rat} (ha : 0 < a) (hb : 0 < b) : 0 < a / b := by
  rw [Rat.div_def]
  exact Rat.mul_pos ha (Rat.inv_pos.mpr hb)
theorem pm_div_nonneg {a b : Rat} (ha : 0 ≤ a) (hb : 0 < b) : 0 ≤ a / b := by
  rw [Rat.div_def]
  exact Rat.mul_nonneg ha (Rat.le_of_lt (Rat.inv_pos.mpr hb))
/-- THE STEPS: what elimination keeps, up to any pivot -/
theorem pm_keep {A : Nat → Nat → Rat} {x : Nat → Rat} (hO : pm_O n A) (hx : ∀ j, j < n → 0 < x j) (hX : ∀ i, i < n → 0 < pm_s n A x i) : ∀ c, c ≤ n → pm_O n (pd_G c A) ∧ (∀ i, i < n → 0 < pm_s n (pd_G c A) x i) ∧ ∀ k, k < c → 0 < pd_G k A k k
  | 0, _ => ⟨hO, hX, fun k hk => absurd hk (by omega)⟩
  | c + 1, hc => by
    obtain ⟨iO, iX, iP⟩ := pm_keep hO hx hX c (by omega)
    have hp : 0 < pd_G c A c c := by
      have h1 := iX c (by omega)
      unfold pm_s at h1
      have h2 := pz_m_pos (c := c) (by omega) (fun k hk q => by
        have := Rat.mul_nonneg (a := -pd_G c A c k) (b := x k) (by have := iO c k (by omega) hk (fun e => q e.symm); grind) (Rat.le_of_lt (hx k hk))
        grind) h1
      have h3 := hx c (by omega)
      by_cases q : 0 < pd_G c A c c
      · exact q
      · have := Rat.mul_nonneg (a := -pd_G c A c c) (b := x c) (by grind) (Rat.le_of_lt h3)
        grind
    refine ⟨fun i j hi hj hne => ?_, fun i hi => ?_, fun k hk => ?_⟩
    · by_cases e : i = c
      · subst e
        rw [pd_G_at]
        exact pm_div_nonpos (iO i j hi hj hne) hp
      · rw [pd_G_ne c A j e]
        by_cases e2 : j = c
        · subst e2
          have := Rat.mul_div_cancel (a := pd_G j A i j) (Rat.ne_of_gt hp)
          grind
        · have h1 := iO i j hi hj hne
          have h2 := pm_div_nonneg (pm_mul_nonpos (iO i c hi (by omega) e) (iO c j (by omega) hj (fun q => e2 q.symm))) hp
          grind
    · by_cases e : i = c
      · subst e
        rw [pm_s_at]
        exact pm_div_pos (iX i hi) hp
      · rw [pm_s_ne A x e]
        have h1 := pm_div_nonpos (iO i c hi (by omega) e) hp
        have h2 := iX c (by omega)
        have h3 := iX i hi
        have := Rat.mul_nonneg (a := -(pd_G c A i c / pd_G c A c c)) (b := pm_s n (pd_G c A) x c) (by grind) (Rat.le_of_lt h2)
        grind
    · rcases Nat.lt_or_ge k c with q | q
      · exact iP k q
      · rw [show k = c by omega]; exact hp
/-- a vector that is sent to nothing below 0 stays so; a last column that it bounds stays bounded -/
theorem pm_bound {A : Nat → Nat → Rat} {x y : Nat → Rat} {K : Rat} (hO : pm_O n A) (hx : ∀ j, j < n → 0 < x j) (hX : ∀ i, i < n → 0 < pm_s n A x i) (hY : ∀ i, i < n → 0 ≤ pm_s n A y i) (hK : ∀ i, i < n → A i n ≤ K * pm_s n A y i ∧ -(K * pm_s n A y i) ≤ A i n) : ∀ c, c ≤ n → (∀ i, i < n → 0 ≤ pm_s n (pd_G c A) y i) ∧ ∀ i, i < n → pd_G c A i n ≤ K * pm_s n (pd_G c A) y i ∧ -(K * pm_s n (pd_G c A) y i) ≤ pd_G c A i n
  | 0, _ => ⟨hY, hK⟩
  | c + 1, hc => by
    obtain ⟨iY, iK⟩ := pm_bound hO hx hX hY hK c (by omega)
    obtain ⟨iO, -, -⟩ := pm_keep hO hx hX c (by omega)
    have hp : 0 < pd_G c A c c := (pm_keep hO hx hX (c + 1) hc).2.2 c (by omega)
    have hi0 := Rat.inv_pos.mpr hp
    have hcY := iY c (by omega)
    obtain ⟨k1, k2⟩ := iK c (by omega)
    refine ⟨fun i hi => ?_, fun i hi => ?_⟩
    · by_cases e : i = c
      · subst e
        rw [pm_s_at]
        exact pm_div_nonneg (iY i hi) hp
      · rw [pm_s_ne A y e]
        have h1 := pm_div_nonpos (iO i c hi (by omega) e) hp
        have h3 := iY i hi
        have := Rat.mul_nonneg (a := -(pd_G c A i c / pd_G c A c c)) (b := pm_s n (pd_G c A) y c) (by grind) hcY
        grind
    · by_cases e : i = c
      · subst e
        rw [pm_s_at, pd_G_at, Rat.div_def, Rat.div_def]
        have a1 := Rat.mul_le_mul_of_nonneg_right k1 (Rat.le_of_lt hi0)
        have a2 := Rat.mul_le_mul_of_nonneg_right k2 (Rat.le_of_lt hi0)
        constructor <;> grind
      · rw [pm_s_ne A y e, pd_G_ne c A n e]
        have h1 := pm_div_nonpos (iO i c hi (by omega) e) hp
        obtain ⟨j1, j2⟩ := iK i hi
        have a1 := Rat.mul_le_mul_of_nonneg_left (c := -(pd_G c A i c / pd_G c A c c)) k1 (by grind)
        have a2 := Rat.mul_le_mul_of_nonneg_left (c := -(pd_G c A i c / pd_G c A c c)) k2 (by grind)
        have e3 : pd_G c A i c * pd_G c A c n / pd_G c A c c = pd_G c A i c / pd_G c A c c * pd_G c A c n := by rw [Rat.div_def, Rat.div_def]; grind
        rw [e3]
        constructor <;> grind
/-- diagonals only fall -/
theorem pm_diag {A : Nat → Nat → Rat} {x : Nat → Rat} (hO : pm_O n A) (hx : ∀ j, j < n → 0 < x j) (hX : ∀ i, i < n → 0 < pm_s n A x i) : ∀ c, c ≤ n → ∀ i, i < n → c ≤ i → pd_G c A i i ≤ A i i
  | 0, _, i, _, _ => Rat.le_refl
  | c + 1, hc, i, hi, hci => by
    have ih := pm_diag hO hx hX c (by omega) i hi (by omega)
    obtain ⟨iO, -, -⟩ := pm_keep hO hx hX c (by omega)
    have hp : 0 < pd_G c A c c := (pm_keep hO hx hX (c + 1) hc).2.2 c (by omega)
    rw [pd_G_ne c A i (by omega)]
    have := pm_div_nonneg (pm_mul_nonpos (iO i c hi (by omega) (by omega)) (iO c i (by omega) hi (by omega))) hp
    grind
/-- the numbers behind all pivots solve the rows -/
theorem pm_solve {A : Nat → Nat → Rat} (hp : ∀ k, k < n → pd_G k A k k ≠ 0) : ∀ i, i < n → pm_s n A (fun j => pd_G n A j n) i = A i n := by
  have key : ∀ m c, c + m = n → ∀ i, i < n → pm_s n (pd_G c A) (fun j => pd_G n A j n) i = pd_G c A i n := by
    intro m
    induction m with
    | zero =>
      intro c hc i hi
      have e : c = n := by omega
      subst e
      unfold pm_s
      have h1 : ∀ j, j < c → pd_G c A i j * pd_G c A j c = if j = i then pd_G c A i c else 0 := fun j hj => by
        rw [pd_unit A c hp i j hj]
        by_cases q : i = j
        · subst q; rw [if_pos rfl, if_pos rfl]; grind
        · rw [if_neg q, if_neg (fun e => q e.symm)]; grind
      rw [pz_m_congr c h1]
      have h2 : ∀ N : Nat, i < N → pz_m N (fun j => if j = i then pd_G c A i c else 0) = pd_G c A i c := by
        intro N
        induction N with
        | zero => intro h; exact absurd h (by omega)
        | succ N ih =>
          intro h
          simp only [pz_m]
          by_cases q : N = i
          · subst q
            rw [if_pos rfl, pz_m_zero (fun k hk => if_neg (by omega))]
            grind
          · rw [ih (by omega), if_neg q]; grind
      exact h2 c hi
    | succ m ih =>
      intro c hc i hi
      have hcp := hp c (by omega)
      have hc1 := ih (c + 1) (by omega) c (by omega)
      rw [pm_s_at, pd_G_at] at hc1
      have hrow : pm_s n (pd_G c A) (fun j => pd_G n A j n) c = pd_G c A c n := by
        have := congrArg (fun z => z * pd_G c A c c) hc1
        simp only [Rat.div_mul_cancel hcp] at this
        exact this
      by_cases e : i = c
      · subst e; exact hrow
      · have hi1 := ih (c + 1) (by omega) i hi
        rw [pm_s_ne A _ e, pd_G_ne c A n e, hrow] at hi1
        have e3 : pd_G c A i c * pd_G c A c n / pd_G c A c c = pd_G c A i c / pd_G c A c c * pd_G c A c n := by rw [Rat.div_def, Rat.div_def]; grind
        rw [e3] at hi1
        grind
  exact fun i hi => key n 0 (by omega) i hi
end PM
/-! Elimination in whole numbers: what stands in the rows at each step, as whole numbers, and how large it is. Pure. -/
section EL
/-- the rows, as fractions -/
def eA (A : Nat → Nat → Int) : Nat → Nat → Rat := fun i j => (A i j : Rat)
/-- what stands in the rows before step c -/
def eX (A : Nat → Nat → Int) (c i j : Nat) : Int := (pd_d c (eA A) * pd_G c (eA A) i j).num
/-- what the step c divides by -/
def eb (A : Nat → Nat → Int) (c : Nat) : Int := (pd_d c (eA A)).num
/-- the diagonal's product -/
def eP (A : Nat → Nat → Int) : Nat → Int
  | 0 => 1
  | k + 1 => eP A k * A k k
/-- rows that elimination goes through -/
def EH (n : Nat) (A : Nat → Nat → Int) : Prop := (∀ i j, i < n → j < n → i ≠ j → A i j ≤ 0) ∧ (∃ x : Nat → Rat, (∀ j, j < n → 0 < x j) ∧ ∀ i, i < n → 0 < pm_s n (eA A) x i) ∧ (∀ i, i < n → 0 ≤ pm_s n (eA A) (fun _ => 1) i) ∧ eP A n ≤ 400000000
variable {n : Nat} {A : Nat → Nat → Int}
theorem EH.o (h : EH n A) : ∀ i j, i < n → j < n → i ≠ j → A i j ≤ 0 := h.1
theorem EH.x (h : EH n A) : ∃ x : Nat → Rat, (∀ j, j < n → 0 < x j) ∧ ∀ i, i < n → 0 < pm_s n (eA A) x i := h.2.1
theorem EH.r (h : EH n A) : ∀ i, i < n → 0 ≤ pm_s n (eA A) (fun _ => 1) i := h.2.2.1
theorem EH.d (h : EH n A) : eP A n ≤ 400000000 := h.2.2.2
theorem pd_Z_num {x : Rat} (h : pd_Z x) : (x.num : Rat) = x := by
  obtain ⟨z, rfl⟩ := h
  rfl
theorem EH.pO (h : EH n A) : pm_O n (eA A) := fun i j hi hj e => by
  have := h.o i j hi hj e
  show (A i j : Rat) ≤ 0
  exact_mod_cast this
theorem EH.piv (h : EH n A) : ∀ k, k < n → 0 < pd_G k (eA A) k k := by
  obtain ⟨x, h1, h2⟩ := h.x
  intro k hk
  exact (pm_keep h.pO h1 h2 n (Nat.le_refl n)).2.2 k hk
theorem EH.whole (h : EH n A) {c : Nat} (hc : c ≤ n) : pd_Z (pd_d c (eA A)) ∧ ∀ i j, pd_Z (pd_d c (eA A) * pd_G c (eA A) i j) := pd_whole (eA A) (fun a b => ⟨A a b, rfl⟩) c (fun k hk => Rat.ne_of_gt (h.piv k (by omega)))
theorem EH.castX (h : EH n A) {c : Nat} (hc : c ≤ n) (i j : Nat) : ((eX A c i j : Int) : Rat) = pd_d c (eA A) * pd_G c (eA A) i j := pd_Z_num ((h.whole hc).2 i j)
theorem EH.castb (h : EH n A) {c : Nat} (hc : c ≤ n) : ((eb A c : Int) : Rat) = pd_d c (eA A) := pd_Z_num (h.whole hc).1
theorem pd_d_pos {B : Nat → Nat → Rat} : ∀ c, (∀ k, k < c → 0 < pd_G k B k k) → 0 < pd_d c B
  | 0, _ => by show (0 : Rat) < 1; decide
  | c + 1, h => by
    show 0 < pd_d c B * pd_G c B c c
    exact Rat.mul_pos (pd_d_pos c (fun k hk => h k (by omega))) (h c (by omega))
theorem EH.dpos (h : EH n A) {c : Nat} (hc : c ≤ n) : 0 < pd_d c (eA A) := pd_d_pos c (fun k hk => h.piv k (by omega))
theorem EH.bpos (h : EH n A) {c : Nat} (hc : c ≤ n) : 0 < eb A c := by
  have := h.dpos hc
  rw [← h.castb hc] at this
  exact_mod_cast this
theorem e_b0 (A : Nat → Nat → Int) : eb A 0 = 1 := rfl
theorem e_X0 (A : Nat → Nat → Int) (i j : Nat) : eX A 0 i j = A i j := by
  show ((1 : Rat) * (A i j : Rat)).num = A i j
  rw [Rat.one_mul]
  rfl
theorem e_bS (A : Nat → Nat → Int) (c : Nat) : eb A (c + 1) = eX A c c c := rfl
theorem EH.ppos (h : EH n A) {c : Nat} (hc : c < n) : 0 < eX A c c c := by rw [← e_bS]; exact h.bpos (by omega)
theorem EH.row (h : EH n A) {c : Nat} (hc : c < n) (j : Nat) : eX A (c + 1) c j = eX A c c j := by
  have hp := Rat.ne_of_gt (h.piv c hc)
  have e : ((eX A (c + 1) c j : Int) : Rat) = ((eX A c c j : Int) : Rat) := by
    rw [h.castX (by omega), h.castX (by omega), pd_G_at]
    show pd_d c (eA A) * pd_G c (eA A) c c * (pd_G c (eA A) c j / pd_G c (eA A) c c) = _
    rw [Rat.div_def]
    have := Rat.mul_inv_cancel _ hp
    grind
  exact_mod_cast e
theorem EH.step (h : EH n A) {c : Nat} (hc : c < n) {i : Nat} (hi : i ≠ c) (j : Nat) : eX A (c + 1) i j * eb A c = eX A c i j * eX A c c c - eX A c i c * eX A c c j := by
  have hp := Rat.ne_of_gt (h.piv c hc)
  have e : ((eX A (c + 1) i j * eb A c : Int) : Rat) = ((eX A c i j * eX A c c c - eX A c i c * eX A c c j : Int) : Rat) := by
    rw [Rat.intCast_sub, Rat.intCast_mul, Rat.intCast_mul, Rat.intCast_mul, h.castX (by omega), h.castX (by omega), h.castX (by omega), h.castX (by omega), h.castX (by omega), h.castb (by omega), pd_G_ne c _ j hi]
    show pd_d c (eA A) * pd_G c (eA A) c c * (pd_G c (eA A) i j - pd_G c (eA A) i c * pd_G c (eA A) c j / pd_G c (eA A) c c) * pd_d c (eA A) = _
    rw [Rat.div_def]
    have := Rat.mul_inv_cancel _ hp
    grind
  exact_mod_cast e
theorem EH.unit (h : EH n A) {c : Nat} (hc : c ≤ n) (i j : Nat) (hj : j < c) : eX A c i j = if i = j then eb A c else 0 := by
  have e : ((eX A c i j : Int) : Rat) = ((if i = j then eb A c else 0 : Int) : Rat) := by
    rw [h.castX hc, pd_unit (eA A) c (fun k hk => Rat.ne_of_gt (h.piv k (by omega))) i j hj]
    by_cases q : i = j
    · rw [if_pos q, if_pos q, h.castb hc, Rat.mul_one]
    · rw [if_neg q, if_neg q, Rat.mul_zero]; rfl
  exact_mod_cast e
theorem EH.adiag (h : EH n A) {i : Nat} (hi : i < n) : 1 ≤ A i i := by
  obtain ⟨x, h1, h2⟩ := h.x
  have h3 := h2 i hi
  unfold pm_s at h3
  have h4 := pz_m_pos (c := i) hi (fun k hk q => by
    have := Rat.mul_nonneg (a := -eA A i k) (b := x k) (by have := h.pO i k hi hk (fun e => q e.symm); grind) (Rat.le_of_lt (h1 k hk))
    grind) h3
  have h5 : 0 < eA A i i := by
    by_cases q : 0 < eA A i i
    · exact q
    · have := Rat.mul_nonneg (a := -eA A i i) (b := x i) (by grind) (Rat.le_of_lt (h1 i hi))
      grind
  have h6 : (0 : Rat) < ((A i i : Int) : Rat) := h5
  have h7 : 0 < A i i := by exact_mod_cast h6
  omega
theorem eP_pos (h : ∀ i, i < n → 1 ≤ A i i) : ∀ c, c ≤ n → 1 ≤ eP A c
  | 0, _ => by show (1 : Int) ≤ 1; omega
  | c + 1, hc => by
    have h1 := eP_pos h c (by omega)
    have h2 := h c (by omega)
    show 1 ≤ eP A c * A c c
    have := Int.mul_le_mul h1 h2 (by omega) (by omega)
    omega
theorem eP_le (h : ∀ i, i < n → 1 ≤ A i i) {c : Nat} : ∀ m, c ≤ m → m ≤ n → eP A c ≤ eP A m
  | 0, h1, _ => by rw [show c = 0 by omega]; exact Int.le_refl _
  | m + 1, h1, h2 => by
    by_cases e : c = m + 1
    · rw [e]; exact Int.le_refl _
    · have a1 := eP_le h (c := c) m (by omega) (by omega)
      have a2 := h m (by omega)
      have a3 := eP_pos h m (by omega)
      show _ ≤ eP A m * A m m
      have : eP A m * 1 ≤ eP A m * A m m := Int.mul_le_mul_of_nonneg_left a2 (by omega)
      omega
theorem eP_with (h : ∀ i, i < n → 1 ≤ A i i) {c i : Nat} (hci : c ≤ i) : ∀ m, i < m → m ≤ n → eP A c * A i i ≤ eP A m
  | 0, h1, _ => absurd h1 (by omega)
  | m + 1, h1, h2 => by
    show _ ≤ eP A m * A m m
    by_cases e : i = m
    · subst e
      exact Int.mul_le_mul_of_nonneg_right (eP_le h i hci (by omega)) (by have := h i (by omega); omega)
    · have a1 := eP_with h hci m (by omega) (by omega)
      have a2 := h m (by omega)
      have a3 := eP_pos h m (by omega)
      have : eP A m * 1 ≤ eP A m * A m m := Int.mul_le_mul_of_nonneg_left a2 (by omega)
      omega
theorem EH.dle (h : EH n A) : ∀ c, c ≤ n → pd_d c (eA A) ≤ ((eP A c : Int) : Rat)
  | 0, _ => Rat.le_refl
  | c + 1, hc => by
    obtain ⟨x, h1, h2⟩ := h.x
    have ih := h.dle c (by omega)
    have a1 := pm_diag h.pO h1 h2 c (by omega) c (by omega) (Nat.le_refl c)
    have a2 := h.piv c (by omega)
    have a3 := h.dpos (c := c) (by omega)
    show pd_d c (eA A) * pd_G c (eA A) c c ≤ ((eP A c * A c c : Int) : Rat)
    rw [Rat.intCast_mul]
    have b1 := Rat.mul_le_mul_of_nonneg_right (c := pd_G c (eA A) c c) ih (Rat.le_of_lt a2)
    have b2 : (0 : Rat) ≤ ((eP A c : Int) : Rat) := by grind
    have b3 := Rat.mul_le_mul_of_nonneg_left (c := ((eP A c : Int) : Rat)) a1 b2
    have b4 : eA A c c = ((A c c : Int) : Rat) := rfl
    grind
/-- a row's own place bounds the row -/
theorem EH.own (h : EH n A) {c : Nat} (hc : c ≤ n) {i : Nat} (hi : i < n) : pd_d c (eA A) * pd_G c (eA A) i i ≤ ((eP A n : Int) : Rat) ∧ 0 ≤ pd_G c (eA A) i i := by
  obtain ⟨x, h1, h2⟩ := h.x
  have hd := h.dpos hc
  have hl := h.dle c hc
  have had : ∀ i, i < n → 1 ≤ A i i := fun i hi => h.adiag hi
  by_cases q : c ≤ i
  · have a1 := pm_diag h.pO h1 h2 c hc i hi q
    have a2 : 0 ≤ pd_G c (eA A) i i := by
      have b1 := (pm_keep h.pO h1 h2 c hc).2.1 i hi
      unfold pm_s at b1
      have b2 := pz_m_pos (c := i) hi (fun k hk q => by
        have := Rat.mul_nonneg (a := -pd_G c (eA A) i k) (b := x k) (by have := (pm_keep h.pO h1 h2 c hc).1 i k hi hk (fun e => q e.symm); grind) (Rat.le_of_lt (h1 k hk))
        grind) b1
      by_cases z : 0 ≤ pd_G c (eA A) i i
      · exact z
      · have := Rat.mul_nonneg (a := -pd_G c (eA A) i i) (b := x i) (by grind) (Rat.le_of_lt (h1 i hi))
        grind
    have a3 := eP_with had q n hi (Nat.le_refl n)
    have a4 : ((eP A c : Int) : Rat) * ((A i i : Int) : Rat) ≤ ((eP A n : Int) : Rat) := by rw [← Rat.intCast_mul]; exact_mod_cast a3
    have b1 := Rat.mul_le_mul_of_nonneg_right (c := pd_G c (eA A) i i) hl a2
    have b2 : (0 : Rat) ≤ ((eP A c : Int) : Rat) := by grind
    have b3 := Rat.mul_le_mul_of_nonneg_left (c := ((eP A c : Int) : Rat)) a1 b2
    have b4 : eA A i i = ((A i i : Int) : Rat) := rfl
    exact ⟨by grind, a2⟩
  · have a1 := pd_unit (eA A) c (fun k hk => Rat.ne_of_gt (h.piv k (by omega))) i i (by omega)
    rw [if_pos rfl] at a1
    rw [a1, Rat.mul_one]
    have a3 := eP_le had n hc (Nat.le_refl n)
    have a4 : ((eP A c : Int) : Rat) ≤ ((eP A n : Int) : Rat) := by exact_mod_cast a3
    exact ⟨by grind, by decide⟩
theorem EH.rows (h : EH n A) : ∀ c, c ≤ n → ∀ i, i < n → 0 ≤ pm_s n (pd_G c (eA A)) (fun _ => 1) i
  | 0, _, i, hi => h.r i hi
  | c + 1, hc, i, hi => by
    obtain ⟨x, h1, h2⟩ := h.x
    have iY := h.rows c (by omega)
    have iO := (pm_keep h.pO h1 h2 c (by omega)).1
    have hp := h.piv c (by omega)
    by_cases e : i = c
    · subst e
      rw [pm_s_at]
      exact pm_div_nonneg (iY i hi) hp
    · rw [pm_s_ne (eA A) _ e]
      have h1 := pm_div_nonpos (iO i c hi (by omega) e) hp
      have h3 := iY i hi
      have := Rat.mul_nonneg (a := -(pd_G c (eA A) i c / pd_G c (eA A) c c)) (b := pm_s n (pd_G c (eA A)) (fun _ => 1) c) (by grind) (iY c (by omega))
      grind
theorem EH.blt (h : EH n A) {c : Nat} (hc : c ≤ n) : eb A c ≤ 400000000 := by
  have hl := h.dle c hc
  rw [← h.castb hc] at hl
  have a1 : eb A c ≤ eP A c := by exact_mod_cast hl
  have a3 := eP_le (fun i hi => h.adiag hi) n hc (Nat.le_refl n)
  have := h.d
  omega
theorem EH.bnd (h : EH n A) {c : Nat} (hc : c ≤ n) {i j : Nat} (hi : i < n) (hj : j < n) : -400000000 ≤ eX A c i j ∧ eX A c i j ≤ 400000000 := by
  obtain ⟨x, h1, h2⟩ := h.x
  have hd := h.dpos hc
  obtain ⟨w1, w2⟩ := h.own hc hi
  have e : -((eP A n : Int) : Rat) ≤ ((eX A c i j : Int) : Rat) ∧ ((eX A c i j : Int) : Rat) ≤ ((eP A n : Int) : Rat) := by
    rw [h.castX hc]
    by_cases q : j = i
    · subst q
      have := Rat.mul_nonneg (Rat.le_of_lt hd) w2
      exact ⟨by grind, w1⟩
    · have iO := (pm_keep h.pO h1 h2 c hc).1
      have z1 := iO i j hi hj (fun e => q e.symm)
      have kk := h.rows c hc i hi
      unfold pm_s at kk
      have k2 := pz_m_own2 n i j hi hj q (u := fun j => pd_G c (eA A) i j * 1) (fun k hk z => by
        have := iO i k hi hk (fun e => z e.symm)
        grind)
      have z2 : -pd_G c (eA A) i i ≤ pd_G c (eA A) i j := by grind
      have b1 := Rat.mul_le_mul_of_nonneg_left (c := pd_d c (eA A)) z2 (Rat.le_of_lt hd)
      have b2 := Rat.mul_le_mul_of_nonneg_left (c := pd_d c (eA A)) z1 (Rat.le_of_lt hd)
      exact ⟨by grind, by grind⟩
  have e1 : -eP A n ≤ eX A c i j := by exact_mod_cast e.1
  have e2 : eX A c i j ≤ eP A n := by exact_mod_cast e.2
  have := h.d
  omega
/-- the last column, where the rows' sums bound it -/
theorem EH.last (h : EH n A) (hK : ∀ i, i < n → eA A i n ≤ 9 * pm_s n (eA A) (fun _ => 1) i ∧ -(9 * pm_s n (eA A) (fun _ => 1) i) ≤ eA A i n) {c : Nat} (hc : c ≤ n) {i : Nat} (hi : i < n) : -3600000000 ≤ eX A c i n ∧ eX A c i n ≤ 3600000000 := by
  obtain ⟨x, h1, h2⟩ := h.x
  have hd := h.dpos hc
  obtain ⟨w1, w2⟩ := h.own hc hi
  have e : -(9 * ((eP A n : Int) : Rat)) ≤ ((eX A c i n : Int) : Rat) ∧ ((eX A c i n : Int) : Rat) ≤ 9 * ((eP A n : Int) : Rat) := by
    rw [h.castX hc]
    obtain ⟨k1, k2⟩ := (pm_bound h.pO h1 h2 h.r hK c hc).2 i hi
    have iO := (pm_keep h.pO h1 h2 c hc).1
    have k3 : pm_s n (pd_G c (eA A)) (fun _ => 1) i ≤ pd_G c (eA A) i i := by
      unfold pm_s
      have := pz_m_own n i hi (u := fun j => pd_G c (eA A) i j * 1) (fun k hk z => by
        have := iO i k hi hk (fun e => z e.symm)
        grind)
      grind
    have b1 := Rat.mul_le_mul_of_nonneg_left (c := pd_d c (eA A)) k1 (Rat.le_of_lt hd)
    have b2 := Rat.mul_le_mul_of_nonneg_left (c := pd_d c (eA A)) k2 (Rat.le_of_lt hd)
    have b3 := Rat.mul_le_mul_of_nonneg_left (c := pd_d c (eA A)) k3 (Rat.le_of_lt hd)
    exact ⟨by grind, by grind⟩
  have e1 : -(9 * eP A n) ≤ eX A c i n := by exact_mod_cast e.1
  have e2 : eX A c i n ≤ 9 * eP A n := by exact_mod_cast e.2
  have := h.d
  omega
/-- the last column solves the rows -/
theorem EH.solved (h : EH n A) : ∀ i, i < n → pm_s n (eA A) (fun j => ((eX A n j n : Int) : Rat)) i = ((eb A n : Int) : Rat) * eA A i n := by
  intro i hi
  have h1 := pm_solve (n := n) (A := eA A) (fun k hk => Rat.ne_of_gt (h.piv k hk)) i hi
  rw [← h1, h.castb (Nat.le_refl n)]
  unfold pm_s
  rw [pz_m_congr n (v := fun j => pd_d n (eA A) * (eA A i j * pd_G n (eA A) j n) + 0) (fun j _ => by show eA A i j * ((eX A n j n : Int) : Rat) = _; rw [h.castX (Nat.le_refl n)]; grind), pz_m_lin, pz_m_zero (fun _ _ => rfl)]
  grind
end EL
/-! a tape of signs, read token by token: what both readers are held against -/
def ltr (c : Int) : Prop := 97 ≤ c ∧ c ≤ 122
def dgt (c : Int) : Prop := 48 ≤ c ∧ c ≤ 57
/-- the signs below a length, -1 behind them -/
def bg (f : Nat → Int32) (z : Int) : Nat → Int := fun j => if (j : Int) < z then (f j).toInt % 256 else -1
theorem bg_in {f : Nat → Int32} {z : Int} {j : Nat} (h : (j : Int) < z) : bg f z j = (f j).toInt % 256 := if_pos h
theorem bg_out {f : Nat → Int32} {z : Int} {j : Nat} (h : ¬ (j : Int) < z) : bg f z j = -1 := if_neg h
theorem bg_lt {f : Nat → Int32} {z : Int} {j : Nat} (h : bg f z j ≠ -1) : (j : Int) < z := by
  by_cases q : (j : Int) < z
  · exact q
  · exact absurd (bg_out q) h
theorem bg_rng (f : Nat → Int32) (z : Int) (j : Nat) : -1 ≤ bg f z j ∧ bg f z j ≤ 255 := by
  by_cases q : (j : Int) < z
  · rw [bg_in q]; omega
  · rw [bg_out q]; omega
theorem bg_eq {f g : Nat → Int32} {z : Int} (h : ∀ j : Nat, (j : Int) < z → (f j).toInt % 256 = (g j).toInt % 256) : bg f z = bg g z := by
  funext j
  by_cases q : (j : Int) < z
  · rw [bg_in q, bg_in q, h j q]
  · rw [bg_out q, bg_out q]
def SKp (g : Nat → Int) (i j : Nat) : Prop := i ≤ j ∧ (∀ k : Nat, i ≤ k → k < j → g k = 32) ∧ g j ≠ 32
theorem SKp.det {g : Nat → Int} {i j j' : Nat} (h : SKp g i j) (h' : SKp g i j') : j = j' := by
  rcases Nat.lt_trichotomy j j' with q | q | q
  · exact absurd (h'.2.1 j h.1 q) h.2.2
  · exact q
  · exact absurd (h.2.1 j' h'.1 q) h'.2.2
def RUn (g : Nat → Int) (j e : Nat) : Prop := j ≤ e ∧ (∀ k : Nat, j ≤ k → k < e → ltr (g k) ∨ dgt (g k)) ∧ ¬ (ltr (g e) ∨ dgt (g e))
theorem RUn.det {g : Nat → Int} {j e e' : Nat} (h : RUn g j e) (h' : RUn g j e') : e = e' := by
  rcases Nat.lt_trichotomy e e' with q | q | q
  · exact absurd (h'.2.1 e h.1 q) h.2.2
  · exact q
  · exact absurd (h.2.1 e' h'.1 q) h'.2.2
/-- letters as a number to the base 27, digits as a number to the base 10 -/
def pk (g : Nat → Int) (j : Nat) : Nat → Int
  | 0 => 0
  | m + 1 => pk g j m * 27 + (g (j + m) - 96)
def nmb (g : Nat → Int) (j : Nat) : Nat → Int
  | 0 => 0
  | m + 1 => nmb g j m * 10 + (g (j + m) - 48)
theorem pk_succ (g : Nat → Int) (j m : Nat) : pk g j (m + 1) = pk g j m * 27 + (g (j + m) - 96) := rfl
theorem nmb_succ (g : Nat → Int) (j m : Nat) : nmb g j (m + 1) = nmb g j m * 10 + (g (j + m) - 48) := rfl
def ALt (g : Nat → Int) (j e : Nat) : Prop := ∀ k : Nat, j ≤ k → k < e → ltr (g k)
def ADg (g : Nat → Int) (j e : Nat) : Prop := ∀ k : Nat, j ≤ k → k < e → dgt (g k)
theorem pk_nn {g : Nat → Int} {j : Nat} : ∀ {m : Nat}, (∀ k : Nat, k < m → ltr (g (j + k))) → 0 ≤ pk g j m
  | 0, _ => Int.le_refl 0
  | m + 1, h => by
    have a := pk_nn (g := g) (j := j) (m := m) (fun k hk => h k (Nat.lt_succ_of_lt hk))
    have b := h m (Nat.lt_succ_self m)
    unfold ltr at b
    rw [pk_succ]; omega
theorem pk_lt7 {g : Nat → Int} {j : Nat} : ∀ {m : Nat}, (∀ k : Nat, k < m → ltr (g (j + k))) → pk g j m < 27 ^ m
  | 0, _ => by simp [pk]
  | m + 1, h => by
    have a := pk_lt7 (g := g) (j := j) (m := m) (fun k hk => h k (Nat.lt_succ_of_lt hk))
    have b := h m (Nat.lt_succ_self m)
    unfold ltr at b
    have e : (27 : Int) ^ (m + 1) = 27 ^ m * 27 := Int.pow_succ _ _
    rw [pk_succ, e]; omega
/-- a word's number tells the word -/
theorem pk_inj {g g' : Nat → Int} {j j' : Nat} : ∀ {m m' : Nat}, (∀ k : Nat, k < m → ltr (g (j + k))) → (∀ k : Nat, k < m' → ltr (g' (j' + k))) → pk g j m = pk g' j' m' → m = m' ∧ ∀ k : Nat, k < m → g (j + k) = g' (j' + k)
  | 0, 0, _, _, _ => ⟨rfl, fun k h => absurd h (Nat.not_lt_zero k)⟩
  | 0, m' + 1, _, h', e => by
    have a := pk_nn (g := g') (j := j') (m := m') (fun k hk => h' k (Nat.lt_succ_of_lt hk))
    have b := h' m' (Nat.lt_succ_self m')
    unfold ltr at b
    rw [pk_succ] at e
    have e' : (0 : Int) = pk g' j' m' * 27 + (g' (j' + m') - 96) := e
    omega
  | m + 1, 0, h, _, e => by
    have a := pk_nn (g := g) (j := j) (m := m) (fun k hk => h k (Nat.lt_succ_of_lt hk))
    have b := h m (Nat.lt_succ_self m)
    unfold ltr at b
    rw [pk_succ] at e
    have e' : pk g j m * 27 + (g (j + m) - 96) = 0 := e
    omega
  | m + 1, m' + 1, h, h', e => by
    have b := h m (Nat.lt_succ_self m)
    have b' := h' m' (Nat.lt_succ_self m')
    unfold ltr at b b'
    rw [pk_succ, pk_succ] at e
    have c : pk g j m = pk g' j' m' := by omega
    have d : g (j + m) = g' (j' + m') := by omega
    obtain ⟨q, r⟩ := pk_inj (m := m) (m' := m') (fun k hk => h k (Nat.lt_succ_of_lt hk)) (fun k hk => h' k (Nat.lt_succ_of_lt hk)) c
    subst q
    refine ⟨rfl, fun k hk => ?_⟩
    rcases Nat.lt_or_ge k m with z | z
    · exact r k z
    · have : k = m := by omega
      subst this; exact d
theorem pk_congr {g g' : Nat → Int} {j j' : Nat} : ∀ {m : Nat}, (∀ k : Nat, k < m → g (j + k) = g' (j' + k)) → pk g j m = pk g' j' m
  | 0, _ => rfl
  | m + 1, h => by rw [pk_succ, pk_succ, pk_congr (m := m) (fun k hk => h k (Nat.lt_succ_of_lt hk)), h m (Nat.lt_succ_self m)]
/-- the token that is read from i on: its sort (0 none, 1 a word, 2 a number, 3 a semicolon, 4 wrong), its place, where reading goes on, what it tells -/
def TK (g : Nat → Int) (i : Nat) (t : Int) (j e : Nat) (v : Int) : Prop :=
  SKp g i j ∧ ((g j = -1 ∧ t = 0 ∧ e = j) ∨ (g j = 59 ∧ t = 3 ∧ e = j + 1) ∨ (g j ≠ -1 ∧ g j ≠ 59 ∧ ¬ ltr (g j) ∧ ¬ dgt (g j) ∧ t = 4) ∨
    ((ltr (g j) ∨ dgt (g j)) ∧ ∃ e0 : Nat, RUn g j e0 ∧ ((ALt g j e0 ∧ e0 - j ≤ 6 ∧ t = 1 ∧ e = e0 ∧ v = pk g j (e0 - j)) ∨ (ADg g j e0 ∧ e0 - j ≤ 2 ∧ t = 2 ∧ e = e0 ∧ v = nmb g j (e0 - j)) ∨ (¬ (ALt g j e0 ∧ e0 - j ≤ 6) ∧ ¬ (ADg g j e0 ∧ e0 - j ≤ 2) ∧ t = 4))))
theorem TK.det {g : Nat → Int} {i : Nat} {t t' : Int} {j j' e e' : Nat} {v v' : Int} (h : TK g i t j e v) (h' : TK g i t' j' e' v') : j = j' ∧ t = t' ∧ (t ≠ 4 → e = e') ∧ (t = 1 ∨ t = 2 → v = v') := by
  obtain ⟨s, c⟩ := h
  obtain ⟨s', c'⟩ := h'
  obtain rfl := s.det s'
  refine ⟨rfl, ?_⟩
  rcases c with ⟨a, rfl, rfl⟩ | ⟨a, rfl, rfl⟩ | ⟨a1, a2, a3, a4, rfl⟩ | ⟨a, e0, r, c⟩
  · rcases c' with ⟨b, rfl, rfl⟩ | ⟨b, rfl, rfl⟩ | ⟨b1, b2, b3, b4, rfl⟩ | ⟨b, e1, r', c'⟩
    · exact ⟨rfl, fun _ => rfl, fun q => by omega⟩
    · omega
    · exact absurd a b1
    · unfold ltr dgt at b; omega
  · rcases c' with ⟨b, rfl, rfl⟩ | ⟨b, rfl, rfl⟩ | ⟨b1, b2, b3, b4, rfl⟩ | ⟨b, e1, r', c'⟩
    · omega
    · exact ⟨rfl, fun _ => rfl, fun q => by omega⟩
    · exact absurd a b2
    · unfold ltr dgt at b; omega
  · rcases c' with ⟨b, rfl, rfl⟩ | ⟨b, rfl, rfl⟩ | ⟨b1, b2, b3, b4, rfl⟩ | ⟨b, e1, r', c'⟩
    · exact absurd b a1
    · exact absurd b a2
    · exact ⟨rfl, fun q => absurd rfl q, fun q => by omega⟩
    · rcases b with b | b
      · exact absurd b a3
      · exact absurd b a4
  · rcases c' with ⟨b, rfl, rfl⟩ | ⟨b, rfl, rfl⟩ | ⟨b1, b2, b3, b4, rfl⟩ | ⟨b, e1, r', c'⟩
    · unfold ltr dgt at a; omega
    · unfold ltr dgt at a; omega
    · rcases a with a | a
      · exact absurd a b3
      · exact absurd a b4
    · obtain rfl := r.det r'
      have hj : j < e0 := by
        rcases Nat.lt_or_ge j e0 with q | q
        · exact q
        · have : e0 = j := Nat.le_antisymm q r.1
          subst this; exact absurd a r.2.2
      have no : ¬ (ALt g j e0 ∧ ADg g j e0) := fun q => by
        have q1 := q.1 j (Nat.le_refl j) hj
        have q2 := q.2 j (Nat.le_refl j) hj
        unfold ltr at q1; unfold dgt at q2; omega
      rcases c with ⟨c1, c2, rfl, rfl, rfl⟩ | ⟨c1, c2, rfl, rfl, rfl⟩ | ⟨c1, c2, rfl⟩
      · rcases c' with ⟨d1, d2, rfl, rfl, rfl⟩ | ⟨d1, d2, rfl, rfl, rfl⟩ | ⟨d1, d2, rfl⟩
        · exact ⟨rfl, fun _ => rfl, fun _ => rfl⟩
        · exact absurd ⟨c1, d1⟩ no
        · exact absurd ⟨c1, c2⟩ d1
      · rcases c' with ⟨d1, d2, rfl, rfl, rfl⟩ | ⟨d1, d2, rfl, rfl, rfl⟩ | ⟨d1, d2, rfl⟩
        · exact absurd ⟨d1, c1⟩ no
        · exact ⟨rfl, fun _ => rfl, fun _ => rfl⟩
        · exact absurd ⟨c1, c2⟩ d2
      · rcases c' with ⟨d1, d2, rfl, rfl, rfl⟩ | ⟨d1, d2, rfl, rfl, rfl⟩ | ⟨d1, d2, rfl⟩
        · exact absurd ⟨d1, d2⟩ c1
        · exact absurd ⟨d1, d2⟩ c2
        · exact ⟨rfl, fun q => absurd rfl q, fun q => by omega⟩
theorem TK.place {g : Nat → Int} {i : Nat} {t : Int} {j e : Nat} {v : Int} (h : TK g i t j e v) : i ≤ j := h.1.1
theorem TK.on {g : Nat → Int} {i : Nat} {t : Int} {j e : Nat} {v : Int} (h : TK g i t j e v) (ht : t = 1 ∨ t = 2 ∨ t = 3) : j < e := by
  obtain ⟨s, c⟩ := h
  rcases c with ⟨a, rfl, rfl⟩ | ⟨a, rfl, rfl⟩ | ⟨a1, a2, a3, a4, rfl⟩ | ⟨a, e0, r, c⟩
  · omega
  · omega
  · omega
  · have hj : j < e0 := by
      rcases Nat.lt_or_ge j e0 with q | q
      · exact q
      · have : e0 = j := Nat.le_antisymm q r.1
        subst this; exact absurd a r.2.2
    rcases c with ⟨c1, c2, rfl, rfl, rfl⟩ | ⟨c1, c2, rfl, rfl, rfl⟩ | ⟨c1, c2, rfl⟩
    · exact hj
    · exact hj
    · omega
/-! a network as a row of numbers: 0 how many nodes; 1+p kind, 13+p pay, 25+p ways, 37+3p+i where way i leads, 73+3p+i its weight, 109+p held, 121+p the name's number -/
def SameAt (a b : Nat → Int) (p : Nat) : Prop := a (1 + p) = b (1 + p) ∧ a (13 + p) = b (13 + p) ∧ a (25 + p) = b (25 + p) ∧ a (109 + p) = b (109 + p) ∧ a (121 + p) = b (121 + p) ∧ ∀ i : Nat, (i : Int) < a (25 + p) → a (37 + 3 * p + i) = b (37 + 3 * p + i) ∧ a (73 + 3 * p + i) = b (73 + 3 * p + i)
def AEq (a b : Nat → Int) : Prop := a 0 = b 0 ∧ ∀ p : Nat, (p : Int) < a 0 → SameAt a b p
theorem SameAt.symm {a b : Nat → Int} {p : Nat} (h : SameAt a b p) : SameAt b a p := ⟨h.1.symm, h.2.1.symm, h.2.2.1.symm, h.2.2.2.1.symm, h.2.2.2.2.1.symm, fun i hi => ⟨(h.2.2.2.2.2 i (by rw [h.2.2.1]; exact hi)).1.symm, (h.2.2.2.2.2 i (by rw [h.2.2.1]; exact hi)).2.symm⟩⟩
theorem SameAt.trans {a b c : Nat → Int} {p : Nat} (h : SameAt a b p) (k : SameAt b c p) : SameAt a c p := ⟨h.1.trans k.1, h.2.1.trans k.2.1, h.2.2.1.trans k.2.2.1, h.2.2.2.1.trans k.2.2.2.1, h.2.2.2.2.1.trans k.2.2.2.2.1, fun i hi => ⟨(h.2.2.2.2.2 i hi).1.trans (k.2.2.2.2.2 i (by rw [← h.2.2.1]; exact hi)).1, (h.2.2.2.2.2 i hi).2.trans (k.2.2.2.2.2 i (by rw [← h.2.2.1]; exact hi)).2⟩⟩
theorem AEq.symm {a b : Nat → Int} (h : AEq a b) : AEq b a := ⟨h.1.symm, fun p hp => (h.2 p (by rw [h.1]; exact hp)).symm⟩
theorem AEq.trans {a b c : Nat → Int} (h : AEq a b) (k : AEq b c) : AEq a c := ⟨h.1.trans k.1, fun p hp => (h.2 p hp).trans (k.2 p (by rw [← h.1]; exact hp))⟩
theorem AEq.rfl' (a : Nat → Int) : AEq a a := ⟨rfl, fun _ _ => ⟨rfl, rfl, rfl, rfl, rfl, fun _ _ => ⟨rfl, rfl⟩⟩⟩
/-- how many of the first n are of a kind; the sum of the first m -/
def cnf (h : Nat → Int) (k : Int) : Nat → Int
  | 0 => 0
  | n + 1 => cnf h k n + if h n = k then 1 else 0
def wsf (h : Nat → Int) : Nat → Int
  | 0 => 0
  | m + 1 => wsf h m + h m
theorem cnf_congr {h q : Nat → Int} {k : Int} : ∀ {n : Nat}, (∀ p : Nat, p < n → h p = q p) → cnf h k n = cnf q k n
  | 0, _ => rfl
  | n + 1, e => by
    show cnf h k n + _ = cnf q k n + _
    rw [cnf_congr (n := n) (fun p hp => e p (Nat.lt_succ_of_lt hp)), e n (Nat.lt_succ_self n)]
theorem wsf_congr {h q : Nat → Int} : ∀ {m : Nat}, (∀ i : Nat, i < m → h i = q i) → wsf h m = wsf q m
  | 0, _ => rfl
  | m + 1, e => by
    show wsf h m + _ = wsf q m + _
    rw [wsf_congr (m := m) (fun i hi => e i (Nat.lt_succ_of_lt hi)), e m (Nat.lt_succ_self m)]
theorem cnf_rng (h : Nat → Int) (k : Int) : ∀ n : Nat, 0 ≤ cnf h k n ∧ cnf h k n ≤ n
  | 0 => ⟨Int.le_refl 0, Int.le_refl 0⟩
  | n + 1 => by
    have q := cnf_rng h k n
    have e : cnf h k (n + 1) = cnf h k n + if h n = k then 1 else 0 := rfl
    rw [e]
    by_cases z : h n = k
    · rw [if_pos z]; omega
    · rw [if_neg z]; omega
def cn (a : Nat → Int) (k : Int) (n : Nat) : Int := cnf (fun p => a (1 + p)) k n
def wsum (a : Nat → Int) (p m : Nat) : Int := wsf (fun i => a (73 + 3 * p + i)) m
theorem cn_congr {a b : Nat → Int} {k : Int} {n : Nat} (h : ∀ p : Nat, p < n → a (1 + p) = b (1 + p)) : cn a k n = cn b k n := cnf_congr h
theorem wsum_congr {a b : Nat → Int} {p m : Nat} (h : ∀ i : Nat, i < m → a (73 + 3 * p + i) = b (73 + 3 * p + i)) : wsum a p m = wsum b p m := wsf_congr h
def FULL (a : Nat → Int) (k : Int) : Prop := (k = 0 ∧ 4 ≤ cn a 0 (a 0).toNat) ∨ (k ≠ 0 ∧ (8 ≤ a 0 - cn a 0 (a 0).toNat ∨ (k = 3 ∧ 5 ≤ cn a 3 (a 0).toNat)))
theorem FULL.tr {a b : Nat → Int} {k : Int} (h : AEq a b) (q : FULL a k) : FULL b k := by
  have c : ∀ z : Int, cn a z (a 0).toNat = cn b z (b 0).toNat := fun z => by
    rw [← h.1]; exact cn_congr (fun p hp => (h.2 p (by omega)).1)
  unfold FULL at q ⊢
  rw [c 0, c 3, h.1] at q; exact q
/-- which of the five words: end, max, min, chance 0 to 3, way 4 -/
def kd (v : Int) : Int := if v = 4027 then 0 else if v = 9528 then 1 else if v = 9734 then 2 else if v = 47328224 then 3 else if v = 16819 then 4 else -1
theorem kd_rng (v : Int) : -1 ≤ kd v ∧ kd v ≤ 4 := by
  unfold kd; repeat' split
  all_goals omega
def NMC (t v : Int) : Prop := t = 1 ∧ kd v = -1
/-- the first of n whose number is v; none: -1 -/
def FN (n : Int) (h : Nat → Int) (v r : Int) : Prop := (0 ≤ r ∧ r < n ∧ h r.toNat = v ∧ ∀ p : Nat, (p : Int) < r → h p ≠ v) ∨ (r = -1 ∧ ∀ p : Nat, (p : Int) < n → h p ≠ v)
def FDn (a : Nat → Int) (v r : Int) : Prop := FN (a 0) (fun p => a (121 + p)) v r
theorem FDn.det {a b : Nat → Int} {v r r' : Int} (h : AEq a b) (q : FDn a v r) (q' : FDn b v r') : r = r' := by
  have nm : ∀ p : Nat, (p : Int) < a 0 → a (121 + p) = b (121 + p) := fun p hp => (h.2 p hp).2.2.2.2.1
  have h0 := h.1
  rcases q with ⟨q1, q2, q3, q4⟩ | ⟨q1, q2⟩
  · rcases q' with ⟨w1, w2, w3, w4⟩ | ⟨w1, w2⟩
    · rcases Int.lt_trichotomy r r' with z | z | z
      · exact absurd ((nm r.toNat (by omega)).symm.trans q3) (w4 r.toNat (by omega))
      · exact z
      · exact absurd ((nm r'.toNat (by omega)).trans w3) (q4 r'.toNat (by omega))
    · exact absurd ((nm r.toNat (by omega)).symm.trans q3) (w2 r.toNat (by omega))
  · rcases q' with ⟨w1, w2, w3, w4⟩ | ⟨w1, w2⟩
    · exact absurd ((nm r'.toNat (by omega)).trans w3) (q2 r'.toNat (by omega))
    · omega
def AddN (a a' : Nat → Int) (k v y : Int) : Prop := a' 0 = a 0 + 1 ∧ (∀ p : Nat, (p : Int) < a 0 → SameAt a a' p) ∧ a' (1 + (a 0).toNat) = k ∧ a' (13 + (a 0).toNat) = y ∧ a' (25 + (a 0).toNat) = 0 ∧ a' (109 + (a 0).toNat) = -1 ∧ a' (121 + (a 0).toNat) = v
theorem AddN.det {a a' b b' : Nat → Int} {k v y : Int} (h : AEq a b) (q : AddN a a' k v y) (q' : AddN b b' k v y) : AEq a' b' := by
  obtain ⟨q0, q1, q2, q3, q4, q5, q6⟩ := q
  obtain ⟨w0, w1, w2, w3, w4, w5, w6⟩ := q'
  refine ⟨by rw [q0, w0, h.1], fun p hp => ?_⟩
  by_cases z : (p : Int) < a 0
  · exact ((q1 p z).symm.trans (h.2 p z)).trans (w1 p (by rw [← h.1]; exact z))
  · have e : p = (a 0).toNat := by omega
    have e' : (b 0).toNat = (a 0).toNat := by rw [h.1]
    rw [e'] at w2 w3 w4 w5 w6
    subst e
    exact ⟨q2.trans w2.symm, q3.trans w3.symm, q4.trans w4.symm, q5.trans w5.symm, q6.trans w6.symm, fun i hi => by omega⟩
def AddW (a a' : Nat → Int) (r q w : Int) : Prop := a' 0 = a 0 ∧ 0 ≤ r ∧ r < a 0 ∧ 0 ≤ a (25 + r.toNat) ∧ (∀ p : Nat, (p : Int) < a 0 → (p : Int) ≠ r → SameAt a a' p) ∧ a' (1 + r.toNat) = a (1 + r.toNat) ∧ a' (13 + r.toNat) = a (13 + r.toNat) ∧ a' (109 + r.toNat) = a (109 + r.toNat) ∧ a' (121 + r.toNat) = a (121 + r.toNat) ∧ a' (25 + r.toNat) = a (25 + r.toNat) + 1 ∧ (∀ i : Nat, (i : Int) < a (25 + r.toNat) → a' (37 + 3 * r.toNat + i) = a (37 + 3 * r.toNat + i) ∧ a' (73 + 3 * r.toNat + i) = a (73 + 3 * r.toNat + i)) ∧ a' (37 + 3 * r.toNat + (a (25 + r.toNat)).toNat) = q ∧ a' (73 + 3 * r.toNat + (a (25 + r.toNat)).toNat) = w
theorem AddW.det {a a' b b' : Nat → Int} {r q w : Int} (h : AEq a b) (x : AddW a a' r q w) (y : AddW b b' r q w) : AEq a' b' := by
  obtain ⟨x0, x1, x2, x3, x4, x5, x6, x7, x8, x9, x10, x11, x12⟩ := x
  obtain ⟨y0, y1, y2, y3, y4, y5, y6, y7, y8, y9, y10, y11, y12⟩ := y
  refine ⟨by rw [x0, y0, h.1], fun p hp => ?_⟩
  have hp' : (p : Int) < a 0 := by rw [← x0]; exact hp
  have hs := h.2 p hp'
  by_cases z : (p : Int) = r
  · have e : p = r.toNat := by omega
    subst e
    have hw : a (25 + r.toNat) = b (25 + r.toNat) := hs.2.2.1
    refine ⟨by rw [x5, y5]; exact hs.1, by rw [x6, y6]; exact hs.2.1, by rw [x9, y9, hw], by rw [x7, y7]; exact hs.2.2.2.1, by rw [x8, y8]; exact hs.2.2.2.2.1, fun i hi => ?_⟩
    rw [x9] at hi
    by_cases u : (i : Int) < a (25 + r.toNat)
    · have g1 := x10 i u
      have g2 := y10 i (by rw [← hw]; exact u)
      have g3 := hs.2.2.2.2.2 i u
      exact ⟨(g1.1.trans g3.1).trans g2.1.symm, (g1.2.trans g3.2).trans g2.2.symm⟩
    · have e : i = (a (25 + r.toNat)).toNat := by omega
      rw [← hw] at y11 y12
      subst e
      exact ⟨x11.trans y11.symm, x12.trans y12.symm⟩
  · exact ((x4 p hp' z).symm.trans hs).trans (y4 p (by rw [← h.1]; exact hp') z)
/-- a line that tells a node, from behind its first word: it is told as it should be, or there is a fault at P -/
def NOk (g : Nat → Int) (e : Nat) (a : Nat → Int) (k : Int) (a' : Nat → Int) (t' : Int) (j' e' : Nat) (v' : Int) : Prop :=
  ¬ FULL a k ∧ ∃ (t1 : Int) (j1 e1 : Nat) (v1 : Int), TK g e t1 j1 e1 v1 ∧ NMC t1 v1 ∧ (∀ p : Nat, (p : Int) < a 0 → a (121 + p) ≠ v1) ∧ ∃ (t2 : Int) (j2 e2 : Nat) (v2 : Int), TK g e1 t2 j2 e2 v2 ∧ ((k ≠ 0 ∧ AddN a a' k v1 0 ∧ TK g e1 t' j' e' v') ∨ (k = 0 ∧ t2 = 2 ∧ v2 ≤ 9 ∧ TK g e2 t' j' e' v' ∧ AddN a a' 0 v1 v2))
def NFl (g : Nat → Int) (pl e : Nat) (a : Nat → Int) (k P : Int) : Prop :=
  (FULL a k ∧ P = pl) ∨ (¬ FULL a k ∧ ∃ (t1 : Int) (j1 e1 : Nat) (v1 : Int), TK g e t1 j1 e1 v1 ∧ ((¬ NMC t1 v1 ∧ P = j1) ∨ (NMC t1 v1 ∧ (∃ p : Nat, (p : Int) < a 0 ∧ a (121 + p) = v1) ∧ P = j1) ∨ (NMC t1 v1 ∧ (∀ p : Nat, (p : Int) < a 0 → a (121 + p) ≠ v1) ∧ k = 0 ∧ ∃ (t2 : Int) (j2 e2 : Nat) (v2 : Int), TK g e1 t2 j2 e2 v2 ∧ (t2 ≠ 2 ∨ 9 < v2) ∧ P = j2)))
/-- one token, read twice -/
theorem TK.det1 {g : Nat → Int} {i : Nat} {t t' : Int} {j j' e e' : Nat} {v v' : Int} (h : TK g i t j e v) (h' : TK g i t' j' e' v') (ht : t = 1 ∨ t = 2) : t' = t ∧ j' = j ∧ e' = e ∧ v' = v := by
  obtain ⟨a, b, c, d⟩ := h.det h'
  exact ⟨b.symm, a.symm, (c (by omega)).symm, (d ht).symm⟩
theorem NMC.tr {g : Nat → Int} {i : Nat} {t t' : Int} {j j' e e' : Nat} {v v' : Int} (h : TK g i t j e v) (h' : TK g i t' j' e' v') (q : NMC t v) : NMC t' v' := by
  obtain ⟨x1, x2, x3, x4⟩ := h.det1 h' (Or.inl q.1)
  subst x1; subst x4; exact q
theorem NOk.det {g : Nat → Int} {e : Nat} {a b : Nat → Int} {k : Int} {a' b' : Nat → Int} {t t' : Int} {j j' e1 e2 : Nat} {v v' : Int} (h : AEq a b) (x : NOk g e a k a' t j e1 v) (y : NOk g e b k b' t' j' e2 v') : AEq a' b' ∧ j = j' ∧ t = t' ∧ (t ≠ 4 → e1 = e2) ∧ (t = 1 ∨ t = 2 → v = v') := by
  obtain ⟨x0, t1, j1, f1, v1, xa, xb, xc, t2, j2, f2, v2, xd, xe⟩ := x
  obtain ⟨y0, s1, i1, d1, u1, ya, yb, yc, s2, i2, d2, u2, yd, ye⟩ := y
  obtain ⟨z1, z2, z3, z4⟩ := xa.det1 ya (Or.inl xb.1)
  subst z1; subst z2; subst z3; subst z4
  rcases xe with ⟨k1, xn, xt⟩ | ⟨k1, xt2, xv, xt, xn⟩
  · rcases ye with ⟨k2, yn, yt⟩ | ⟨k2, yt2, yv, yt, yn⟩
    · exact ⟨xn.det h yn, xt.det yt⟩
    · exact absurd k2 k1
  · rcases ye with ⟨k2, yn, yt⟩ | ⟨k2, yt2, yv, yt, yn⟩
    · exact absurd k1 k2
    · obtain ⟨z1, z2, z3, z4⟩ := xd.det1 yd (Or.inr xt2)
      subst z1; subst z2; subst z3; subst z4
      exact ⟨xn.det h yn, xt.det yt⟩
theorem NOk.no {g : Nat → Int} {pl e : Nat} {a b : Nat → Int} {k P : Int} {a' : Nat → Int} {t : Int} {j e1 : Nat} {v : Int} (h : AEq a b) (x : NOk g e a k a' t j e1 v) (y : NFl g pl e b k P) : False := by
  obtain ⟨x0, t1, j1, f1, v1, xa, xb, xc, t2, j2, f2, v2, xd, xe⟩ := x
  rcases y with ⟨y0, -⟩ | ⟨y0, s1, i1, d1, u1, ya, yb⟩
  · exact x0 (y0.tr h.symm)
  · obtain ⟨z1, z2, z3, z4⟩ := xa.det1 ya (Or.inl xb.1)
    subst z1; subst z2; subst z3; subst z4
    rcases yb with ⟨yb, -⟩ | ⟨-, ⟨p, hp, hq⟩, -⟩ | ⟨-, -, k0, s2, i2, d2, u2, yc, yd, -⟩
    · exact yb xb
    · exact xc p (by rw [h.1]; exact hp) (((h.2 p (by rw [h.1]; exact hp)).2.2.2.2.1).trans hq)
    · rcases xe with ⟨k1, -, -⟩ | ⟨-, xt2, xv, -, -⟩
      · exact k1 k0
      · obtain ⟨z1, z2, z3, z4⟩ := xd.det1 yc (Or.inr xt2)
        subst z1; subst z4
        rcases yd with yd | yd
        · exact yd xt2
        · omega
theorem NFl.det {g : Nat → Int} {pl e : Nat} {a b : Nat → Int} {k P P' : Int} (h : AEq a b) (x : NFl g pl e a k P) (y : NFl g pl e b k P') : P = P' := by
  rcases x with ⟨x0, xp⟩ | ⟨x0, t1, j1, f1, v1, xa, xb⟩
  · rcases y with ⟨y0, yp⟩ | ⟨y0, -⟩
    · rw [xp, yp]
    · exact absurd (x0.tr h) y0
  · rcases y with ⟨y0, yp⟩ | ⟨y0, s1, i1, d1, u1, ya, yb⟩
    · exact absurd (y0.tr h.symm) x0
    · have hj := (xa.det ya).1
      have nm : ∀ p : Nat, (p : Int) < a 0 → a (121 + p) = b (121 + p) := fun p hp => (h.2 p hp).2.2.2.2.1
      rcases xb with ⟨xb, xp⟩ | ⟨xn, ⟨p, hp, hq⟩, xp⟩ | ⟨xn, xf, k0, t2, j2, f2, v2, xd, xe, xp⟩
      · rcases yb with ⟨yb, yp⟩ | ⟨yn, -, yp⟩ | ⟨yn, yf, k1, s2, i2, d2, u2, yd, ye, yp⟩
        · rw [xp, yp, hj]
        · rw [xp, yp, hj]
        · exact absurd (yn.tr ya xa) xb
      · obtain ⟨z1, z2, z3, z4⟩ := xa.det1 ya (Or.inl xn.1)
        subst z1; subst z2; subst z3; subst z4
        rcases yb with ⟨yb, yp⟩ | ⟨yn, -, yp⟩ | ⟨yn, yf, k1, s2, i2, d2, u2, yd, ye, yp⟩
        · rw [xp, yp]
        · rw [xp, yp]
        · exact absurd ((nm p hp).symm.trans hq) (yf p (by rw [← h.1]; exact hp))
      · obtain ⟨z1, z2, z3, z4⟩ := xa.det1 ya (Or.inl xn.1)
        subst z1; subst z2; subst z3; subst z4
        rcases yb with ⟨yb, yp⟩ | ⟨yn, ⟨p, hp, hq⟩, yp⟩ | ⟨yn, yf, k1, s2, i2, d2, u2, yd, ye, yp⟩
        · exact absurd xn yb
        · exact absurd ((nm p (by rw [h.1]; exact hp)).trans hq) (xf p (by rw [h.1]; exact hp))
        · rw [xp, yp, (xd.det yd).1]
/-- a line that tells a way, from behind its first word -/
def WyOk (g : Nat → Int) (e : Nat) (a a' : Nat → Int) (t' : Int) (j' e' : Nat) (v' : Int) : Prop :=
  ∃ (t1 : Int) (j1 e1 : Nat) (v1 r1 : Int), TK g e t1 j1 e1 v1 ∧ NMC t1 v1 ∧ FDn a v1 r1 ∧ 0 ≤ r1 ∧ a (1 + r1.toNat) ≠ 0 ∧ a (25 + r1.toNat) < 3 ∧
  ∃ (t2 : Int) (j2 e2 : Nat) (v2 r2 : Int), TK g e1 t2 j2 e2 v2 ∧ NMC t2 v2 ∧ FDn a v2 r2 ∧ 0 ≤ r2 ∧
  ∃ (t3 : Int) (j3 e3 : Nat) (v3 : Int), TK g e2 t3 j3 e3 v3 ∧
    ((a (1 + r1.toNat) = 3 ∧ t3 = 2 ∧ 1 ≤ v3 ∧ v3 ≤ 3 ∧ wsum a r1.toNat (a (25 + r1.toNat)).toNat + v3 ≤ 4 ∧ TK g e3 t' j' e' v' ∧ AddW a a' r1 r2 v3) ∨
     (a (1 + r1.toNat) = 3 ∧ t3 ≠ 2 ∧ wsum a r1.toNat (a (25 + r1.toNat)).toNat < 4 ∧ TK g e2 t' j' e' v' ∧ AddW a a' r1 r2 1) ∨
     (a (1 + r1.toNat) ≠ 3 ∧ TK g e2 t' j' e' v' ∧ AddW a a' r1 r2 1))
def WFl (g : Nat → Int) (e : Nat) (a : Nat → Int) (P : Int) : Prop :=
  ∃ (t1 : Int) (j1 e1 : Nat) (v1 : Int), TK g e t1 j1 e1 v1 ∧ ((¬ NMC t1 v1 ∧ P = j1) ∨ (NMC t1 v1 ∧ ∃ r1 : Int, FDn a v1 r1 ∧ (((r1 < 0 ∨ a (1 + r1.toNat) = 0 ∨ 3 ≤ a (25 + r1.toNat)) ∧ P = j1) ∨ (0 ≤ r1 ∧ a (1 + r1.toNat) ≠ 0 ∧ a (25 + r1.toNat) < 3 ∧
  ∃ (t2 : Int) (j2 e2 : Nat) (v2 : Int), TK g e1 t2 j2 e2 v2 ∧ ((¬ NMC t2 v2 ∧ P = j2) ∨ (NMC t2 v2 ∧ ∃ r2 : Int, FDn a v2 r2 ∧ ((r2 < 0 ∧ P = j2) ∨ (0 ≤ r2 ∧
  ∃ (t3 : Int) (j3 e3 : Nat) (v3 : Int), TK g e2 t3 j3 e3 v3 ∧
    ((a (1 + r1.toNat) = 3 ∧ t3 = 2 ∧ ¬ (1 ≤ v3 ∧ v3 ≤ 3 ∧ wsum a r1.toNat (a (25 + r1.toNat)).toNat + v3 ≤ 4) ∧ P = j3) ∨
     (a (1 + r1.toNat) = 3 ∧ t3 ≠ 2 ∧ 4 ≤ wsum a r1.toNat (a (25 + r1.toNat)).toNat ∧ P = j2) ∨
     (a (1 + r1.toNat) ≠ 3 ∧ t3 = 2 ∧ P = j3))))))))))
theorem ae_row {a b : Nat → Int} {r : Int} (h : AEq a b) (h0 : 0 ≤ r) (h1 : r < a 0) : a (1 + r.toNat) = b (1 + r.toNat) ∧ a (25 + r.toNat) = b (25 + r.toNat) ∧ wsum a r.toNat (a (25 + r.toNat)).toNat = wsum b r.toNat (b (25 + r.toNat)).toNat := by
  have q := h.2 r.toNat (by omega)
  refine ⟨q.1, q.2.2.1, ?_⟩
  rw [← q.2.2.1]
  exact wsum_congr (fun i hi => (q.2.2.2.2.2 i (by omega)).2)
theorem FDn.lt {a : Nat → Int} {v r : Int} (h : FDn a v r) (h0 : 0 ≤ r) : r < a 0 := by
  rcases h with ⟨_, h, _⟩ | ⟨h, _⟩
  · exact h
  · omega
theorem WyOk.det {g : Nat → Int} {e : Nat} {a b a' b' : Nat → Int} {t t' : Int} {j j' f f' : Nat} {v v' : Int} (h : AEq a b) (x : WyOk g e a a' t j f v) (y : WyOk g e b b' t' j' f' v') : AEq a' b' ∧ j = j' ∧ t = t' ∧ (t ≠ 4 → f = f') ∧ (t = 1 ∨ t = 2 → v = v') := by
  obtain ⟨t1, j1, e1, v1, r1, xa, xb, xc, xd, xe, xf, t2, j2, e2, v2, r2, xg, xh, xi, xj, t3, j3, e3, v3, xk, xl⟩ := x
  obtain ⟨s1, i1, d1, u1, q1, ya, yb, yc, yd, ye, yf, s2, i2, d2, u2, q2, yg, yh, yi, yj, s3, i3, d3, u3, yk, yl⟩ := y
  obtain ⟨z1, z2, z3, z4⟩ := xa.det1 ya (Or.inl xb.1)
  subst z1; subst z2; subst z3; subst z4
  obtain ⟨z1, z2, z3, z4⟩ := xg.det1 yg (Or.inl xh.1)
  subst z1; subst z2; subst z3; subst z4
  obtain rfl := xc.det h yc
  obtain rfl := xi.det h yi
  obtain ⟨w1, w2, w3⟩ := ae_row h xd (xc.lt xd)
  rw [← w1, ← w3] at yl
  rcases xl with ⟨c1, c2, c3, c4, c5, c6, c7⟩ | ⟨c1, c2, c3, c4, c5⟩ | ⟨c1, c2, c3⟩
  · obtain ⟨z1, z2, z3, z4⟩ := xk.det1 yk (Or.inr c2)
    subst z1; subst z2; subst z3; subst z4
    rcases yl with ⟨b1, b2, b3, b4, b5, b6, b7⟩ | ⟨b1, b2, b3, b4, b5⟩ | ⟨b1, b2, b3⟩
    · exact ⟨c7.det h b7, c6.det b6⟩
    · exact absurd c2 b2
    · exact absurd c1 b1
  · rcases yl with ⟨b1, b2, b3, b4, b5, b6, b7⟩ | ⟨b1, b2, b3, b4, b5⟩ | ⟨b1, b2, b3⟩
    · exact absurd ((xk.det yk).2.1.trans b2) c2
    · exact ⟨c5.det h b5, c4.det b4⟩
    · exact absurd c1 b1
  · rcases yl with ⟨b1, b2, b3, b4, b5, b6, b7⟩ | ⟨b1, b2, b3, b4, b5⟩ | ⟨b1, b2, b3⟩
    · exact absurd b1 c1
    · exact absurd b1 c1
    · exact ⟨c3.det h b3, c2.det b2⟩
/-- told well, but a sign too much: then there is a fault all the same -/
theorem WyOk.no {g : Nat → Int} {e : Nat} {a b a' : Nat → Int} {t P : Int} {j f : Nat} {v : Int} (h : AEq a b) (x : WyOk g e a a' t j f v) (y : WFl g e b P) : t ≠ 3 ∧ P = j := by
  obtain ⟨t1, j1, e1, v1, r1, xa, xb, xc, xd, xe, xf, t2, j2, e2, v2, r2, xg, xh, xi, xj, t3, j3, e3, v3, xk, xl⟩ := x
  obtain ⟨s1, i1, d1, u1, ya, yb⟩ := y
  obtain ⟨z1, z2, z3, z4⟩ := xa.det1 ya (Or.inl xb.1)
  subst z1; subst z2; subst z3; subst z4
  obtain ⟨w1, w2, w3⟩ := ae_row h xd (xc.lt xd)
  rcases yb with ⟨yb, -⟩ | ⟨-, q1, yc, yd⟩
  · exact absurd xb yb
  obtain rfl := xc.det h yc
  rw [← w1, ← w3, ← w2] at yd
  rcases yd with ⟨yd, -⟩ | ⟨-, -, -, s2, i2, d2, u2, yg, yh⟩
  · rcases yd with yd | yd | yd
    · omega
    · exact absurd yd xe
    · omega
  obtain ⟨z1, z2, z3, z4⟩ := xg.det1 yg (Or.inl xh.1)
  subst z1; subst z2; subst z3; subst z4
  rcases yh with ⟨yh, -⟩ | ⟨-, q2, yi, yj⟩
  · exact absurd xh yh
  obtain rfl := xi.det h yi
  rcases yj with ⟨yj, -⟩ | ⟨-, s3, i3, d3, u3, yk, yl⟩
  · omega
  rcases yl with ⟨b1, b2, b3, b4⟩ | ⟨b1, b2, b3, b4⟩ | ⟨b1, b2, b4⟩
  · rcases xl with ⟨c1, c2, c3, c4, c5, c6, c7⟩ | ⟨c1, c2, c3, c4, c5⟩ | ⟨c1, c2, c3⟩
    · obtain ⟨z1, z2, z3, z4⟩ := xk.det1 yk (Or.inr c2)
      subst z4
      exact absurd ⟨c3, c4, c5⟩ b3
    · exact absurd ((xk.det yk).2.1.trans b2) c2
    · exact absurd b1 c1
  · rcases xl with ⟨c1, c2, c3, c4, c5, c6, c7⟩ | ⟨c1, c2, c3, c4, c5⟩ | ⟨c1, c2, c3⟩
    · exact absurd ((xk.det yk).2.1.symm.trans c2) b2
    · omega
    · exact absurd b1 c1
  · rcases xl with ⟨c1, c2, c3, c4, c5, c6, c7⟩ | ⟨c1, c2, c3, c4, c5⟩ | ⟨c1, c2, c3⟩
    · exact absurd c1 b1
    · exact absurd c1 b1
    · have q := c2.det yk
      exact ⟨by omega, by rw [b4, q.1]⟩
theorem WFl.det {g : Nat → Int} {e : Nat} {a b : Nat → Int} {P P' : Int} (h : AEq a b) (x : WFl g e a P) (y : WFl g e b P') : P = P' := by
  obtain ⟨t1, j1, e1, v1, xa, xb⟩ := x
  obtain ⟨s1, i1, d1, u1, ya, yb⟩ := y
  have hj := (xa.det ya).1
  rcases xb with ⟨xb, xp⟩ | ⟨xn, r1, xc, xd⟩
  · rcases yb with ⟨yb, yp⟩ | ⟨yn, q1, yc, yd⟩
    · rw [xp, yp, hj]
    · exact absurd (yn.tr ya xa) xb
  rcases yb with ⟨yb, yp⟩ | ⟨yn, q1, yc, yd⟩
  · exact absurd (xn.tr xa ya) yb
  obtain ⟨z1, z2, z3, z4⟩ := xa.det1 ya (Or.inl xn.1)
  subst z1; subst z2; subst z3; subst z4
  obtain rfl := xc.det h yc
  rcases xd with ⟨xd, xp⟩ | ⟨xd, xe, xf, t2, j2, e2, v2, xg, xh⟩
  · rcases yd with ⟨yd, yp⟩ | ⟨yd, ye, yf, s2, i2, d2, u2, yg, yh⟩
    · rw [xp, yp]
    · obtain ⟨w1, w2, w3⟩ := ae_row h yd (by rw [h.1]; exact yc.lt yd)
      rcases xd with xd | xd | xd
      · omega
      · exact absurd (w1.symm.trans xd) ye
      · omega
  obtain ⟨w1, w2, w3⟩ := ae_row h xd (xc.lt xd)
  rcases yd with ⟨yd, yp⟩ | ⟨yd, ye, yf, s2, i2, d2, u2, yg, yh⟩
  · rcases yd with yd | yd | yd
    · omega
    · exact absurd (w1.trans yd) xe
    · omega
  have hj2 := (xg.det yg).1
  rcases xh with ⟨xh, xp⟩ | ⟨xn2, r2, xi, xj⟩
  · rcases yh with ⟨yh, yp⟩ | ⟨yn2, q2, yi, yj⟩
    · rw [xp, yp, hj2]
    · exact absurd (yn2.tr yg xg) xh
  rcases yh with ⟨yh, yp⟩ | ⟨yn2, q2, yi, yj⟩
  · exact absurd (xn2.tr xg yg) yh
  obtain ⟨z1, z2, z3, z4⟩ := xg.det1 yg (Or.inl xn2.1)
  subst z1; subst z2; subst z3; subst z4
  obtain rfl := xi.det h yi
  rcases xj with ⟨xj, xp⟩ | ⟨xj, t3, j3, e3, v3, xk, xl⟩
  · rcases yj with ⟨yj, yp⟩ | ⟨yj, s3, i3, d3, u3, yk, yl⟩
    · rw [xp, yp]
    · omega
  rcases yj with ⟨yj, yp⟩ | ⟨yj, s3, i3, d3, u3, yk, yl⟩
  · omega
  have k := xk.det yk
  rcases xl with ⟨c1, c2, c3, c4⟩ | ⟨c1, c2, c3, c4⟩ | ⟨c1, c2, c4⟩
  · rcases yl with ⟨b1, b2, b3, b4⟩ | ⟨b1, b2, b3, b4⟩ | ⟨b1, b2, b4⟩
    · rw [c4, b4, k.1]
    · exact absurd (k.2.1.symm.trans c2) b2
    · rw [c4, b4, k.1]
  · rcases yl with ⟨b1, b2, b3, b4⟩ | ⟨b1, b2, b3, b4⟩ | ⟨b1, b2, b4⟩
    · exact absurd (k.2.1.trans b2) c2
    · rw [c4, b4]
    · exact absurd (k.2.1.trans b2) c2
  · rcases yl with ⟨b1, b2, b3, b4⟩ | ⟨b1, b2, b3, b4⟩ | ⟨b1, b2, b4⟩
    · rw [c4, b4, k.1]
    · exact absurd (k.2.1.symm.trans c2) b2
    · rw [c4, b4, k.1]
/-! a line, from its first token on, which is already read; the whole tape -/
def LOk (g : Nat → Int) (t : Int) (j e : Nat) (v : Int) (a : Nat → Int) (t' : Int) (j' e' : Nat) (v' : Int) (a' : Nat → Int) : Prop :=
  t = 1 ∧ ∃ (t1 : Int) (j1 e1 : Nat) (v1 : Int), ((0 ≤ kd v ∧ kd v ≤ 3 ∧ NOk g e a (kd v) a' t1 j1 e1 v1) ∨ (kd v = 4 ∧ WyOk g e a a' t1 j1 e1 v1)) ∧ t1 = 3 ∧ TK g e1 t' j' e' v'
def LFl (g : Nat → Int) (t : Int) (j e : Nat) (v : Int) (a : Nat → Int) (P : Int) : Prop :=
  ((t ≠ 1 ∨ kd v = -1) ∧ P = j) ∨ (t = 1 ∧ ((0 ≤ kd v ∧ kd v ≤ 3 ∧ (NFl g j e a (kd v) P ∨ ∃ (a' : Nat → Int) (t1 : Int) (j1 e1 : Nat) (v1 : Int), NOk g e a (kd v) a' t1 j1 e1 v1 ∧ t1 ≠ 3 ∧ P = j1)) ∨ (kd v = 4 ∧ (WFl g e a P ∨ ∃ (a' : Nat → Int) (t1 : Int) (j1 e1 : Nat) (v1 : Int), WyOk g e a a' t1 j1 e1 v1 ∧ t1 ≠ 3 ∧ P = j1))))
/-- two views of one token -/
def TEq (t : Int) (j e : Nat) (v : Int) (t' : Int) (j' e' : Nat) (v' : Int) : Prop := j = j' ∧ t = t' ∧ (t ≠ 4 → e = e') ∧ (t = 1 ∨ t = 2 → v = v')
theorem LOk.det {g : Nat → Int} {t s : Int} {j i e d : Nat} {v u : Int} {a b : Nat → Int} {t' s' : Int} {j' i' e' d' : Nat} {v' u' : Int} {a' b' : Nat → Int} (hT : TEq t j e v s i d u) (h : AEq a b) (x : LOk g t j e v a t' j' e' v' a') (y : LOk g s i d u b s' i' d' u' b') : AEq a' b' ∧ TEq t' j' e' v' s' i' d' u' := by
  obtain ⟨x0, t1, j1, e1, v1, xa, xb, xc⟩ := x
  obtain ⟨y0, s1, i1, d1, u1, ya, yb, yc⟩ := y
  obtain ⟨h1, h2, h3, h4⟩ := hT
  have h3 := h3 (by omega)
  have h4 := h4 (Or.inl x0)
  subst h1; subst h2; subst h3; subst h4
  have key : AEq a' b' ∧ j1 = i1 ∧ t1 = s1 ∧ (t1 ≠ 4 → e1 = d1) ∧ (t1 = 1 ∨ t1 = 2 → v1 = u1) := by
    rcases xa with ⟨k0, k1, xn⟩ | ⟨k0, xw⟩
    · rcases ya with ⟨-, -, yn⟩ | ⟨k2, -⟩
      · exact xn.det h yn
      · omega
    · rcases ya with ⟨-, k2, yn⟩ | ⟨-, yw⟩
      · omega
      · exact xw.det h yw
  have he := key.2.2.2.1 (by omega)
  subst he
  exact ⟨key.1, xc.det yc⟩
theorem LOk.no {g : Nat → Int} {t s : Int} {j i e d : Nat} {v u : Int} {a b : Nat → Int} {t' : Int} {j' e' : Nat} {v' : Int} {a' : Nat → Int} {P : Int} (hT : TEq t j e v s i d u) (h : AEq a b) (x : LOk g t j e v a t' j' e' v' a') (y : LFl g s i d u b P) : False := by
  obtain ⟨x0, t1, j1, e1, v1, xa, xb, xc⟩ := x
  obtain ⟨h1, h2, h3, h4⟩ := hT
  have h3 := h3 (by omega)
  have h4 := h4 (Or.inl x0)
  subst h1; subst h2; subst h3; subst h4
  rcases y with ⟨y0, -⟩ | ⟨-, y⟩
  · rcases y0 with y0 | y0
    · exact y0 x0
    · rcases xa with ⟨k0, k1, xn⟩ | ⟨k0, xw⟩
      · omega
      · omega
  · rcases xa with ⟨k0, k1, xn⟩ | ⟨k0, xw⟩
    · rcases y with ⟨-, -, y⟩ | ⟨k2, -⟩
      · rcases y with y | ⟨b', s1, i1, d1, u1, yn, y3, -⟩
        · exact xn.no h y
        · have q := xn.det h yn
          exact y3 (q.2.2.1.symm.trans xb)
      · omega
    · rcases y with ⟨-, k2, -⟩ | ⟨-, y⟩
      · omega
      · rcases y with y | ⟨b', s1, i1, d1, u1, yn, y3, -⟩
        · exact (xw.no h y).1 xb
        · have q := xw.det h yn
          exact y3 (q.2.2.1.symm.trans xb)
theorem LFl.det {g : Nat → Int} {t s : Int} {j i e d : Nat} {v u : Int} {a b : Nat → Int} {P P' : Int} (hT : TEq t j e v s i d u) (h : AEq a b) (x : LFl g t j e v a P) (y : LFl g s i d u b P') : P = P' := by
  obtain ⟨h1, h2, h3, h4⟩ := hT
  subst h1; subst h2
  by_cases t1 : t = 1
  · have h3 := h3 (by omega)
    have h4 := h4 (Or.inl t1)
    subst h3; subst h4
    rcases x with ⟨x0, xp⟩ | ⟨-, x⟩
    · rcases y with ⟨-, yp⟩ | ⟨-, y⟩
      · rw [xp, yp]
      · rcases x0 with x0 | x0
        · exact absurd t1 x0
        · rcases y with ⟨k0, -, -⟩ | ⟨k0, -⟩
          · omega
          · omega
    · rcases y with ⟨y0, yp⟩ | ⟨-, y⟩
      · rcases y0 with y0 | y0
        · exact absurd t1 y0
        · rcases x with ⟨k0, -, -⟩ | ⟨k0, -⟩
          · omega
          · omega
      · rcases x with ⟨k0, k1, x⟩ | ⟨k0, x⟩
        · rcases y with ⟨-, -, y⟩ | ⟨k2, -⟩
          · rcases x with x | ⟨a', t1, j1, e1, v1, xn, x3, xp⟩
            · rcases y with y | ⟨b', s1, i1, d1, u1, yn, y3, yp⟩
              · exact x.det h y
              · exact (yn.no h.symm x).elim
            · rcases y with y | ⟨b', s1, i1, d1, u1, yn, y3, yp⟩
              · exact (xn.no h y).elim
              · rw [xp, yp, (xn.det h yn).2.1]
          · omega
        · rcases y with ⟨-, k2, -⟩ | ⟨-, y⟩
          · omega
          · rcases x with x | ⟨a', t1, j1, e1, v1, xn, x3, xp⟩
            · rcases y with y | ⟨b', s1, i1, d1, u1, yn, y3, yp⟩
              · exact x.det h y
              · rw [(yn.no h.symm x).2, yp]
            · rcases y with y | ⟨b', s1, i1, d1, u1, yn, y3, yp⟩
              · rw [(xn.no h y).2, xp]
              · rw [xp, yp, (xn.det h yn).2.1]
  · rcases x with ⟨-, xp⟩ | ⟨x, -⟩
    · rcases y with ⟨-, yp⟩ | ⟨y, -⟩
      · rw [xp, yp]
      · exact absurd y t1
    · exact absurd x t1
/-- behind k lines: the token that is read, the network that is told -/
def RCH (g : Nat → Int) : Nat → Int → Nat → Nat → Int → (Nat → Int) → Prop
  | 0, t, j, e, v, a => TK g 0 t j e v ∧ a 0 = 0
  | k + 1, t, j, e, v, a => ∃ (t0 : Int) (j0 e0 : Nat) (v0 : Int) (a0 : Nat → Int), RCH g k t0 j0 e0 v0 a0 ∧ t0 ≠ 0 ∧ LOk g t0 j0 e0 v0 a0 t j e v a
theorem RCH.det {g : Nat → Int} : ∀ {k : Nat} {t s : Int} {j i e d : Nat} {v u : Int} {a b : Nat → Int}, RCH g k t j e v a → RCH g k s i d u b → AEq a b ∧ TEq t j e v s i d u
  | 0, _, _, _, _, _, _, _, _, _, _, x, y => ⟨⟨x.2.trans y.2.symm, fun p hp => by have := x.2; omega⟩, x.1.det y.1⟩
  | k + 1, _, _, _, _, _, _, _, _, _, _, x, y => by
    obtain ⟨t0, j0, e0, v0, a0, x1, x2, x3⟩ := x
    obtain ⟨s0, i0, d0, u0, b0, y1, y2, y3⟩ := y
    obtain ⟨q1, q2⟩ := RCH.det x1 y1
    exact x3.det q2 q1 y3
/-- reading stops there, by the text's end or by a fault -/
def STP (g : Nat → Int) (t : Int) (j e : Nat) (v : Int) (a : Nat → Int) : Prop := t = 0 ∨ ∃ P : Int, LFl g t j e v a P
theorem RCH.before {g : Nat → Int} {k : Nat} {t : Int} {j e : Nat} {v : Int} {a : Nat → Int} : ∀ {n : Nat} {s : Int} {i d : Nat} {u : Int} {b : Nat → Int}, RCH g (k + 1 + n) s i d u b → ∃ (t0 : Int) (j0 e0 : Nat) (v0 : Int) (a0 : Nat → Int) (t1 : Int) (j1 e1 : Nat) (v1 : Int) (a1 : Nat → Int), RCH g k t0 j0 e0 v0 a0 ∧ t0 ≠ 0 ∧ LOk g t0 j0 e0 v0 a0 t1 j1 e1 v1 a1
  | 0, s, i, d, u, b, y => by
    obtain ⟨t0, j0, e0, v0, a0, x1, x2, x3⟩ := y
    exact ⟨t0, j0, e0, v0, a0, s, i, d, u, b, x1, x2, x3⟩
  | n + 1, _, _, _, _, _, y => by
    obtain ⟨s0, i0, d0, u0, b0, y1, y2, y3⟩ := y
    exact RCH.before (t := t) (j := j) (e := e) (v := v) (a := a) y1
theorem RCH.stop {g : Nat → Int} {k n : Nat} {t s : Int} {j i e d : Nat} {v u : Int} {a b : Nat → Int} (x : RCH g k t j e v a) (hx : STP g t j e v a) (y : RCH g n s i d u b) (h : k < n) : False := by
  obtain ⟨c, rfl⟩ : ∃ c, n = k + 1 + c := ⟨n - (k + 1), by omega⟩
  obtain ⟨t0, j0, e0, v0, a0, t1, j1, e1, v1, a1, z1, z2, z3⟩ := RCH.before (t := t) (j := j) (e := e) (v := v) (a := a) y
  obtain ⟨q1, q2⟩ := RCH.det z1 x
  rcases hx with hx | ⟨P, hx⟩
  · exact z2 (q2.2.1.trans hx)
  · exact z3.no q2 q1 hx
def LACK (a : Nat → Int) : Prop := ∃ p : Nat, (p : Int) < a 0 ∧ a (1 + p) ≠ 0 ∧ a (25 + p) = 0
theorem LACK.tr {a b : Nat → Int} (h : AEq a b) (q : LACK a) : LACK b := by
  obtain ⟨p, h1, h2, h3⟩ := q
  have s := h.2 p h1
  exact ⟨p, by rw [← h.1]; exact h1, fun z => h2 (s.1.trans z), s.2.2.1.symm.trans h3⟩
/-- the tape tells no game: the first fault is at P; it tells this one -/
def RFl (g : Nat → Int) (z P : Int) : Prop := (400 < z ∧ P = 400) ∨ (z ≤ 400 ∧ ∃ (k : Nat) (t : Int) (j e : Nat) (v : Int) (a : Nat → Int), RCH g k t j e v a ∧ ((t ≠ 0 ∧ LFl g t j e v a P) ∨ (t = 0 ∧ LACK a ∧ P = z)))
def ROk (g : Nat → Int) (z : Int) (a : Nat → Int) : Prop := z ≤ 400 ∧ ∃ (k : Nat) (t : Int) (j e : Nat) (v : Int), RCH g k t j e v a ∧ t = 0 ∧ ¬ LACK a
theorem rch_same {g : Nat → Int} {k n : Nat} {t s : Int} {j i e d : Nat} {v u : Int} {a b : Nat → Int} (x : RCH g k t j e v a) (hx : STP g t j e v a) (y : RCH g n s i d u b) (hy : STP g s i d u b) : AEq a b ∧ TEq t j e v s i d u := by
  rcases Nat.lt_trichotomy k n with q | q | q
  · exact (x.stop hx y q).elim
  · subst q; exact x.det y
  · exact (y.stop hy x q).elim
theorem RFl.det {g : Nat → Int} {z P P' : Int} (x : RFl g z P) (y : RFl g z P') : P = P' := by
  rcases x with ⟨x0, xp⟩ | ⟨x0, k, t, j, e, v, a, xr, xc⟩
  · rcases y with ⟨-, yp⟩ | ⟨y0, -⟩
    · rw [xp, yp]
    · omega
  · rcases y with ⟨y0, -⟩ | ⟨-, n, s, i, d, u, b, yr, yc⟩
    · omega
    · have hx : STP g t j e v a := by
        rcases xc with ⟨-, xc⟩ | ⟨xc, -⟩
        · exact Or.inr ⟨_, xc⟩
        · exact Or.inl xc
      have hy : STP g s i d u b := by
        rcases yc with ⟨-, yc⟩ | ⟨yc, -⟩
        · exact Or.inr ⟨_, yc⟩
        · exact Or.inl yc
      obtain ⟨q1, q2⟩ := rch_same xr hx yr hy
      rcases xc with ⟨x1, xc⟩ | ⟨x1, -, xp⟩
      · rcases yc with ⟨-, yc⟩ | ⟨y1, -⟩
        · exact xc.det q2 q1 yc
        · exact absurd (q2.2.1.trans y1) x1
      · rcases yc with ⟨y1, -⟩ | ⟨-, -, yp⟩
        · exact absurd (q2.2.1.symm.trans x1) y1
        · rw [xp, yp]
theorem ROk.no {g : Nat → Int} {z P : Int} {a : Nat → Int} (x : ROk g z a) (y : RFl g z P) : False := by
  obtain ⟨x0, k, t, j, e, v, xr, x1, x2⟩ := x
  rcases y with ⟨y0, -⟩ | ⟨-, n, s, i, d, u, b, yr, yc⟩
  · omega
  · have hy : STP g s i d u b := by
      rcases yc with ⟨-, yc⟩ | ⟨yc, -⟩
      · exact Or.inr ⟨_, yc⟩
      · exact Or.inl yc
    obtain ⟨q1, q2⟩ := rch_same xr (Or.inl x1) yr hy
    rcases yc with ⟨y1, -⟩ | ⟨-, yc, -⟩
    · exact y1 (q2.2.1.symm.trans x1)
    · exact x2 (yc.tr q1.symm)
theorem ROk.det {g : Nat → Int} {z : Int} {a b : Nat → Int} (x : ROk g z a) (y : ROk g z b) : AEq a b := by
  obtain ⟨x0, k, t, j, e, v, xr, x1, x2⟩ := x
  obtain ⟨y0, n, s, i, d, u, yr, y1, y2⟩ := y
  exact (rch_same xr (Or.inl x1) yr (Or.inl y1)).1
-- ===== PART A: goes FIRST, ahead of the names: the tables' words, and 'selects' of the private methods out of them =====
/-- a private method of a class that the tables say can be made, by its rows of tables_1 -/
def lw_okq (q : MethodName × Nat) : Prop := (q.1.cls ≠ "java/lang/invoke/MethodHandle" ∧ q.1.cls ≠ "java/lang/invoke/VarHandle") ∧ Cond.instantiable q.1.cls q.2 ∈ tables_1 ∧ Cond.privateMethod q.1 ∈ tables_1 ∧ Cond.instanceMethod q.1 ∈ tables_1
theorem lw_p0 : lw_okq (⟨"ChanceRings$Reader", "failAt", "(II)V"⟩, 10) := ⟨⟨by decide +kernel, by decide +kernel⟩, List.mem_of_getElem? (i := 111) (by decide +kernel), List.mem_of_getElem? (i := 456) (by decide +kernel), List.mem_of_getElem? (i := 457) (by decide +kernel)⟩
theorem lw_p1 : lw_okq (⟨"ChanceRings$Reader", "advance", "()V"⟩, 10) := ⟨⟨by decide +kernel, by decide +kernel⟩, List.mem_of_getElem? (i := 111) (by decide +kernel), List.mem_of_getElem? (i := 460) (by decide +kernel), List.mem_of_getElem? (i := 461) (by decide +kernel)⟩
theorem lw_p2 : lw_okq (⟨"ChanceRings$Reader", "takeRun", "()V"⟩, 10) := ⟨⟨by decide +kernel, by decide +kernel⟩, List.mem_of_getElem? (i := 111) (by decide +kernel), List.mem_of_getElem? (i := 470) (by decide +kernel), List.mem_of_getElem? (i := 471) (by decide +kernel)⟩
theorem lw_p3 : lw_okq (⟨"ChanceRings$Reader", "readLine", "()V"⟩, 10) := ⟨⟨by decide +kernel, by decide +kernel⟩, List.mem_of_getElem? (i := 111) (by decide +kernel), List.mem_of_getElem? (i := 474) (by decide +kernel), List.mem_of_getElem? (i := 475) (by decide +kernel)⟩
theorem lw_p4 : lw_okq (⟨"ChanceRings$Reader", "kindOf", "(I)I"⟩, 10) := ⟨⟨by decide +kernel, by decide +kernel⟩, List.mem_of_getElem? (i := 111) (by decide +kernel), List.mem_of_getElem? (i := 478) (by decide +kernel), List.mem_of_getElem? (i := 479) (by decide +kernel)⟩
theorem lw_p5 : lw_okq (⟨"ChanceRings$Reader", "readNode", "(I)V"⟩, 10) := ⟨⟨by decide +kernel, by decide +kernel⟩, List.mem_of_getElem? (i := 111) (by decide +kernel), List.mem_of_getElem? (i := 482) (by decide +kernel), List.mem_of_getElem? (i := 483) (by decide +kernel)⟩
theorem lw_p6 : lw_okq (⟨"ChanceRings$Reader", "isFull", "(I)Z"⟩, 10) := ⟨⟨by decide +kernel, by decide +kernel⟩, List.mem_of_getElem? (i := 111) (by decide +kernel), List.mem_of_getElem? (i := 486) (by decide +kernel), List.mem_of_getElem? (i := 487) (by decide +kernel)⟩
theorem lw_p7 : lw_okq (⟨"ChanceRings$Reader", "fail", "(I)V"⟩, 10) := ⟨⟨by decide +kernel, by decide +kernel⟩, List.mem_of_getElem? (i := 111) (by decide +kernel), List.mem_of_getElem? (i := 494) (by decide +kernel), List.mem_of_getElem? (i := 495) (by decide +kernel)⟩
theorem lw_p8 : lw_okq (⟨"ChanceRings$Reader", "isName", "()Z"⟩, 10) := ⟨⟨by decide +kernel, by decide +kernel⟩, List.mem_of_getElem? (i := 111) (by decide +kernel), List.mem_of_getElem? (i := 498) (by decide +kernel), List.mem_of_getElem? (i := 499) (by decide +kernel)⟩
theorem lw_p9 : lw_okq (⟨"ChanceRings$Reader", "isPay", "()Z"⟩, 10) := ⟨⟨by decide +kernel, by decide +kernel⟩, List.mem_of_getElem? (i := 111) (by decide +kernel), List.mem_of_getElem? (i := 510) (by decide +kernel), List.mem_of_getElem? (i := 511) (by decide +kernel)⟩
theorem lw_p10 : lw_okq (⟨"ChanceRings$Reader", "readStart", "()I"⟩, 10) := ⟨⟨by decide +kernel, by decide +kernel⟩, List.mem_of_getElem? (i := 111) (by decide +kernel), List.mem_of_getElem? (i := 514) (by decide +kernel), List.mem_of_getElem? (i := 515) (by decide +kernel)⟩
theorem lw_p11 : lw_okq (⟨"ChanceRings$Reader", "readTarget", "(I)V"⟩, 10) := ⟨⟨by decide +kernel, by decide +kernel⟩, List.mem_of_getElem? (i := 111) (by decide +kernel), List.mem_of_getElem? (i := 518) (by decide +kernel), List.mem_of_getElem? (i := 519) (by decide +kernel)⟩
theorem lw_p12 : lw_okq (⟨"ChanceRings$Reader", "isWeightFor", "(I)Z"⟩, 10) := ⟨⟨by decide +kernel, by decide +kernel⟩, List.mem_of_getElem? (i := 111) (by decide +kernel), List.mem_of_getElem? (i := 526) (by decide +kernel), List.mem_of_getElem? (i := 527) (by decide +kernel)⟩
theorem lw_p13 : lw_okq (⟨"ChanceRings$Reader", "lacksWay", "()Z"⟩, 10) := ⟨⟨by decide +kernel, by decide +kernel⟩, List.mem_of_getElem? (i := 111) (by decide +kernel), List.mem_of_getElem? (i := 534) (by decide +kernel), List.mem_of_getElem? (i := 535) (by decide +kernel)⟩
theorem lw_p14 : lw_okq (⟨"ChanceRings", "renew", "()V"⟩, 18) := ⟨⟨by decide +kernel, by decide +kernel⟩, List.mem_of_getElem? (i := 24) (by decide +kernel), List.mem_of_getElem? (i := 545) (by decide +kernel), List.mem_of_getElem? (i := 546) (by decide +kernel)⟩
theorem lw_p15 : lw_okq (⟨"ChanceRings$Solver", "unavoidable", "([I)I"⟩, 4) := ⟨⟨by decide +kernel, by decide +kernel⟩, List.mem_of_getElem? (i := 258) (by decide +kernel), List.mem_of_getElem? (i := 582) (by decide +kernel), List.mem_of_getElem? (i := 583) (by decide +kernel)⟩
def lw_privs_1 : List (MethodName × Nat) := [(⟨"ChanceRings$Reader", "failAt", "(II)V"⟩, 10), (⟨"ChanceRings$Reader", "advance", "()V"⟩, 10), (⟨"ChanceRings$Reader", "takeRun", "()V"⟩, 10), (⟨"ChanceRings$Reader", "readLine", "()V"⟩, 10), (⟨"ChanceRings$Reader", "kindOf", "(I)I"⟩, 10), (⟨"ChanceRings$Reader", "readNode", "(I)V"⟩, 10), (⟨"ChanceRings$Reader", "isFull", "(I)Z"⟩, 10), (⟨"ChanceRings$Reader", "fail", "(I)V"⟩, 10), (⟨"ChanceRings$Reader", "isName", "()Z"⟩, 10), (⟨"ChanceRings$Reader", "isPay", "()Z"⟩, 10), (⟨"ChanceRings$Reader", "readStart", "()I"⟩, 10), (⟨"ChanceRings$Reader", "readTarget", "(I)V"⟩, 10), (⟨"ChanceRings$Reader", "isWeightFor", "(I)Z"⟩, 10), (⟨"ChanceRings$Reader", "lacksWay", "()Z"⟩, 10), (⟨"ChanceRings", "renew", "()V"⟩, 18), (⟨"ChanceRings$Solver", "unavoidable", "([I)I"⟩, 4)]
theorem lw_r1 : ∀ q ∈ lw_privs_1, lw_okq q := List.forall_mem_cons.mpr ⟨lw_p0, List.forall_mem_cons.mpr ⟨lw_p1, List.forall_mem_cons.mpr ⟨lw_p2, List.forall_mem_cons.mpr ⟨lw_p3, List.forall_mem_cons.mpr ⟨lw_p4, List.forall_mem_cons.mpr ⟨lw_p5, List.forall_mem_cons.mpr ⟨lw_p6, List.forall_mem_cons.mpr ⟨lw_p7, List.forall_mem_cons.mpr ⟨lw_p8, List.forall_mem_cons.mpr ⟨lw_p9, List.forall_mem_cons.mpr ⟨lw_p10, List.forall_mem_cons.mpr ⟨lw_p11, List.forall_mem_cons.mpr ⟨lw_p12, List.forall_mem_cons.mpr ⟨lw_p13, List.forall_mem_cons.mpr ⟨lw_p14, List.forall_mem_cons.mpr ⟨lw_p15, fun _ h => absurd h List.not_mem_nil⟩⟩⟩⟩⟩⟩⟩⟩⟩⟩⟩⟩⟩⟩⟩⟩
theorem lw_p16 : lw_okq (⟨"ChanceRings$Course", "share", "([III)I"⟩, 3) := ⟨⟨by decide +kernel, by decide +kernel⟩, List.mem_of_getElem? (i := 264) (by decide +kernel), List.mem_of_getElem? (i := 606) (by decide +kernel), List.mem_of_getElem? (i := 607) (by decide +kernel)⟩
theorem lw_p17 : lw_okq (⟨"ChanceRings$Course", "lay", "([IIII)I"⟩, 3) := ⟨⟨by decide +kernel, by decide +kernel⟩, List.mem_of_getElem? (i := 264) (by decide +kernel), List.mem_of_getElem? (i := 615) (by decide +kernel), List.mem_of_getElem? (i := 616) (by decide +kernel)⟩
theorem lw_p18 : lw_okq (⟨"ChanceRings$Course", "placeOpen", "(I)I"⟩, 3) := ⟨⟨by decide +kernel, by decide +kernel⟩, List.mem_of_getElem? (i := 264) (by decide +kernel), List.mem_of_getElem? (i := 623) (by decide +kernel), List.mem_of_getElem? (i := 624) (by decide +kernel)⟩
theorem lw_p19 : lw_okq (⟨"ChanceRings$Course", "paidNext", "([II)J"⟩, 3) := ⟨⟨by decide +kernel, by decide +kernel⟩, List.mem_of_getElem? (i := 264) (by decide +kernel), List.mem_of_getElem? (i := 628) (by decide +kernel), List.mem_of_getElem? (i := 629) (by decide +kernel)⟩
theorem lw_p20 : lw_okq (⟨"ChanceRings$Course", "finish", "(ILChanceRings$Values;)V"⟩, 3) := ⟨⟨by decide +kernel, by decide +kernel⟩, List.mem_of_getElem? (i := 264) (by decide +kernel), List.mem_of_getElem? (i := 632) (by decide +kernel), List.mem_of_getElem? (i := 633) (by decide +kernel)⟩
theorem lw_p21 : lw_okq (⟨"ChanceRings$Equations", "eliminate", "(III)V"⟩, 3) := ⟨⟨by decide +kernel, by decide +kernel⟩, List.mem_of_getElem? (i := 270) (by decide +kernel), List.mem_of_getElem? (i := 640) (by decide +kernel), List.mem_of_getElem? (i := 641) (by decide +kernel)⟩
theorem lw_p22 : lw_okq (⟨"ChanceRings$Solver", "turnOpen", "(I[ILChanceRings$Values;I)I"⟩, 4) := ⟨⟨by decide +kernel, by decide +kernel⟩, List.mem_of_getElem? (i := 258) (by decide +kernel), List.mem_of_getElem? (i := 644) (by decide +kernel), List.mem_of_getElem? (i := 645) (by decide +kernel)⟩
theorem lw_p23 : lw_okq (⟨"ChanceRings$Solver", "betterWay", "(IILChanceRings$Values;)I"⟩, 4) := ⟨⟨by decide +kernel, by decide +kernel⟩, List.mem_of_getElem? (i := 258) (by decide +kernel), List.mem_of_getElem? (i := 648) (by decide +kernel), List.mem_of_getElem? (i := 649) (by decide +kernel)⟩
theorem lw_p24 : lw_okq (⟨"ChanceRings$Solver", "keepEven", "(LChanceRings$Values;)V"⟩, 4) := ⟨⟨by decide +kernel, by decide +kernel⟩, List.mem_of_getElem? (i := 258) (by decide +kernel), List.mem_of_getElem? (i := 661) (by decide +kernel), List.mem_of_getElem? (i := 662) (by decide +kernel)⟩
theorem lw_p25 : lw_okq (⟨"ChanceRings$Solver", "goodOf", "(ILChanceRings$Values;)I"⟩, 4) := ⟨⟨by decide +kernel, by decide +kernel⟩, List.mem_of_getElem? (i := 258) (by decide +kernel), List.mem_of_getElem? (i := 669) (by decide +kernel), List.mem_of_getElem? (i := 670) (by decide +kernel)⟩
theorem lw_p26 : lw_okq (⟨"ChanceRings$Solver", "bringsAll", "(LChanceRings$Values;)Z"⟩, 4) := ⟨⟨by decide +kernel, by decide +kernel⟩, List.mem_of_getElem? (i := 258) (by decide +kernel), List.mem_of_getElem? (i := 673) (by decide +kernel), List.mem_of_getElem? (i := 674) (by decide +kernel)⟩
theorem lw_p27 : lw_okq (⟨"ChanceRings$Solver", "isBrought", "(IILChanceRings$Values;)Z"⟩, 4) := ⟨⟨by decide +kernel, by decide +kernel⟩, List.mem_of_getElem? (i := 258) (by decide +kernel), List.mem_of_getElem? (i := 677) (by decide +kernel), List.mem_of_getElem? (i := 678) (by decide +kernel)⟩
theorem lw_p28 : lw_okq (⟨"ChanceRings$Outcome", "findReach", "()V"⟩, 10) := ⟨⟨by decide +kernel, by decide +kernel⟩, List.mem_of_getElem? (i := 316) (by decide +kernel), List.mem_of_getElem? (i := 681) (by decide +kernel), List.mem_of_getElem? (i := 682) (by decide +kernel)⟩
theorem lw_p29 : lw_okq (⟨"ChanceRings$Outcome", "findRings", "()V"⟩, 10) := ⟨⟨by decide +kernel, by decide +kernel⟩, List.mem_of_getElem? (i := 316) (by decide +kernel), List.mem_of_getElem? (i := 686) (by decide +kernel), List.mem_of_getElem? (i := 687) (by decide +kernel)⟩
theorem lw_p30 : lw_okq (⟨"ChanceRings$Outcome", "comesBack", "(I)Z"⟩, 10) := ⟨⟨by decide +kernel, by decide +kernel⟩, List.mem_of_getElem? (i := 316) (by decide +kernel), List.mem_of_getElem? (i := 690) (by decide +kernel), List.mem_of_getElem? (i := 691) (by decide +kernel)⟩
theorem lw_p31 : lw_okq (⟨"ChanceRings", "knowLeft", "()V"⟩, 18) := ⟨⟨by decide +kernel, by decide +kernel⟩, List.mem_of_getElem? (i := 24) (by decide +kernel), List.mem_of_getElem? (i := 719) (by decide +kernel), List.mem_of_getElem? (i := 720) (by decide +kernel)⟩
def lw_privs_2 : List (MethodName × Nat) := [(⟨"ChanceRings$Course", "share", "([III)I"⟩, 3), (⟨"ChanceRings$Course", "lay", "([IIII)I"⟩, 3), (⟨"ChanceRings$Course", "placeOpen", "(I)I"⟩, 3), (⟨"ChanceRings$Course", "paidNext", "([II)J"⟩, 3), (⟨"ChanceRings$Course", "finish", "(ILChanceRings$Values;)V"⟩, 3), (⟨"ChanceRings$Equations", "eliminate", "(III)V"⟩, 3), (⟨"ChanceRings$Solver", "turnOpen", "(I[ILChanceRings$Values;I)I"⟩, 4), (⟨"ChanceRings$Solver", "betterWay", "(IILChanceRings$Values;)I"⟩, 4), (⟨"ChanceRings$Solver", "keepEven", "(LChanceRings$Values;)V"⟩, 4), (⟨"ChanceRings$Solver", "goodOf", "(ILChanceRings$Values;)I"⟩, 4), (⟨"ChanceRings$Solver", "bringsAll", "(LChanceRings$Values;)Z"⟩, 4), (⟨"ChanceRings$Solver", "isBrought", "(IILChanceRings$Values;)Z"⟩, 4), (⟨"ChanceRings$Outcome", "findReach", "()V"⟩, 10), (⟨"ChanceRings$Outcome", "findRings", "()V"⟩, 10), (⟨"ChanceRings$Outcome", "comesBack", "(I)Z"⟩, 10), (⟨"ChanceRings", "knowLeft", "()V"⟩, 18)]
theorem lw_r2 : ∀ q ∈ lw_privs_2, lw_okq q := List.forall_mem_cons.mpr ⟨lw_p16, List.forall_mem_cons.mpr ⟨lw_p17, List.forall_mem_cons.mpr ⟨lw_p18, List.forall_mem_cons.mpr ⟨lw_p19, List.forall_mem_cons.mpr ⟨lw_p20, List.forall_mem_cons.mpr ⟨lw_p21, List.forall_mem_cons.mpr ⟨lw_p22, List.forall_mem_cons.mpr ⟨lw_p23, List.forall_mem_cons.mpr ⟨lw_p24, List.forall_mem_cons.mpr ⟨lw_p25, List.forall_mem_cons.mpr ⟨lw_p26, List.forall_mem_cons.mpr ⟨lw_p27, List.forall_mem_cons.mpr ⟨lw_p28, List.forall_mem_cons.mpr ⟨lw_p29, List.forall_mem_cons.mpr ⟨lw_p30, List.forall_mem_cons.mpr ⟨lw_p31, fun _ h => absurd h List.not_mem_nil⟩⟩⟩⟩⟩⟩⟩⟩⟩⟩⟩⟩⟩⟩⟩⟩
theorem lw_p32 : lw_okq (⟨"ChanceRings$Steps", "forgetOldest", "()V"⟩, 5) := ⟨⟨by decide +kernel, by decide +kernel⟩, List.mem_of_getElem? (i := 210) (by decide +kernel), List.mem_of_getElem? (i := 742) (by decide +kernel), List.mem_of_getElem? (i := 743) (by decide +kernel)⟩
theorem lw_p33 : lw_okq (⟨"ChanceRings$Regions", "broughtToPay", "(I)I"⟩, 1) := ⟨⟨by decide +kernel, by decide +kernel⟩, List.mem_of_getElem? (i := 248) (by decide +kernel), List.mem_of_getElem? (i := 797) (by decide +kernel), List.mem_of_getElem? (i := 798) (by decide +kernel)⟩
theorem lw_p34 : lw_okq (⟨"ChanceRings$Regions", "isBroughtToPay", "(III)Z"⟩, 1) := ⟨⟨by decide +kernel, by decide +kernel⟩, List.mem_of_getElem? (i := 248) (by decide +kernel), List.mem_of_getElem? (i := 802) (by decide +kernel), List.mem_of_getElem? (i := 803) (by decide +kernel)⟩
theorem lw_p35 : lw_okq (⟨"ChanceRings$Outcome", "countAhead", "(I)I"⟩, 10) := ⟨⟨by decide +kernel, by decide +kernel⟩, List.mem_of_getElem? (i := 316) (by decide +kernel), List.mem_of_getElem? (i := 818) (by decide +kernel), List.mem_of_getElem? (i := 819) (by decide +kernel)⟩
theorem lw_p36 : lw_okq (⟨"ChanceRings", "firstUnproved", "()I"⟩, 18) := ⟨⟨by decide +kernel, by decide +kernel⟩, List.mem_of_getElem? (i := 24) (by decide +kernel), List.mem_of_getElem? (i := 830) (by decide +kernel), List.mem_of_getElem? (i := 831) (by decide +kernel)⟩
theorem lw_p37 : lw_okq (⟨"ChanceRings", "isProved", "(I)Z"⟩, 18) := ⟨⟨by decide +kernel, by decide +kernel⟩, List.mem_of_getElem? (i := 24) (by decide +kernel), List.mem_of_getElem? (i := 834) (by decide +kernel), List.mem_of_getElem? (i := 835) (by decide +kernel)⟩
theorem lw_p38 : lw_okq (⟨"ChanceRings", "countCovered", "(I)I"⟩, 18) := ⟨⟨by decide +kernel, by decide +kernel⟩, List.mem_of_getElem? (i := 24) (by decide +kernel), List.mem_of_getElem? (i := 846) (by decide +kernel), List.mem_of_getElem? (i := 847) (by decide +kernel)⟩
theorem lw_p39 : lw_okq (⟨"ChanceRings", "coversMean", "(I)Z"⟩, 18) := ⟨⟨by decide +kernel, by decide +kernel⟩, List.mem_of_getElem? (i := 24) (by decide +kernel), List.mem_of_getElem? (i := 856) (by decide +kernel), List.mem_of_getElem? (i := 857) (by decide +kernel)⟩
theorem lw_p40 : lw_okq (⟨"ChanceRings", "firstWithLess", "()I"⟩, 18) := ⟨⟨by decide +kernel, by decide +kernel⟩, List.mem_of_getElem? (i := 24) (by decide +kernel), List.mem_of_getElem? (i := 864) (by decide +kernel), List.mem_of_getElem? (i := 865) (by decide +kernel)⟩
theorem lw_p41 : lw_okq (⟨"ChanceRings$Outcome", "drawnWay", "(II)I"⟩, 10) := ⟨⟨by decide +kernel, by decide +kernel⟩, List.mem_of_getElem? (i := 316) (by decide +kernel), List.mem_of_getElem? (i := 877) (by decide +kernel), List.mem_of_getElem? (i := 878) (by decide +kernel)⟩
theorem lw_p42 : lw_okq (⟨"ChanceRings$Telling", "putWord", "(I)V"⟩, 2) := ⟨⟨by decide +kernel, by decide +kernel⟩, List.mem_of_getElem? (i := 233) (by decide +kernel), List.mem_of_getElem? (i := 896) (by decide +kernel), List.mem_of_getElem? (i := 897) (by decide +kernel)⟩
theorem lw_p43 : lw_okq (⟨"ChanceRings$Telling", "put", "(I)V"⟩, 2) := ⟨⟨by decide +kernel, by decide +kernel⟩, List.mem_of_getElem? (i := 233) (by decide +kernel), List.mem_of_getElem? (i := 901) (by decide +kernel), List.mem_of_getElem? (i := 902) (by decide +kernel)⟩
theorem lw_p44 : lw_okq (⟨"ChanceRings$Telling", "putSpaced", "(I)V"⟩, 2) := ⟨⟨by decide +kernel, by decide +kernel⟩, List.mem_of_getElem? (i := 233) (by decide +kernel), List.mem_of_getElem? (i := 905) (by decide +kernel), List.mem_of_getElem? (i := 906) (by decide +kernel)⟩
theorem lw_p45 : lw_okq (⟨"ChanceRings$Telling", "putDigit", "(I)V"⟩, 2) := ⟨⟨by decide +kernel, by decide +kernel⟩, List.mem_of_getElem? (i := 233) (by decide +kernel), List.mem_of_getElem? (i := 909) (by decide +kernel), List.mem_of_getElem? (i := 910) (by decide +kernel)⟩
theorem lw_p46 : lw_okq (⟨"java/lang/Throwable", "fillInStackTrace", "(I)Ljava/lang/Throwable;"⟩, 6) := ⟨⟨by decide +kernel, by decide +kernel⟩, List.mem_of_getElem? (i := 993) (by decide +kernel), List.mem_of_getElem? (i := 991) (by decide +kernel), List.mem_of_getElem? (i := 992) (by decide +kernel)⟩
theorem lw_p47 : lw_okq (⟨"ChanceRings$Solver", "oneMoveMore", "(ILChanceRings$Values;)J"⟩, 4) := ⟨⟨by decide +kernel, by decide +kernel⟩, List.mem_of_getElem? (i := 258) (by decide +kernel), List.mem_of_getElem? (i := 1065) (by decide +kernel), List.mem_of_getElem? (i := 1066) (by decide +kernel)⟩
def lw_privs_3 : List (MethodName × Nat) := [(⟨"ChanceRings$Steps", "forgetOldest", "()V"⟩, 5), (⟨"ChanceRings$Regions", "broughtToPay", "(I)I"⟩, 1), (⟨"ChanceRings$Regions", "isBroughtToPay", "(III)Z"⟩, 1), (⟨"ChanceRings$Outcome", "countAhead", "(I)I"⟩, 10), (⟨"ChanceRings", "firstUnproved", "()I"⟩, 18), (⟨"ChanceRings", "isProved", "(I)Z"⟩, 18), (⟨"ChanceRings", "countCovered", "(I)I"⟩, 18), (⟨"ChanceRings", "coversMean", "(I)Z"⟩, 18), (⟨"ChanceRings", "firstWithLess", "()I"⟩, 18), (⟨"ChanceRings$Outcome", "drawnWay", "(II)I"⟩, 10), (⟨"ChanceRings$Telling", "putWord", "(I)V"⟩, 2), (⟨"ChanceRings$Telling", "put", "(I)V"⟩, 2), (⟨"ChanceRings$Telling", "putSpaced", "(I)V"⟩, 2), (⟨"ChanceRings$Telling", "putDigit", "(I)V"⟩, 2), (⟨"java/lang/Throwable", "fillInStackTrace", "(I)Ljava/lang/Throwable;"⟩, 6), (⟨"ChanceRings$Solver", "oneMoveMore", "(ILChanceRings$Values;)J"⟩, 4)]
theorem lw_r3 : ∀ q ∈ lw_privs_3, lw_okq q := List.forall_mem_cons.mpr ⟨lw_p32, List.forall_mem_cons.mpr ⟨lw_p33, List.forall_mem_cons.mpr ⟨lw_p34, List.forall_mem_cons.mpr ⟨lw_p35, List.forall_mem_cons.mpr ⟨lw_p36, List.forall_mem_cons.mpr ⟨lw_p37, List.forall_mem_cons.mpr ⟨lw_p38, List.forall_mem_cons.mpr ⟨lw_p39, List.forall_mem_cons.mpr ⟨lw_p40, List.forall_mem_cons.mpr ⟨lw_p41, List.forall_mem_cons.mpr ⟨lw_p42, List.forall_mem_cons.mpr ⟨lw_p43, List.forall_mem_cons.mpr ⟨lw_p44, List.forall_mem_cons.mpr ⟨lw_p45, List.forall_mem_cons.mpr ⟨lw_p46, List.forall_mem_cons.mpr ⟨lw_p47, fun _ h => absurd h List.not_mem_nil⟩⟩⟩⟩⟩⟩⟩⟩⟩⟩⟩⟩⟩⟩⟩⟩
theorem lw_p48 : lw_okq (⟨"ChanceRingsModel", "four", "(I)V"⟩, 35) := ⟨⟨by decide +kernel, by decide +kernel⟩, List.mem_of_getElem? (i := 1081) (by decide +kernel), List.mem_of_getElem? (i := 1198) (by decide +kernel), List.mem_of_getElem? (i := 1199) (by decide +kernel)⟩
theorem lw_p49 : lw_okq (⟨"ChanceRingsModel", "taken", "()V"⟩, 35) := ⟨⟨by decide +kernel, by decide +kernel⟩, List.mem_of_getElem? (i := 1081) (by decide +kernel), List.mem_of_getElem? (i := 1210) (by decide +kernel), List.mem_of_getElem? (i := 1211) (by decide +kernel)⟩
theorem lw_p50 : lw_okq (⟨"ChanceRingsModel", "reads", "()Z"⟩, 35) := ⟨⟨by decide +kernel, by decide +kernel⟩, List.mem_of_getElem? (i := 1081) (by decide +kernel), List.mem_of_getElem? (i := 1214) (by decide +kernel), List.mem_of_getElem? (i := 1215) (by decide +kernel)⟩
theorem lw_p51 : lw_okq (⟨"ChanceRingsModel", "bad", "(II)Z"⟩, 35) := ⟨⟨by decide +kernel, by decide +kernel⟩, List.mem_of_getElem? (i := 1081) (by decide +kernel), List.mem_of_getElem? (i := 1218) (by decide +kernel), List.mem_of_getElem? (i := 1219) (by decide +kernel)⟩
theorem lw_p52 : lw_okq (⟨"ChanceRingsModel", "next", "()V"⟩, 35) := ⟨⟨by decide +kernel, by decide +kernel⟩, List.mem_of_getElem? (i := 1081) (by decide +kernel), List.mem_of_getElem? (i := 1222) (by decide +kernel), List.mem_of_getElem? (i := 1223) (by decide +kernel)⟩
theorem lw_p53 : lw_okq (⟨"ChanceRingsModel", "peek", "()I"⟩, 35) := ⟨⟨by decide +kernel, by decide +kernel⟩, List.mem_of_getElem? (i := 1081) (by decide +kernel), List.mem_of_getElem? (i := 1226) (by decide +kernel), List.mem_of_getElem? (i := 1227) (by decide +kernel)⟩
theorem lw_p54 : lw_okq (⟨"ChanceRingsModel", "known", "()I"⟩, 35) := ⟨⟨by decide +kernel, by decide +kernel⟩, List.mem_of_getElem? (i := 1081) (by decide +kernel), List.mem_of_getElem? (i := 1239) (by decide +kernel), List.mem_of_getElem? (i := 1240) (by decide +kernel)⟩
theorem lw_p55 : lw_okq (⟨"ChanceRingsModel", "badHere", "(I)Z"⟩, 35) := ⟨⟨by decide +kernel, by decide +kernel⟩, List.mem_of_getElem? (i := 1081) (by decide +kernel), List.mem_of_getElem? (i := 1245) (by decide +kernel), List.mem_of_getElem? (i := 1246) (by decide +kernel)⟩
theorem lw_p56 : lw_okq (⟨"ChanceRingsModel", "wayLine", "()Z"⟩, 35) := ⟨⟨by decide +kernel, by decide +kernel⟩, List.mem_of_getElem? (i := 1081) (by decide +kernel), List.mem_of_getElem? (i := 1249) (by decide +kernel), List.mem_of_getElem? (i := 1250) (by decide +kernel)⟩
theorem lw_p57 : lw_okq (⟨"ChanceRingsModel", "isName", "()Z"⟩, 35) := ⟨⟨by decide +kernel, by decide +kernel⟩, List.mem_of_getElem? (i := 1081) (by decide +kernel), List.mem_of_getElem? (i := 1253) (by decide +kernel), List.mem_of_getElem? (i := 1254) (by decide +kernel)⟩
theorem lw_p58 : lw_okq (⟨"ChanceRingsModel", "named", "()I"⟩, 35) := ⟨⟨by decide +kernel, by decide +kernel⟩, List.mem_of_getElem? (i := 1081) (by decide +kernel), List.mem_of_getElem? (i := 1257) (by decide +kernel), List.mem_of_getElem? (i := 1258) (by decide +kernel)⟩
theorem lw_p59 : lw_okq (⟨"ChanceRingsModel", "nodeLine", "(I)Z"⟩, 35) := ⟨⟨by decide +kernel, by decide +kernel⟩, List.mem_of_getElem? (i := 1081) (by decide +kernel), List.mem_of_getElem? (i := 1264) (by decide +kernel), List.mem_of_getElem? (i := 1265) (by decide +kernel)⟩
theorem lw_p60 : lw_okq (⟨"ChanceRingsModel", "manyOf", "([II)I"⟩, 35) := ⟨⟨by decide +kernel, by decide +kernel⟩, List.mem_of_getElem? (i := 1081) (by decide +kernel), List.mem_of_getElem? (i := 1268) (by decide +kernel), List.mem_of_getElem? (i := 1269) (by decide +kernel)⟩
theorem lw_p61 : lw_okq (⟨"ChanceRingsModel", "changed", "()V"⟩, 35) := ⟨⟨by decide +kernel, by decide +kernel⟩, List.mem_of_getElem? (i := 1081) (by decide +kernel), List.mem_of_getElem? (i := 1275) (by decide +kernel), List.mem_of_getElem? (i := 1276) (by decide +kernel)⟩
theorem lw_p62 : lw_okq (⟨"ChanceRingsModel", "isNode", "(I)Z"⟩, 35) := ⟨⟨by decide +kernel, by decide +kernel⟩, List.mem_of_getElem? (i := 1081) (by decide +kernel), List.mem_of_getElem? (i := 1287) (by decide +kernel), List.mem_of_getElem? (i := 1288) (by decide +kernel)⟩
theorem lw_p63 : lw_okq (⟨"ChanceRingsModel", "throwsIf", "(Z)Z"⟩, 35) := ⟨⟨by decide +kernel, by decide +kernel⟩, List.mem_of_getElem? (i := 1081) (by decide +kernel), List.mem_of_getElem? (i := 1291) (by decide +kernel), List.mem_of_getElem? (i := 1292) (by decide +kernel)⟩
def lw_privs_4 : List (MethodName × Nat) := [(⟨"ChanceRingsModel", "four", "(I)V"⟩, 35), (⟨"ChanceRingsModel", "taken", "()V"⟩, 35), (⟨"ChanceRingsModel", "reads", "()Z"⟩, 35), (⟨"ChanceRingsModel", "bad", "(II)Z"⟩, 35), (⟨"ChanceRingsModel", "next", "()V"⟩, 35), (⟨"ChanceRingsModel", "peek", "()I"⟩, 35), (⟨"ChanceRingsModel", "known", "()I"⟩, 35), (⟨"ChanceRingsModel", "badHere", "(I)Z"⟩, 35), (⟨"ChanceRingsModel", "wayLine", "()Z"⟩, 35), (⟨"ChanceRingsModel", "isName", "()Z"⟩, 35), (⟨"ChanceRingsModel", "named", "()I"⟩, 35), (⟨"ChanceRingsModel", "nodeLine", "(I)Z"⟩, 35), (⟨"ChanceRingsModel", "manyOf", "([II)I"⟩, 35), (⟨"ChanceRingsModel", "changed", "()V"⟩, 35), (⟨"ChanceRingsModel", "isNode", "(I)Z"⟩, 35), (⟨"ChanceRingsModel", "throwsIf", "(Z)Z"⟩, 35)]
theorem lw_r4 : ∀ q ∈ lw_privs_4, lw_okq q := List.forall_mem_cons.mpr ⟨lw_p48, List.forall_mem_cons.mpr ⟨lw_p49, List.forall_mem_cons.mpr ⟨lw_p50, List.forall_mem_cons.mpr ⟨lw_p51, List.forall_mem_cons.mpr ⟨lw_p52, List.forall_mem_cons.mpr ⟨lw_p53, List.forall_mem_cons.mpr ⟨lw_p54, List.forall_mem_cons.mpr ⟨lw_p55, List.forall_mem_cons.mpr ⟨lw_p56, List.forall_mem_cons.mpr ⟨lw_p57, List.forall_mem_cons.mpr ⟨lw_p58, List.forall_mem_cons.mpr ⟨lw_p59, List.forall_mem_cons.mpr ⟨lw_p60, List.forall_mem_cons.mpr ⟨lw_p61, List.forall_mem_cons.mpr ⟨lw_p62, List.forall_mem_cons.mpr ⟨lw_p63, fun _ h => absurd h List.not_mem_nil⟩⟩⟩⟩⟩⟩⟩⟩⟩⟩⟩⟩⟩⟩⟩⟩
theorem lw_p64 : lw_okq (⟨"ChanceRingsModel", "isKind", "(II)Z"⟩, 35) := ⟨⟨by decide +kernel, by decide +kernel⟩, List.mem_of_getElem? (i := 1081) (by decide +kernel), List.mem_of_getElem? (i := 1295) (by decide +kernel), List.mem_of_getElem? (i := 1296) (by decide +kernel)⟩
theorem lw_p65 : lw_okq (⟨"ChanceRingsModel", "isWay", "(II)Z"⟩, 35) := ⟨⟨by decide +kernel, by decide +kernel⟩, List.mem_of_getElem? (i := 1081) (by decide +kernel), List.mem_of_getElem? (i := 1303) (by decide +kernel), List.mem_of_getElem? (i := 1304) (by decide +kernel)⟩
theorem lw_p66 : lw_okq (⟨"ChanceRingsModel", "to", "(II)I"⟩, 35) := ⟨⟨by decide +kernel, by decide +kernel⟩, List.mem_of_getElem? (i := 1081) (by decide +kernel), List.mem_of_getElem? (i := 1307) (by decide +kernel), List.mem_of_getElem? (i := 1308) (by decide +kernel)⟩
theorem lw_p67 : lw_okq (⟨"ChanceRingsModel", "heavy", "(II)I"⟩, 35) := ⟨⟨by decide +kernel, by decide +kernel⟩, List.mem_of_getElem? (i := 1081) (by decide +kernel), List.mem_of_getElem? (i := 1311) (by decide +kernel), List.mem_of_getElem? (i := 1312) (by decide +kernel)⟩
theorem lw_p68 : lw_okq (⟨"ChanceRingsModel", "knows", "()V"⟩, 35) := ⟨⟨by decide +kernel, by decide +kernel⟩, List.mem_of_getElem? (i := 1081) (by decide +kernel), List.mem_of_getElem? (i := 1322) (by decide +kernel), List.mem_of_getElem? (i := 1323) (by decide +kernel)⟩
theorem lw_p69 : lw_okq (⟨"ChanceRingsModel", "values", "(I)V"⟩, 35) := ⟨⟨by decide +kernel, by decide +kernel⟩, List.mem_of_getElem? (i := 1081) (by decide +kernel), List.mem_of_getElem? (i := 1326) (by decide +kernel), List.mem_of_getElem? (i := 1327) (by decide +kernel)⟩
theorem lw_p70 : lw_okq (⟨"ChanceRingsModel", "firstPlan", "(I)V"⟩, 35) := ⟨⟨by decide +kernel, by decide +kernel⟩, List.mem_of_getElem? (i := 1081) (by decide +kernel), List.mem_of_getElem? (i := 1330) (by decide +kernel), List.mem_of_getElem? (i := 1331) (by decide +kernel)⟩
theorem lw_p71 : lw_okq (⟨"ChanceRingsModel", "replies", "(II)V"⟩, 35) := ⟨⟨by decide +kernel, by decide +kernel⟩, List.mem_of_getElem? (i := 1081) (by decide +kernel), List.mem_of_getElem? (i := 1334) (by decide +kernel), List.mem_of_getElem? (i := 1335) (by decide +kernel)⟩
theorem lw_p72 : lw_okq (⟨"ChanceRingsModel", "plays", "(II)V"⟩, 35) := ⟨⟨by decide +kernel, by decide +kernel⟩, List.mem_of_getElem? (i := 1081) (by decide +kernel), List.mem_of_getElem? (i := 1338) (by decide +kernel), List.mem_of_getElem? (i := 1339) (by decide +kernel)⟩
theorem lw_p73 : lw_okq (⟨"ChanceRingsModel", "ends", "()I"⟩, 35) := ⟨⟨by decide +kernel, by decide +kernel⟩, List.mem_of_getElem? (i := 1081) (by decide +kernel), List.mem_of_getElem? (i := 1342) (by decide +kernel), List.mem_of_getElem? (i := 1343) (by decide +kernel)⟩
theorem lw_p74 : lw_okq (⟨"ChanceRingsModel", "comes", "(I)I"⟩, 35) := ⟨⟨by decide +kernel, by decide +kernel⟩, List.mem_of_getElem? (i := 1081) (by decide +kernel), List.mem_of_getElem? (i := 1346) (by decide +kernel), List.mem_of_getElem? (i := 1347) (by decide +kernel)⟩
theorem lw_p75 : lw_okq (⟨"ChanceRingsModel", "onBits", "(I)I"⟩, 35) := ⟨⟨by decide +kernel, by decide +kernel⟩, List.mem_of_getElem? (i := 1081) (by decide +kernel), List.mem_of_getElem? (i := 1350) (by decide +kernel), List.mem_of_getElem? (i := 1351) (by decide +kernel)⟩
theorem lw_p76 : lw_okq (⟨"ChanceRingsModel", "lays", "(IJJ)V"⟩, 35) := ⟨⟨by decide +kernel, by decide +kernel⟩, List.mem_of_getElem? (i := 1081) (by decide +kernel), List.mem_of_getElem? (i := 1354) (by decide +kernel), List.mem_of_getElem? (i := 1355) (by decide +kernel)⟩
theorem lw_p77 : lw_okq (⟨"ChanceRingsModel", "solves", "(I)J"⟩, 35) := ⟨⟨by decide +kernel, by decide +kernel⟩, List.mem_of_getElem? (i := 1081) (by decide +kernel), List.mem_of_getElem? (i := 1364) (by decide +kernel), List.mem_of_getElem? (i := 1365) (by decide +kernel)⟩
theorem lw_p78 : lw_okq (⟨"ChanceRingsModel", "nextPlan", "(I)Z"⟩, 35) := ⟨⟨by decide +kernel, by decide +kernel⟩, List.mem_of_getElem? (i := 1081) (by decide +kernel), List.mem_of_getElem? (i := 1371) (by decide +kernel), List.mem_of_getElem? (i := 1372) (by decide +kernel)⟩
theorem lw_p79 : lw_okq (⟨"ChanceRingsModel", "findsPlan", "(I)V"⟩, 35) := ⟨⟨by decide +kernel, by decide +kernel⟩, List.mem_of_getElem? (i := 1081) (by decide +kernel), List.mem_of_getElem? (i := 1375) (by decide +kernel), List.mem_of_getElem? (i := 1376) (by decide +kernel)⟩
def lw_privs_5 : List (MethodName × Nat) := [(⟨"ChanceRingsModel", "isKind", "(II)Z"⟩, 35), (⟨"ChanceRingsModel", "isWay", "(II)Z"⟩, 35), (⟨"ChanceRingsModel", "to", "(II)I"⟩, 35), (⟨"ChanceRingsModel", "heavy", "(II)I"⟩, 35), (⟨"ChanceRingsModel", "knows", "()V"⟩, 35), (⟨"ChanceRingsModel", "values", "(I)V"⟩, 35), (⟨"ChanceRingsModel", "firstPlan", "(I)V"⟩, 35), (⟨"ChanceRingsModel", "replies", "(II)V"⟩, 35), (⟨"ChanceRingsModel", "plays", "(II)V"⟩, 35), (⟨"ChanceRingsModel", "ends", "()I"⟩, 35), (⟨"ChanceRingsModel", "comes", "(I)I"⟩, 35), (⟨"ChanceRingsModel", "onBits", "(I)I"⟩, 35), (⟨"ChanceRingsModel", "lays", "(IJJ)V"⟩, 35), (⟨"ChanceRingsModel", "solves", "(I)J"⟩, 35), (⟨"ChanceRingsModel", "nextPlan", "(I)Z"⟩, 35), (⟨"ChanceRingsModel", "findsPlan", "(I)V"⟩, 35)]
theorem lw_r5 : ∀ q ∈ lw_privs_5, lw_okq q := List.forall_mem_cons.mpr ⟨lw_p64, List.forall_mem_cons.mpr ⟨lw_p65, List.forall_mem_cons.mpr ⟨lw_p66, List.forall_mem_cons.mpr ⟨lw_p67, List.forall_mem_cons.mpr ⟨lw_p68, List.forall_mem_cons.mpr ⟨lw_p69, List.forall_mem_cons.mpr ⟨lw_p70, List.forall_mem_cons.mpr ⟨lw_p71, List.forall_mem_cons.mpr ⟨lw_p72, List.forall_mem_cons.mpr ⟨lw_p73, List.forall_mem_cons.mpr ⟨lw_p74, List.forall_mem_cons.mpr ⟨lw_p75, List.forall_mem_cons.mpr ⟨lw_p76, List.forall_mem_cons.mpr ⟨lw_p77, List.forall_mem_cons.mpr ⟨lw_p78, List.forall_mem_cons.mpr ⟨lw_p79, fun _ h => absurd h List.not_mem_nil⟩⟩⟩⟩⟩⟩⟩⟩⟩⟩⟩⟩⟩⟩⟩⟩
theorem lw_p80 : lw_okq (⟨"ChanceRingsModel", "isWorth", "()Z"⟩, 35) := ⟨⟨by decide +kernel, by decide +kernel⟩, List.mem_of_getElem? (i := 1081) (by decide +kernel), List.mem_of_getElem? (i := 1379) (by decide +kernel), List.mem_of_getElem? (i := 1380) (by decide +kernel)⟩
theorem lw_p81 : lw_okq (⟨"ChanceRingsModel", "isPlayer", "(I)Z"⟩, 35) := ⟨⟨by decide +kernel, by decide +kernel⟩, List.mem_of_getElem? (i := 1081) (by decide +kernel), List.mem_of_getElem? (i := 1387) (by decide +kernel), List.mem_of_getElem? (i := 1388) (by decide +kernel)⟩
theorem lw_p82 : lw_okq (⟨"ChanceRingsModel", "laysLeft", "()V"⟩, 35) := ⟨⟨by decide +kernel, by decide +kernel⟩, List.mem_of_getElem? (i := 1081) (by decide +kernel), List.mem_of_getElem? (i := 1403) (by decide +kernel), List.mem_of_getElem? (i := 1404) (by decide +kernel)⟩
theorem lw_p83 : lw_okq (⟨"ChanceRingsModel", "improves", "()I"⟩, 35) := ⟨⟨by decide +kernel, by decide +kernel⟩, List.mem_of_getElem? (i := 1081) (by decide +kernel), List.mem_of_getElem? (i := 1411) (by decide +kernel), List.mem_of_getElem? (i := 1412) (by decide +kernel)⟩
theorem lw_p84 : lw_okq (⟨"ChanceRingsModel", "isMoreAt", "(II)Z"⟩, 35) := ⟨⟨by decide +kernel, by decide +kernel⟩, List.mem_of_getElem? (i := 1081) (by decide +kernel), List.mem_of_getElem? (i := 1415) (by decide +kernel), List.mem_of_getElem? (i := 1416) (by decide +kernel)⟩
theorem lw_p85 : lw_okq (⟨"ChanceRingsModel", "sets0", "(II)I"⟩, 35) := ⟨⟨by decide +kernel, by decide +kernel⟩, List.mem_of_getElem? (i := 1081) (by decide +kernel), List.mem_of_getElem? (i := 1427) (by decide +kernel), List.mem_of_getElem? (i := 1428) (by decide +kernel)⟩
theorem lw_p86 : lw_okq (⟨"ChanceRingsModel", "keeps", "()V"⟩, 35) := ⟨⟨by decide +kernel, by decide +kernel⟩, List.mem_of_getElem? (i := 1081) (by decide +kernel), List.mem_of_getElem? (i := 1431) (by decide +kernel), List.mem_of_getElem? (i := 1432) (by decide +kernel)⟩
theorem lw_p87 : lw_okq (⟨"ChanceRingsModel", "mean", "(I)V"⟩, 35) := ⟨⟨by decide +kernel, by decide +kernel⟩, List.mem_of_getElem? (i := 1081) (by decide +kernel), List.mem_of_getElem? (i := 1467) (by decide +kernel), List.mem_of_getElem? (i := 1468) (by decide +kernel)⟩
theorem lw_p88 : lw_okq (⟨"ChanceRingsModel", "choosesAt", "(I)V"⟩, 35) := ⟨⟨by decide +kernel, by decide +kernel⟩, List.mem_of_getElem? (i := 1081) (by decide +kernel), List.mem_of_getElem? (i := 1471) (by decide +kernel), List.mem_of_getElem? (i := 1472) (by decide +kernel)⟩
theorem lw_p89 : lw_okq (⟨"ChanceRingsModel", "may", "(II)Z"⟩, 35) := ⟨⟨by decide +kernel, by decide +kernel⟩, List.mem_of_getElem? (i := 1081) (by decide +kernel), List.mem_of_getElem? (i := 1475) (by decide +kernel), List.mem_of_getElem? (i := 1476) (by decide +kernel)⟩
theorem lw_p90 : lw_okq (⟨"ChanceRingsModel", "all", "()I"⟩, 35) := ⟨⟨by decide +kernel, by decide +kernel⟩, List.mem_of_getElem? (i := 1081) (by decide +kernel), List.mem_of_getElem? (i := 1483) (by decide +kernel), List.mem_of_getElem? (i := 1484) (by decide +kernel)⟩
theorem lw_p91 : lw_okq (⟨"ChanceRingsModel", "aheadOf", "(I)I"⟩, 35) := ⟨⟨by decide +kernel, by decide +kernel⟩, List.mem_of_getElem? (i := 1081) (by decide +kernel), List.mem_of_getElem? (i := 1487) (by decide +kernel), List.mem_of_getElem? (i := 1488) (by decide +kernel)⟩
theorem lw_p92 : lw_okq (⟨"ChanceRingsModel", "byBoth", "()V"⟩, 35) := ⟨⟨by decide +kernel, by decide +kernel⟩, List.mem_of_getElem? (i := 1081) (by decide +kernel), List.mem_of_getElem? (i := 1495) (by decide +kernel), List.mem_of_getElem? (i := 1496) (by decide +kernel)⟩
theorem lw_p93 : lw_okq (⟨"ChanceRingsModel", "ringOf", "(I)I"⟩, 35) := ⟨⟨by decide +kernel, by decide +kernel⟩, List.mem_of_getElem? (i := 1081) (by decide +kernel), List.mem_of_getElem? (i := 1499) (by decide +kernel), List.mem_of_getElem? (i := 1500) (by decide +kernel)⟩
theorem lw_p94 : lw_okq (⟨"ChanceRingsModel", "from", "(I)I"⟩, 35) := ⟨⟨by decide +kernel, by decide +kernel⟩, List.mem_of_getElem? (i := 1081) (by decide +kernel), List.mem_of_getElem? (i := 1503) (by decide +kernel), List.mem_of_getElem? (i := 1504) (by decide +kernel)⟩
theorem lw_p95 : lw_okq (⟨"ChanceRingsModel", "trap", "()I"⟩, 35) := ⟨⟨by decide +kernel, by decide +kernel⟩, List.mem_of_getElem? (i := 1081) (by decide +kernel), List.mem_of_getElem? (i := 1520) (by decide +kernel), List.mem_of_getElem? (i := 1521) (by decide +kernel)⟩
def lw_privs_6 : List (MethodName × Nat) := [(⟨"ChanceRingsModel", "isWorth", "()Z"⟩, 35), (⟨"ChanceRingsModel", "isPlayer", "(I)Z"⟩, 35), (⟨"ChanceRingsModel", "laysLeft", "()V"⟩, 35), (⟨"ChanceRingsModel", "improves", "()I"⟩, 35), (⟨"ChanceRingsModel", "isMoreAt", "(II)Z"⟩, 35), (⟨"ChanceRingsModel", "sets0", "(II)I"⟩, 35), (⟨"ChanceRingsModel", "keeps", "()V"⟩, 35), (⟨"ChanceRingsModel", "mean", "(I)V"⟩, 35), (⟨"ChanceRingsModel", "choosesAt", "(I)V"⟩, 35), (⟨"ChanceRingsModel", "may", "(II)Z"⟩, 35), (⟨"ChanceRingsModel", "all", "()I"⟩, 35), (⟨"ChanceRingsModel", "aheadOf", "(I)I"⟩, 35), (⟨"ChanceRingsModel", "byBoth", "()V"⟩, 35), (⟨"ChanceRingsModel", "ringOf", "(I)I"⟩, 35), (⟨"ChanceRingsModel", "from", "(I)I"⟩, 35), (⟨"ChanceRingsModel", "trap", "()I"⟩, 35)]
theorem lw_r6 : ∀ q ∈ lw_privs_6, lw_okq q := List.forall_mem_cons.mpr ⟨lw_p80, List.forall_mem_cons.mpr ⟨lw_p81, List.forall_mem_cons.mpr ⟨lw_p82, List.forall_mem_cons.mpr ⟨lw_p83, List.forall_mem_cons.mpr ⟨lw_p84, List.forall_mem_cons.mpr ⟨lw_p85, List.forall_mem_cons.mpr ⟨lw_p86, List.forall_mem_cons.mpr ⟨lw_p87, List.forall_mem_cons.mpr ⟨lw_p88, List.forall_mem_cons.mpr ⟨lw_p89, List.forall_mem_cons.mpr ⟨lw_p90, List.forall_mem_cons.mpr ⟨lw_p91, List.forall_mem_cons.mpr ⟨lw_p92, List.forall_mem_cons.mpr ⟨lw_p93, List.forall_mem_cons.mpr ⟨lw_p94, List.forall_mem_cons.mpr ⟨lw_p95, fun _ h => absurd h List.not_mem_nil⟩⟩⟩⟩⟩⟩⟩⟩⟩⟩⟩⟩⟩⟩⟩⟩
theorem lw_p96 : lw_okq (⟨"ChanceRingsModel", "sure", "()I"⟩, 35) := ⟨⟨by decide +kernel, by decide +kernel⟩, List.mem_of_getElem? (i := 1081) (by decide +kernel), List.mem_of_getElem? (i := 1524) (by decide +kernel), List.mem_of_getElem? (i := 1525) (by decide +kernel)⟩
theorem lw_p97 : lw_okq (⟨"ChanceRingsModel", "surely", "()I"⟩, 35) := ⟨⟨by decide +kernel, by decide +kernel⟩, List.mem_of_getElem? (i := 1081) (by decide +kernel), List.mem_of_getElem? (i := 1528) (by decide +kernel), List.mem_of_getElem? (i := 1529) (by decide +kernel)⟩
theorem lw_p98 : lw_okq (⟨"ChanceRingsModel", "paying", "()I"⟩, 35) := ⟨⟨by decide +kernel, by decide +kernel⟩, List.mem_of_getElem? (i := 1081) (by decide +kernel), List.mem_of_getElem? (i := 1532) (by decide +kernel), List.mem_of_getElem? (i := 1533) (by decide +kernel)⟩
theorem lw_p99 : lw_okq (⟨"ChanceRingsModel", "soon", "(I)I"⟩, 35) := ⟨⟨by decide +kernel, by decide +kernel⟩, List.mem_of_getElem? (i := 1081) (by decide +kernel), List.mem_of_getElem? (i := 1536) (by decide +kernel), List.mem_of_getElem? (i := 1537) (by decide +kernel)⟩
theorem lw_p100 : lw_okq (⟨"ChanceRingsModel", "tells", "()Z"⟩, 35) := ⟨⟨by decide +kernel, by decide +kernel⟩, List.mem_of_getElem? (i := 1081) (by decide +kernel), List.mem_of_getElem? (i := 1548) (by decide +kernel), List.mem_of_getElem? (i := 1549) (by decide +kernel)⟩
theorem lw_p101 : lw_okq (⟨"ChanceRingsModel", "isAbove", "(I)Z"⟩, 35) := ⟨⟨by decide +kernel, by decide +kernel⟩, List.mem_of_getElem? (i := 1081) (by decide +kernel), List.mem_of_getElem? (i := 1552) (by decide +kernel), List.mem_of_getElem? (i := 1553) (by decide +kernel)⟩
theorem lw_p102 : lw_okq (⟨"ChanceRingsModel", "playFrom", "(III)I"⟩, 35) := ⟨⟨by decide +kernel, by decide +kernel⟩, List.mem_of_getElem? (i := 1081) (by decide +kernel), List.mem_of_getElem? (i := 1564) (by decide +kernel), List.mem_of_getElem? (i := 1565) (by decide +kernel)⟩
theorem lw_p103 : lw_okq (⟨"ChanceRingsModel", "drawnWay", "(I)I"⟩, 35) := ⟨⟨by decide +kernel, by decide +kernel⟩, List.mem_of_getElem? (i := 1081) (by decide +kernel), List.mem_of_getElem? (i := 1568) (by decide +kernel), List.mem_of_getElem? (i := 1569) (by decide +kernel)⟩
theorem lw_p104 : lw_okq (⟨"ChanceRingsModel", "draw", "(I)I"⟩, 35) := ⟨⟨by decide +kernel, by decide +kernel⟩, List.mem_of_getElem? (i := 1081) (by decide +kernel), List.mem_of_getElem? (i := 1572) (by decide +kernel), List.mem_of_getElem? (i := 1573) (by decide +kernel)⟩
theorem lw_p105 : lw_okq (⟨"ChanceRingsModel", "putsWord", "(I)V"⟩, 35) := ⟨⟨by decide +kernel, by decide +kernel⟩, List.mem_of_getElem? (i := 1081) (by decide +kernel), List.mem_of_getElem? (i := 1585) (by decide +kernel), List.mem_of_getElem? (i := 1586) (by decide +kernel)⟩
theorem lw_p106 : lw_okq (⟨"ChanceRingsModel", "puts", "(I)V"⟩, 35) := ⟨⟨by decide +kernel, by decide +kernel⟩, List.mem_of_getElem? (i := 1081) (by decide +kernel), List.mem_of_getElem? (i := 1589) (by decide +kernel), List.mem_of_getElem? (i := 1590) (by decide +kernel)⟩
theorem lw_p107 : lw_okq (⟨"ChanceRingsModel", "putsName", "(I)V"⟩, 35) := ⟨⟨by decide +kernel, by decide +kernel⟩, List.mem_of_getElem? (i := 1081) (by decide +kernel), List.mem_of_getElem? (i := 1593) (by decide +kernel), List.mem_of_getElem? (i := 1594) (by decide +kernel)⟩
theorem lw_p108 : lw_okq (⟨"ChanceRingsModel", "putsNumber", "(I)V"⟩, 35) := ⟨⟨by decide +kernel, by decide +kernel⟩, List.mem_of_getElem? (i := 1081) (by decide +kernel), List.mem_of_getElem? (i := 1597) (by decide +kernel), List.mem_of_getElem? (i := 1598) (by decide +kernel)⟩
def lw_privs_7 : List (MethodName × Nat) := [(⟨"ChanceRingsModel", "sure", "()I"⟩, 35), (⟨"ChanceRingsModel", "surely", "()I"⟩, 35), (⟨"ChanceRingsModel", "paying", "()I"⟩, 35), (⟨"ChanceRingsModel", "soon", "(I)I"⟩, 35), (⟨"ChanceRingsModel", "tells", "()Z"⟩, 35), (⟨"ChanceRingsModel", "isAbove", "(I)Z"⟩, 35), (⟨"ChanceRingsModel", "playFrom", "(III)I"⟩, 35), (⟨"ChanceRingsModel", "drawnWay", "(I)I"⟩, 35), (⟨"ChanceRingsModel", "draw", "(I)I"⟩, 35), (⟨"ChanceRingsModel", "putsWord", "(I)V"⟩, 35), (⟨"ChanceRingsModel", "puts", "(I)V"⟩, 35), (⟨"ChanceRingsModel", "putsName", "(I)V"⟩, 35), (⟨"ChanceRingsModel", "putsNumber", "(I)V"⟩, 35)]
theorem lw_r7 : ∀ q ∈ lw_privs_7, lw_okq q := List.forall_mem_cons.mpr ⟨lw_p96, List.forall_mem_cons.mpr ⟨lw_p97, List.forall_mem_cons.mpr ⟨lw_p98, List.forall_mem_cons.mpr ⟨lw_p99, List.forall_mem_cons.mpr ⟨lw_p100, List.forall_mem_cons.mpr ⟨lw_p101, List.forall_mem_cons.mpr ⟨lw_p102, List.forall_mem_cons.mpr ⟨lw_p103, List.forall_mem_cons.mpr ⟨lw_p104, List.forall_mem_cons.mpr ⟨lw_p105, List.forall_mem_cons.mpr ⟨lw_p106, List.forall_mem_cons.mpr ⟨lw_p107, List.forall_mem_cons.mpr ⟨lw_p108, fun _ h => absurd h List.not_mem_nil⟩⟩⟩⟩⟩⟩⟩⟩⟩⟩⟩⟩⟩
def lw_privs : List (MethodName × Nat) := lw_privs_1 ++ (lw_privs_2 ++ (lw_privs_3 ++ (lw_privs_4 ++ (lw_privs_5 ++ (lw_privs_6 ++ (lw_privs_7))))))
def lw_tbl : List Cond := k2_sels lw_privs ++ tables_1
theorem lw_privs_ok : ∀ q ∈ lw_privs, lw_okq q := by
  show ∀ q ∈ lw_privs_1 ++ (lw_privs_2 ++ (lw_privs_3 ++ (lw_privs_4 ++ (lw_privs_5 ++ (lw_privs_6 ++ (lw_privs_7)))))), lw_okq q
  exact List.forall_mem_append.mpr ⟨lw_r1, List.forall_mem_append.mpr ⟨lw_r2, List.forall_mem_append.mpr ⟨lw_r3, List.forall_mem_append.mpr ⟨lw_r4, List.forall_mem_append.mpr ⟨lw_r5, List.forall_mem_append.mpr ⟨lw_r6, lw_r7⟩⟩⟩⟩⟩⟩
