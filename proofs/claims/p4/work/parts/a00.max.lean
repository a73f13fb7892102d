/-! Plays on a network: sums over ways, coming to an end, the greatest-value principle, the best reply, plans that get better. Pure: nothing of the machine. -/
/-- the sum of weight times value over a list of (weight, target) -/
def pz_s : List (Nat × Nat) → (Nat → Rat) → Rat
  | [], _ => 0
  | p :: l, u => (p.1 : Rat) * u p.2 + pz_s l u
theorem pz_s_sub (l : List (Nat × Nat)) (u v : Nat → Rat) : pz_s l (fun k => u k - v k) = pz_s l u - pz_s l v := by
  induction l with
  | nil => simp [pz_s]; grind
  | cons p l ih => simp only [pz_s, ih]; grind
theorem pz_s_const (l : List (Nat × Nat)) (c : Rat) : pz_s l (fun _ => c) = pz_s l (fun _ => 1) * c := by
  induction l with
  | nil => simp [pz_s]
  | cons p l ih => simp only [pz_s, ih]; grind
theorem pz_cast_nonneg (n : Nat) : (0 : Rat) ≤ (n : Rat) := by exact_mod_cast Nat.zero_le n
theorem pz_cast_pos {n : Nat} (h : 0 < n) : (0 : Rat) < (n : Rat) := by exact_mod_cast h
theorem pz_s_le {l : List (Nat × Nat)} {u v : Nat → Rat} (h : ∀ p ∈ l, u p.2 ≤ v p.2) : pz_s l u ≤ pz_s l v := by
  induction l with
  | nil => exact Rat.le_refl
  | cons p l ih =>
    have h1 := h p List.mem_cons_self
    have h2 := ih (fun q hq => h q (List.mem_cons_of_mem _ hq))
    have h3 := Rat.mul_le_mul_of_nonneg_left h1 (pz_cast_nonneg p.1)
    simp only [pz_s]
    grind
theorem pz_s_nonneg {l : List (Nat × Nat)} {u : Nat → Rat} (h : ∀ p ∈ l, 0 ≤ u p.2) : 0 ≤ pz_s l u := by
  have := pz_s_le (l := l) (u := fun _ => 0) (v := u) h
  rw [pz_s_const, Rat.mul_zero] at this
  exact this
/-- terms that are none below 0 and together not above 0 are all 0 -/
theorem pz_s_zero {l : List (Nat × Nat)} {u : Nat → Rat} (hw : ∀ p ∈ l, 0 < p.1) (h : ∀ p ∈ l, 0 ≤ u p.2) (hs : pz_s l u ≤ 0) : ∀ p ∈ l, u p.2 = 0 := by
  induction l with
  | nil => intro p hp; cases hp
  | cons q l ih =>
    have h1 := h q List.mem_cons_self
    have h2 : 0 ≤ pz_s l u := pz_s_nonneg (fun p hp => h p (List.mem_cons_of_mem _ hp))
    have h3 := Rat.mul_nonneg (pz_cast_nonneg q.1) h1
    simp only [pz_s] at hs
    have e1 : (q.1 : Rat) * u q.2 = 0 := by grind
    have e2 : pz_s l u ≤ 0 := by grind
    have hq := pz_cast_pos (hw q List.mem_cons_self)
    intro p hp
    rcases List.mem_cons.mp hp with rfl | hp
    · rcases Rat.mul_eq_zero.mp e1 with h0 | h0
      · rw [h0] at hq; exact absurd hq Rat.lt_irrefl
      · exact h0
    · exact ih (fun p hp => hw p (List.mem_cons_of_mem _ hp)) (fun p hp => h p (List.mem_cons_of_mem _ hp)) e2 p hp
/-- some place below n has the greatest of the values -/
theorem pz_max (u : Nat → Rat) : ∀ n : Nat, 0 < n → ∃ k, k < n ∧ ∀ j, j < n → u j ≤ u k
  | 1, _ => ⟨0, by omega, fun j hj => by rw [show j = 0 by omega]; exact Rat.le_refl⟩
  | n + 2, _ => by
    obtain ⟨k, hk, h⟩ := pz_max u (n + 1) (by omega)
    by_cases hn : u (n + 1) ≤ u k
    · exact ⟨k, by omega, fun j hj => by
        rcases Nat.lt_or_ge j (n + 1) with q | q
        · exact h j q
        · rw [show j = n + 1 by omega]; exact hn⟩
    · refine ⟨n + 1, by omega, fun j hj => ?_⟩
      rcases Nat.lt_or_ge j (n + 1) with q | q
      · have := h j q
        grind
      · rw [show j = n + 1 by omega]; exact Rat.le_refl
section PZ
variable (n : Nat) (en : Nat → Bool) (sc : Nat → List (Nat × Nat))
/-- an end is come to in at most m moves by the ways sc -/
def pz_R : Nat → Nat → Prop
  | 0, k => en k = true
  | m + 1, k => en k = true ∨ ∃ p ∈ sc k, pz_R m p.2
def pz_C (k : Nat) : Prop := ∃ m, pz_R en sc m k
/-- ways lead to places below n, by weights above 0, and there is one -/
def pz_ok : Prop := ∀ k, k < n → en k = false → sc k ≠ [] ∧ ∀ p ∈ sc k, 0 < p.1 ∧ p.2 < n
variable {n en sc}
theorem pz_C_step {k : Nat} {p : Nat × Nat} (hp : p ∈ sc k) (h : pz_C en sc p.2) : pz_C en sc k := by
  obtain ⟨m, hm⟩ := h
  exact ⟨m + 1, Or.inr ⟨p, hp, hm⟩⟩
theorem pz_C_end {k : Nat} (h : en k = true) : pz_C en sc k := ⟨0, h⟩
/-- THE PRINCIPLE: what is not above 0 at ends and where no end is come to, and elsewhere not above the mean of what follows, is nowhere above 0 -/
theorem pz_prin (hok : pz_ok n en sc) {u : Nat → Rat} (h0 : ∀ k, k < n → (en k = true ∨ ¬ pz_C en sc k) → u k ≤ 0) (h1 : ∀ k, k < n → en k = false → pz_C en sc k → pz_s (sc k) (fun _ => 1) * u k ≤ pz_s (sc k) u) : ∀ k, k < n → u k ≤ 0 := by
  intro k hk
  obtain ⟨x, hx, hmax⟩ := pz_max u n (by omega)
  by_cases hM : u x ≤ 0
  · exact Rat.le_trans (hmax k hk) hM
  · exfalso
    have key : ∀ m y, y < n → u y = u x → pz_R en sc m y → False := by
      intro m
      induction m with
      | zero => intro y hy e hr; exact hM (by rw [← e]; exact h0 y hy (Or.inl hr))
      | succ m ih =>
        intro y hy e hr
        by_cases he : en y = true
        · exact hM (by rw [← e]; exact h0 y hy (Or.inl he))
        · have he : en y = false := by simpa using he
          rcases hr with hr | ⟨p, hp, hr⟩
          · rw [hr] at he; cases he
          · have hc : pz_C en sc y := ⟨m + 1, Or.inr ⟨p, hp, hr⟩⟩
            have hs := h1 y hy he hc
            obtain ⟨-, hall⟩ := hok y hy he
            have hz := pz_s_zero (l := sc y) (u := fun k => u x - u k) (fun q hq => (hall q hq).1) (fun q hq => by
              have := hmax q.2 (hall q hq).2
              grind) (by
              rw [pz_s_sub (sc y) (fun _ => u x) u, pz_s_const]
              rw [e] at hs
              grind)
            have := hz p hp
            exact ih p.2 (hall p hp).2 (by grind) hr
    by_cases hc : pz_C en sc x
    · obtain ⟨m, hm⟩ := hc
      exact key m x hx rfl hm
    · exact hM (h0 x hx (Or.inr hc))
end PZ
/-- the sum below n -/
def pz_m : Nat → (Nat → Rat) → Rat
  | 0, _ => 0
  | n + 1, f => pz_m n f + f n
theorem pz_m_le {u v : Nat → Rat} : ∀ n : Nat, (∀ k, k < n → u k ≤ v k) → pz_m n u ≤ pz_m n v
  | 0, _ => Rat.le_refl
  | n + 1, h => by
    have h1 := pz_m_le n (fun k hk => h k (by omega))
    have h2 := h n (by omega)
    simp only [pz_m]
    grind
theorem pz_m_lt {u v : Nat → Rat} : ∀ n : Nat, (∀ k, k < n → u k ≤ v k) → (∃ k, k < n ∧ u k < v k) → pz_m n u < pz_m n v
  | 0, _, ⟨k, hk, _⟩ => absurd hk (by omega)
  | n + 1, h, ⟨k, hk, hl⟩ => by
    have h2 := h n (by omega)
    simp only [pz_m]
    rcases Nat.lt_or_ge k n with q | q
    · have h1 := pz_m_lt n (fun j hj => h j (by omega)) ⟨k, q, hl⟩
      grind
    · have e : k = n := by omega
      subst e
      have h1 := pz_m_le k (fun j hj => h j (by omega))
      grind
theorem pz_m_eq {u v : Nat → Rat} {n : Nat} (h : ∀ k, k < n → u k ≤ v k) (hs : pz_m n v ≤ pz_m n u) : ∀ k, k < n → u k = v k := by
  intro k hk
  have h1 := h k hk
  by_cases e : u k = v k
  · exact e
  · have := pz_m_lt n h ⟨k, hk, Rat.lt_of_le_of_ne h1 e⟩
    grind
/-- of a list that isn't empty, one with the least number -/
theorem pz_least {α : Type} (f : α → Rat) : ∀ l : List α, l ≠ [] → ∃ a, a ∈ l ∧ ∀ b, b ∈ l → f a ≤ f b
  | [], h => absurd rfl h
  | [a], _ => ⟨a, List.mem_cons_self, fun b hb => by rw [List.mem_singleton.mp hb]; exact Rat.le_refl⟩
  | a :: c :: l, _ => by
    obtain ⟨x, hx, h⟩ := pz_least f (c :: l) (by simp)
    by_cases hl : f a ≤ f x
    · refine ⟨a, List.mem_cons_self, fun b hb => ?_⟩
      rcases List.mem_cons.mp hb with rfl | hb
      · exact Rat.le_refl
      · exact Rat.le_trans hl (h b hb)
    · refine ⟨x, List.mem_cons_of_mem _ hx, fun b hb => ?_⟩
      rcases List.mem_cons.mp hb with rfl | hb
      · grind
      · exact h b hb
/-- the ways from k by the choice c: a player's node goes its one way, else all ways of chance -/
def pz_sc (pl : Nat → Bool) (ch : Nat → List (Nat × Nat)) (to : Nat → Nat → Nat) (c : Nat → Nat) (k : Nat) : List (Nat × Nat) := if pl k = true then [(1, to k (c k))] else ch k
section PB
variable (n : Nat) (en : Nat → Bool) (pay : Nat → Rat) (pl mx : Nat → Bool) (ch : Nat → List (Nat × Nat)) (to : Nat → Nat → Nat) (al : Nat → Nat → Prop)
/-- v is what the play by c brings -/
def pz_V (c : Nat → Nat) (v : Nat → Rat) : Prop :=
  (∀ k, k < n → en k = true → v k = pay k) ∧ (∀ k, k < n → en k = false → ¬ pz_C en (pz_sc pl ch to c) k → v k = 0) ∧
  ∀ k, k < n → en k = false → pz_C en (pz_sc pl ch to c) k → pz_s (pz_sc pl ch to c k) (fun _ => 1) * v k = pz_s (pz_sc pl ch to c k) v
/-- a legal choice -/
def pz_L (c : Nat → Nat) : Prop := ∀ k, k < n → pl k = true → al k (c k)
/-- the network: chance has ways by weights above 0, all ways lead to nodes, ends pay 0 or more; MAX's nodes are players' -/
def pz_N : Prop := (∀ k, k < n → en k = false → pl k = false → ch k ≠ [] ∧ ∀ p ∈ ch k, 0 < p.1 ∧ p.2 < n) ∧ (∀ k, k < n → ∀ i, pl k = true → al k i → to k i < n) ∧ (∀ k, k < n → en k = true → 0 ≤ pay k) ∧ ∀ k, mx k = true → pl k = true
variable {n en pay pl mx ch to al}
theorem pz_ok_of (hN : pz_N n en pay pl mx ch to al) {c : Nat → Nat} (hc : pz_L n pl al c) : pz_ok n en (pz_sc pl ch to c) := by
  intro k hk he
  unfold pz_sc
  by_cases hp : pl k = true
  · rw [if_pos hp]
    refine ⟨by simp, fun p h => ?_⟩
    rw [List.mem_singleton.mp h]
    exact ⟨Nat.one_pos, hN.2.1 k hk _ hp (hc k hk hp)⟩
  · rw [if_neg hp]
    exact hN.1 k hk he (by simpa using hp)
/-- where no end is come to, none is come to behind it -/
theorem pz_C_next {sc : Nat → List (Nat × Nat)} {k : Nat} (h : ¬ pz_C en sc k) {p : Nat × Nat} (hp : p ∈ sc k) : ¬ pz_C en sc p.2 := fun q => h (pz_C_step hp q)
theorem pz_s_all0 {l : List (Nat × Nat)} {v : Nat → Rat} (h : ∀ p ∈ l, v p.2 = 0) : pz_s l v = 0 := by
  induction l with
  | nil => rfl
  | cons p l ih =>
    simp only [pz_s]
    rw [h p List.mem_cons_self, ih (fun q hq => h q (List.mem_cons_of_mem _ hq))]
    grind
/-- the mean holds at every node that is no end -/
theorem pz_V_mean (hN : pz_N n en pay pl mx ch to al) {c : Nat → Nat} (hc : pz_L n pl al c) {v : Nat → Rat} (hv : pz_V n en pay pl ch to c v) : ∀ k, k < n → en k = false → pz_s (pz_sc pl ch to c k) (fun _ => 1) * v k = pz_s (pz_sc pl ch to c k) v := by
  intro k hk he
  by_cases h : pz_C en (pz_sc pl ch to c) k
  · exact hv.2.2 k hk he h
  · rw [hv.2.1 k hk he h, Rat.mul_zero]
    refine (pz_s_all0 fun p hp => ?_).symm
    have hb := ((pz_ok_of hN hc k hk he).2 p hp).2
    have hq := pz_C_next h hp
    by_cases e2 : en p.2 = true
    · exact absurd (pz_C_end e2) hq
    · exact hv.2.1 p.2 hb (by simpa using e2) hq
theorem pz_V_nonneg (hN : pz_N n en pay pl mx ch to al) {c : Nat → Nat} (hc : pz_L n pl al c) {v : Nat → Rat} (hv : pz_V n en pay pl ch to c v) : ∀ k, k < n → 0 ≤ v k := by
  intro k hk
  have := pz_prin (pz_ok_of hN hc) (u := fun k => 0 - v k) (fun j hj h => by
    rcases h with h | h
    · have := hN.2.2.1 j hj h
      rw [← hv.1 j hj h] at this
      grind
    · by_cases e : en j = true
      · exact absurd (pz_C_end e) h
      · rw [hv.2.1 j hj (by simpa using e) h]; grind) (fun j hj he _ => by
    have := pz_V_mean hN hc hv j hj he
    have e0 : pz_s (pz_sc pl ch to c j) (fun _ => 0) = 0 := by rw [pz_s_const _ 0, Rat.mul_zero]
    rw [pz_s_sub _ (fun _ => 0) v, e0]
    grind) k hk
  grind
/-- a player's node has the value of where its way leads -/
theorem pz_V_way (hN : pz_N n en pay pl mx ch to al) {c : Nat → Nat} (hc : pz_L n pl al c) {v : Nat → Rat} (hv : pz_V n en pay pl ch to c v) {k : Nat} (hk : k < n) (he : en k = false) (hp : pl k = true) : v k = v (to k (c k)) := by
  have := pz_V_mean hN hc hv k hk he
  unfold pz_sc at this
  rw [if_pos hp] at this
  simp only [pz_s] at this
  grind
theorem pz_V_chance (hN : pz_N n en pay pl mx ch to al) {c : Nat → Nat} (hc : pz_L n pl al c) {v : Nat → Rat} (hv : pz_V n en pay pl ch to c v) {k : Nat} (hk : k < n) (he : en k = false) (hp : pl k = false) : pz_s (ch k) (fun _ => 1) * v k = pz_s (ch k) v := by
  have := pz_V_mean hN hc hv k hk he
  unfold pz_sc at this
  rw [if_neg (by simp [hp])] at this
  exact this
/-- ways that stay among nodes that are no ends come to none -/
theorem pz_stay {sc : Nat → List (Nat × Nat)} {S : Nat → Prop} (he : ∀ k, S k → en k = false) (hs : ∀ k, S k → ∀ p ∈ sc k, S p.2) : ∀ k, S k → ¬ pz_C en sc k := by
  intro k hk ⟨m, hm⟩
  induction m generalizing k with
  | zero => have := he k hk; rw [show en k = true from hm] at this; cases this
  | succ m ih =>
    rcases hm with h | ⟨p, hp, h⟩
    · have := he k hk; rw [h] at this; cases this
    · exact ih p.2 (hs k hk p hp) h
/-- changing a choice to that of another one on a set keeps it legal -/
theorem pz_L_mix {c d : Nat → Nat} (hc : pz_L n pl al c) (hd : pz_L n pl al d) (S : Nat → Prop) (f : Nat → Nat) (hf : ∀ k, (S k → f k = c k) ∧ (¬ S k → f k = d k)) : pz_L n pl al f := by
  intro k hk hp
  by_cases h : S k
  · rw [(hf k).1 h]; exact hc k hk hp
  · rw [(hf k).2 h]; exact hd k hk hp
theorem pz_sc_congr {c d : Nat → Nat} {k : Nat} (h : c k = d k) : pz_sc pl ch to c k = pz_sc pl ch to d k := by
  unfold pz_sc
  rw [h]
/-- THE BEST REPLY: of all legal choices that keep MAX's ways s, one is least at every node; it is 0 wherever any of them never ends; no way of MIN leads lower -/
theorem pz_best (hN : pz_N n en pay pl mx ch to al) (val : (Nat → Nat) → Nat → Rat) (hval : ∀ c, pz_L n pl al c → pz_V n en pay pl ch to c (val c)) {s : Nat → Nat} {P : List (Nat → Nat)} (hP0 : P ≠ []) (hP : ∀ c, c ∈ P → pz_L n pl al c ∧ ∀ k, k < n → mx k = true → c k = s k) (hall : ∀ c, pz_L n pl al c → (∀ k, k < n → mx k = true → c k = s k) → ∃ d, d ∈ P ∧ ∀ k, k < n → val d k = val c k) :
    ∃ b, b ∈ P ∧ (∀ c, pz_L n pl al c → (∀ k, k < n → mx k = true → c k = s k) → ∀ k, k < n → val b k ≤ val c k) ∧
      (∀ c, pz_L n pl al c → (∀ k, k < n → mx k = true → c k = s k) → ∀ k, k < n → ¬ pz_C en (pz_sc pl ch to c) k → val b k = 0) ∧
      ∀ k, k < n → en k = false → pl k = true → mx k = false → ∀ i, al k i → val b k ≤ val b (to k i) := by
  obtain ⟨b, hb, hleast⟩ := pz_least (fun c => pz_m n (val c)) P hP0
  obtain ⟨hbL, hbs⟩ := hP b hb
  have hmin : ∀ c, pz_L n pl al c → (∀ k, k < n → mx k = true → c k = s k) → pz_m n (val b) ≤ pz_m n (val c) := by
    intro c hc hcs
    obtain ⟨d, hd, he⟩ := hall c hc hcs
    exact Rat.le_trans (hleast d hd) (pz_m_le n (fun k hk => by rw [he k hk]; exact Rat.le_refl))
  have hvb := hval b hbL
  have hb0 := pz_V_nonneg hN hbL hvb
  -- 0 where a choice never ends
  have hA1 : ∀ c, pz_L n pl al c → (∀ k, k < n → mx k = true → c k = s k) → ∀ k, k < n → ¬ pz_C en (pz_sc pl ch to c) k → val b k = 0 := by
    intro c hc hcs
    obtain ⟨f, hf⟩ : ∃ f : Nat → Nat, ∀ k, ((k < n ∧ ¬ pz_C en (pz_sc pl ch to c) k) → f k = c k) ∧ (¬ (k < n ∧ ¬ pz_C en (pz_sc pl ch to c) k) → f k = b k) := by
      classical
      exact ⟨fun k => if k < n ∧ ¬ pz_C en (pz_sc pl ch to c) k then c k else b k, fun k => ⟨fun h => if_pos h, fun h => if_neg h⟩⟩
    have hfL := pz_L_mix hc hbL _ f hf
    have hfs : ∀ k, k < n → mx k = true → f k = s k := by
      intro k hk hm
      by_cases h : k < n ∧ ¬ pz_C en (pz_sc pl ch to c) k
      · rw [(hf k).1 h]; exact hcs k hk hm
      · rw [(hf k).2 h]; exact hbs k hk hm
    have hvf := hval f hfL
    have hst : ∀ k, (k < n ∧ ¬ pz_C en (pz_sc pl ch to c) k) → ¬ pz_C en (pz_sc pl ch to f) k := by
      refine pz_stay (S := fun k => k < n ∧ ¬ pz_C en (pz_sc pl ch to c) k) (fun k h => ?_) (fun k h p hp => ?_)
      · cases e : en k
        · rfl
        · exact absurd (pz_C_end e) h.2
      · rw [pz_sc_congr ((hf k).1 h)] at hp
        have e : en k = false := by
          cases e : en k
          · rfl
          · exact absurd (pz_C_end e) h.2
        exact ⟨((pz_ok_of hN hc k h.1 e).2 p hp).2, pz_C_next h.2 hp⟩
    have hle := pz_prin (pz_ok_of hN hfL) (u := fun k => val f k - val b k) (fun j hj h => by
      rcases h with h | h
      · rw [hvf.1 j hj h, hvb.1 j hj h]; grind
      · have e : en j = false := by
          cases e : en j
          · rfl
          · exact absurd (pz_C_end e) h
        have := hb0 j hj
        rw [hvf.2.1 j hj e h]; grind) (fun j hj he hr => by
      have hnS : ¬ (j < n ∧ ¬ pz_C en (pz_sc pl ch to c) j) := fun q => hst j q hr
      have e1 := pz_V_mean hN hfL hvf j hj he
      have e2 := pz_V_mean hN hbL hvb j hj he
      rw [← pz_sc_congr ((hf j).2 hnS)] at e2
      rw [pz_s_sub]
      grind)
    have heq := pz_m_eq (u := val f) (v := val b) (n := n) (fun k hk => by have := hle k hk; grind) (hmin f hfL hfs)
    intro k hk hr
    have h1 := hst k ⟨hk, hr⟩
    have e : en k = false := by
      cases e : en k
      · rfl
      · exact absurd (pz_C_end e) hr
    rw [← heq k hk]
    exact hvf.2.1 k hk e h1
  -- no way of MIN leads lower
  have hA2 : ∀ k, k < n → en k = false → pl k = true → mx k = false → ∀ i, al k i → val b k ≤ val b (to k i) := by
    intro k hk he hp hm i hi
    by_cases hlt : val b k ≤ val b (to k i)
    · exact hlt
    · exfalso
      obtain ⟨f, hfk, hfo⟩ : ∃ f : Nat → Nat, f k = i ∧ ∀ j, j ≠ k → f j = b j := ⟨fun j => if j = k then i else b j, if_pos rfl, fun j h => if_neg h⟩
      have hfL : pz_L n pl al f := by
        intro j hj hpj
        by_cases h : j = k
        · subst h; rw [hfk]; exact hi
        · rw [hfo j h]; exact hbL j hj hpj
      have hfs : ∀ j, j < n → mx j = true → f j = s j := by
        intro j hj hmj
        have h : j ≠ k := fun h => by rw [h, hm] at hmj; cases hmj
        rw [hfo j h]; exact hbs j hj hmj
      have hvf := hval f hfL
      have hto := hN.2.1 k hk i hp hi
      have hle := pz_prin (pz_ok_of hN hfL) (u := fun k => val f k - val b k) (fun j hj h => by
        rcases h with h | h
        · rw [hvf.1 j hj h, hvb.1 j hj h]; grind
        · have e : en j = false := by
            cases e : en j
            · rfl
            · exact absurd (pz_C_end e) h
          have := hb0 j hj
          rw [hvf.2.1 j hj e h]; grind) (fun j hj hej hr => by
        by_cases h : j = k
        · subst h
          have e1 := pz_V_way hN hfL hvf hj hej hp
          rw [hfk] at e1
          unfold pz_sc
          rw [if_pos hp, hfk]
          simp only [pz_s]
          grind
        · have e1 := pz_V_mean hN hfL hvf j hj hej
          have e2 := pz_V_mean hN hbL hvb j hj hej
          rw [← pz_sc_congr (hfo j h)] at e2
          rw [pz_s_sub]
          grind)
      have hk1 := pz_V_way hN hfL hvf hk he hp
      rw [hfk] at hk1
      have h2 := hle (to k i) hto
      have := pz_m_lt (u := val f) (v := val b) n (fun j hj => by have := hle j hj; grind) ⟨k, hk, by grind⟩
      have := hmin f hfL hfs
      grind
  refine ⟨b, hb, ?_, hA1, hA2⟩
  intro c hc hcs
  have hvc := hval c hc
  have hle := pz_prin (pz_ok_of hN hc) (u := fun k => val b k - val c k) (fun j hj h => by
    rcases h with h | h
    · rw [hvb.1 j hj h, hvc.1 j hj h]; grind
    · have e : en j = false := by
        cases e : en j
        · rfl
        · exact absurd (pz_C_end e) h
      rw [hA1 c hc hcs j hj h, hvc.2.1 j hj e h]; grind) (fun j hj hej hr => by
    cases hp : pl j
    · have e1 := pz_V_chance hN hbL hvb hj hej hp
      have e2 := pz_V_chance hN hc hvc hj hej hp
      unfold pz_sc
      rw [if_neg (by simp [hp]), pz_s_sub]
      grind
    · have e2 := pz_V_way hN hc hvc hj hej hp
      have e1 : val b j ≤ val b (to j (c j)) := by
        cases hm : mx j
        · exact hA2 j hj hej hp hm _ (hc j hj hp)
        · have := pz_V_way hN hbL hvb hj hej hp
          rw [hbs j hj hm, ← hcs j hj hm] at this
          rw [← this]; exact Rat.le_refl
      unfold pz_sc
      rw [if_pos hp]
      simp only [pz_s]
      grind)
  intro k hk
  have := hle k hk
  grind
end PB
section PI
variable {n : Nat} {en : Nat → Bool} {pay : Nat → Rat} {pl mx : Nat → Bool} {ch : Nat → List (Nat × Nat)} {to : Nat → Nat → Nat} {al : Nat → Nat → Prop}
/-- A PLAN THAT IS BETTERED leaves no less: v is what is left by the ways s of MAX (its least over MIN's replies), t goes other ways only where they lead to more; then every play that keeps t brings v or more -/
theorem pz_improve (hN : pz_N n en pay pl mx ch to al) (hmx : ∀ k, k < n → mx k = true → en k = false) (hpe : ∀ k, k < n → pl k = true → en k = false) (val : (Nat → Nat) → Nat → Rat) (hval : ∀ c, pz_L n pl al c → pz_V n en pay pl ch to c (val c)) {s t b : Nat → Nat} (hb : pz_L n pl al b) (hbs : ∀ k, k < n → mx k = true → b k = s k)
    (h0 : ∀ c, pz_L n pl al c → (∀ k, k < n → mx k = true → c k = s k) → ∀ k, k < n → ¬ pz_C en (pz_sc pl ch to c) k → val b k = 0)
    (h1 : ∀ k, k < n → en k = false → pl k = true → mx k = false → ∀ i, al k i → val b k ≤ val b (to k i))
    (ht : ∀ k, k < n → mx k = true → t k = s k ∨ val b (to k (s k)) < val b (to k (t k)))
    {c : Nat → Nat} (hc : pz_L n pl al c) (hct : ∀ k, k < n → mx k = true → c k = t k) : ∀ k, k < n → val b k ≤ val c k := by
  have hvb := hval b hb
  have hvc := hval c hc
  have hb0 := pz_V_nonneg hN hb hvb
  have hok := pz_ok_of hN hc
  -- from a player's node the way of c leads to no less
  have hway : ∀ k, k < n → en k = false → pl k = true → val b k ≤ val b (to k (c k)) := by
    intro k hk he hp
    cases hm : mx k
    · exact h1 k hk he hp hm _ (hc k hk hp)
    · have e1 := pz_V_way hN hb hvb hk he hp
      rw [hbs k hk hm] at e1
      rcases ht k hk hm with e | e
      · rw [hct k hk hm, e, ← e1]; exact Rat.le_refl
      · rw [hct k hk hm]; grind
  have hsub : ∀ k, k < n → en k = false → pz_s (pz_sc pl ch to c k) (fun _ => 1) * val b k ≤ pz_s (pz_sc pl ch to c k) (val b) := by
    intro k hk he
    cases hp : pl k
    · have := pz_V_chance hN hb hvb hk he hp
      unfold pz_sc
      rw [if_neg (by simp [hp]), this]
      exact Rat.le_refl
    · have := hway k hk he hp
      unfold pz_sc
      rw [if_pos hp]
      simp only [pz_s]
      grind
  -- where play by c never ends nothing was left
  have hz : ∀ k, k < n → ¬ pz_C en (pz_sc pl ch to c) k → val b k ≤ 0 := by
    intro k hk hr
    -- the greatest of v among the nodes where play by c never ends
    obtain ⟨w, hw⟩ : ∃ w : Nat → Rat, ∀ j, ((¬ pz_C en (pz_sc pl ch to c) j) → w j = val b j) ∧ (pz_C en (pz_sc pl ch to c) j → w j = 0) := by
      classical
      exact ⟨fun j => if pz_C en (pz_sc pl ch to c) j then 0 else val b j, fun j => ⟨fun h => if_neg h, fun h => if_pos h⟩⟩
    obtain ⟨x, hx, hmax⟩ := pz_max w n (by omega)
    have hwk := hmax k hk
    rw [(hw k).1 hr] at hwk
    by_cases hM : w x ≤ 0
    · exact Rat.le_trans hwk hM
    · exfalso
      have hxr : ¬ pz_C en (pz_sc pl ch to c) x := fun q => hM (by rw [(hw x).2 q]; exact Rat.le_refl)
      have hwx := (hw x).1 hxr
      have hS : ∀ j, (j < n ∧ ¬ pz_C en (pz_sc pl ch to c) j ∧ val b j = val b x) → en j = false ∧ (mx j = true → t j = s j) ∧ ∀ p ∈ pz_sc pl ch to c j, p.2 < n ∧ ¬ pz_C en (pz_sc pl ch to c) p.2 ∧ val b p.2 = val b x := by
        intro j hj
        have he : en j = false := by
          cases e : en j
          · rfl
          · exact absurd (pz_C_end e) hj.2.1
        obtain ⟨-, hall⟩ := hok j hj.1 he
        have hnext : ∀ p ∈ pz_sc pl ch to c j, val b p.2 ≤ val b x := by
          intro p hp
          have h2 := pz_C_next hj.2.1 hp
          have h3 := hmax p.2 (hall p hp).2
          rw [(hw p.2).1 h2, hwx] at h3
          exact h3
        have hs := hsub j hj.1 he
        have hzero := pz_s_zero (l := pz_sc pl ch to c j) (u := fun i => val b x - val b i) (fun q hq => (hall q hq).1) (fun q hq => by
          have := hnext q hq
          grind) (by
          rw [pz_s_sub _ (fun _ => val b x) (val b), pz_s_const _ (val b x)]
          rw [hj.2.2] at hs
          grind)
        refine ⟨he, fun hm => ?_, fun p hp => ⟨(hall p hp).2, pz_C_next hj.2.1 hp, by have := hzero p hp; grind⟩⟩
        rcases ht j hj.1 hm with e | e
        · exact e
        · exfalso
          have hp := hN.2.2.2 j hm
          have e1 := pz_V_way hN hb hvb hj.1 he hp
          rw [hbs j hj.1 hm] at e1
          have hin : (1, to j (c j)) ∈ pz_sc pl ch to c j := by
            unfold pz_sc
            rw [if_pos hp]
            exact List.mem_singleton.mpr rfl
          have h5 := hnext _ hin
          have h6 : val b (to j (c j)) ≤ val b x := h5
          rw [hct j hj.1 hm] at h6
          have h7 := hj.2.2
          grind
      obtain ⟨f, hf⟩ : ∃ f : Nat → Nat, ∀ j, ((j < n ∧ ¬ pz_C en (pz_sc pl ch to c) j ∧ val b j = val b x) → f j = c j) ∧ (¬ (j < n ∧ ¬ pz_C en (pz_sc pl ch to c) j ∧ val b j = val b x) → f j = b j) := by
        classical
        exact ⟨fun j => if (j < n ∧ ¬ pz_C en (pz_sc pl ch to c) j ∧ val b j = val b x) then c j else b j, fun j => ⟨fun h => if_pos h, fun h => if_neg h⟩⟩
      have hfL := pz_L_mix hc hb _ f hf
      have hfs : ∀ j, j < n → mx j = true → f j = s j := by
        intro j hj hm
        by_cases h : j < n ∧ ¬ pz_C en (pz_sc pl ch to c) j ∧ val b j = val b x
        · rw [(hf j).1 h, hct j hj hm]; exact (hS j h).2.1 hm
        · rw [(hf j).2 h]; exact hbs j hj hm
      have hst : ∀ j, (j < n ∧ ¬ pz_C en (pz_sc pl ch to c) j ∧ val b j = val b x) → ¬ pz_C en (pz_sc pl ch to f) j := by
        refine pz_stay (S := fun j => j < n ∧ ¬ pz_C en (pz_sc pl ch to c) j ∧ val b j = val b x) (fun j h => (hS j h).1) (fun j h p hp => ?_)
        rw [pz_sc_congr ((hf j).1 h)] at hp
        exact (hS j h).2.2 p hp
      have := h0 f hfL hfs x hx (hst x ⟨hx, hxr, rfl⟩)
      rw [hwx, this] at hM
      exact hM Rat.le_refl
  have hle := pz_prin hok (u := fun k => val b k - val c k) (fun j hj h => by
    rcases h with h | h
    · rw [hvb.1 j hj h, hvc.1 j hj h]; grind
    · have e : en j = false := by
        cases e : en j
        · rfl
        · exact absurd (pz_C_end e) h
      have := hz j hj h
      rw [hvc.2.1 j hj e h]; grind) (fun j hj he hr => by
    have e1 := hsub j hj he
    have e2 := pz_V_mean hN hc hvc j hj he
    rw [pz_s_sub]
    grind)
  intro k hk
  have := hle k hk
  grind
/-- THE STEP: with v the least left by s, w the least left by t (each a play's own values, b and d), and a node where t leads to more: all of w is no less than v, and their sum is more -/
theorem pz_step (hN : pz_N n en pay pl mx ch to al) (hmx : ∀ k, k < n → mx k = true → en k = false) (hpe : ∀ k, k < n → pl k = true → en k = false) (val : (Nat → Nat) → Nat → Rat) (hval : ∀ c, pz_L n pl al c → pz_V n en pay pl ch to c (val c)) {s t b d : Nat → Nat} (hb : pz_L n pl al b) (hbs : ∀ k, k < n → mx k = true → b k = s k) (hd : pz_L n pl al d) (hdt : ∀ k, k < n → mx k = true → d k = t k)
    (h0 : ∀ c, pz_L n pl al c → (∀ k, k < n → mx k = true → c k = s k) → ∀ k, k < n → ¬ pz_C en (pz_sc pl ch to c) k → val b k = 0)
    (h1 : ∀ k, k < n → en k = false → pl k = true → mx k = false → ∀ i, al k i → val b k ≤ val b (to k i))
    (ht : ∀ k, k < n → mx k = true → t k = s k ∨ val b (to k (s k)) < val b (to k (t k))) (hsome : ∃ k, k < n ∧ mx k = true ∧ val b (to k (s k)) < val b (to k (t k))) : pz_m n (val b) < pz_m n (val d) := by
  have hle := pz_improve hN hmx hpe val hval hb hbs h0 h1 ht hd hdt
  refine pz_m_lt n hle ?_
  obtain ⟨k, hk, hm, hlt⟩ := hsome
  refine ⟨k, hk, ?_⟩
  have hp := hN.2.2.2 k hm
  have he := hmx k hk hm
  have e1 := pz_V_way hN hb (hval b hb) hk he hp
  have e2 := pz_V_way hN hd (hval d hd) hk he hp
  rw [hbs k hk hm] at e1
  rw [hdt k hk hm] at e2
  have h3 := hle (to k (t k)) (hN.2.1 k hk _ hp (by rw [← hdt k hk hm]; exact hd k hk hp))
  grind
end PI
/-- numbers of a finite list that grow by steps within it stop: how many of the list are above -/
def pz_up {α : Type} (f : α → Rat) (l : List α) (r : Rat) : Nat := (l.filter (fun a => decide (r < f a))).length
theorem pz_up_lt {α : Type} (f : α → Rat) : ∀ (l : List α) (a : α) (r : Rat), a ∈ l → r < f a → pz_up f l (f a) < pz_up f l r
  | [], _, _, h, _ => nomatch h
  | x :: l, a, r, h, hr => by
    have hmono : ∀ l : List α, pz_up f l (f a) ≤ pz_up f l r := by
      intro l
      induction l with
      | nil => exact Nat.le_refl _
      | cons y l ih =>
        unfold pz_up at ih ⊢
        simp only [List.filter_cons]
        by_cases h1 : f a < f y
        · have h2 : r < f y := by grind
          simp only [h1, h2, decide_true, if_true, List.length_cons]
          omega
        · by_cases h2 : r < f y
          · simp only [h1, h2, decide_true, decide_false, if_true, List.length_cons]
            simp
            omega
          · simp only [h1, h2, decide_false]
            simpa using ih
    rcases List.mem_cons.mp h with rfl | h
    · have := hmono l
      unfold pz_up at this ⊢
      simp only [List.filter_cons]
      have h1 : ¬ f a < f a := Rat.lt_irrefl
      simp only [h1, hr, decide_true, decide_false, if_true, List.length_cons]
      simp
      omega
    · have := pz_up_lt f l a r h hr
      unfold pz_up at this ⊢
      simp only [List.filter_cons]
      by_cases h1 : f a < f x
      · have h2 : r < f x := by grind
        simp only [h1, h2, decide_true, if_true, List.length_cons]
        omega
      · by_cases h2 : r < f x
        · simp only [h1, h2, decide_true, decide_false, if_true, List.length_cons]
          simp
          omega
        · simp only [h1, h2, decide_false]
          simpa using this
/-! Determinants by the first column, over the rationals: rows may be added to each other; the part behind the first pivot; whole numbers stay whole. -/
theorem pz_m_congr {u v : Nat → Rat} : ∀ n : Nat, (∀ k, k < n → u k = v k) → pz_m n u = pz_m n v
  | 0, _ => rfl
  | n + 1, h => by
    simp only [pz_m]
    rw [pz_m_congr n (fun k hk => h k (by omega)), h n (by omega)]
theorem pz_m_lin (x : Rat) (u v : Nat → Rat) : ∀ n : Nat, pz_m n (fun k => x * u k + v k) = x * pz_m n u + pz_m n v
  | 0 => by simp only [pz_m]; grind
  | n + 1 => by
    simp only [pz_m]
    rw [pz_m_lin x u v n]
    grind
theorem pz_m_zero {u : Nat → Rat} {n : Nat} (h : ∀ k, k < n → u k = 0) : pz_m n u = 0 := by
  rw [pz_m_congr n (v := fun k => 0 * u k + 0) (fun k hk => by rw [h k hk]; grind), pz_m_lin]
  have : pz_m n (fun _ => (0 : Rat)) = 0 := by
    clear h
    induction n with
    | zero => rfl
    | succ n ih => simp only [pz_m, ih]; grind
  rw [this]
  grind
/-- two terms beside each other that cancel, all others 0 -/
theorem pz_m_two {u : Nat → Rat} : ∀ (n r : Nat), r + 1 < n → (∀ k, k < n → k ≠ r → k ≠ r + 1 → u k = 0) → u r + u (r + 1) = 0 → pz_m n u = 0
  | 0, _, h, _, _ => absurd h (by omega)
  | n + 1, r, hr, h, hs => by
    simp only [pz_m]
    by_cases e : r + 1 = n
    · subst e
      simp only [pz_m]
      rw [pz_m_zero (fun k hk => h k (by omega) (by omega) (by omega))]
      grind
    · rw [pz_m_two n r (by omega) (fun k hk h1 h2 => h k (by omega) h1 h2) hs, h n (by omega) (by omega) (by omega)]
      grind
/-- only the first term -/
theorem pz_m_first {u : Nat → Rat} : ∀ n : Nat, (∀ k, k < n + 1 → k ≠ 0 → u k = 0) → pz_m (n + 1) u = u 0
  | 0, _ => by simp only [pz_m]; grind
  | n + 1, h => by
    rw [pz_m, pz_m_first n (fun k hk h0 => h k (by omega) h0), h (n + 1) (by omega) (by omega)]
    grind
def pd_skip (i a : Nat) : Nat := if a < i then a else a + 1
theorem pd_skip_at {i r : Nat} (h : i ≠ r) : pd_skip i (if r < i then r else r - 1) = r := by
  rcases Nat.lt_or_ge r i with q | q
  · rw [if_pos q]; exact if_pos q
  · rw [if_neg (by omega)]; unfold pd_skip; rw [if_neg (by omega)]; omega
def pd_sg (i : Nat) : Rat := if i % 2 = 0 then 1 else -1
def pd_det : Nat → (Nat → Nat → Rat) → Rat
  | 0, _ => 1
  | n + 1, A => pz_m (n + 1) (fun i => pd_sg i * A i 0 * pd_det n (fun a b => A (pd_skip i a) (b + 1)))
theorem pd_congr : ∀ (n : Nat) (A B : Nat → Nat → Rat), (∀ a b, a < n → b < n → A a b = B a b) → pd_det n A = pd_det n B
  | 0, _, _, _ => rfl
  | n + 1, A, B, h => by
    simp only [pd_det]
    refine pz_m_congr _ fun i hi => ?_
    rw [h i 0 hi (by omega), pd_congr n _ _ (fun a b ha hb => h _ _ (by unfold pd_skip; split <;> omega) (by omega))]
theorem pd_lin (x : Rat) : ∀ (n : Nat) (A B C : Nat → Nat → Rat) (r : Nat), r < n → (∀ a b, a ≠ r → A a b = B a b ∧ A a b = C a b) → (∀ b, A r b = x * B r b + C r b) → pd_det n A = x * pd_det n B + pd_det n C
  | 0, _, _, _, _, h, _, _ => absurd h (by omega)
  | n + 1, A, B, C, r, hr, ho, hl => by
    simp only [pd_det]
    rw [← pz_m_lin]
    refine pz_m_congr _ fun i hi => ?_
    by_cases e : i = r
    · subst e
      have e1 : pd_det n (fun a b => A (pd_skip i a) (b + 1)) = pd_det n (fun a b => B (pd_skip i a) (b + 1)) := pd_congr n _ _ (fun a b _ _ => (ho _ _ (by unfold pd_skip; split <;> omega)).1)
      have e2 : pd_det n (fun a b => A (pd_skip i a) (b + 1)) = pd_det n (fun a b => C (pd_skip i a) (b + 1)) := pd_congr n _ _ (fun a b _ _ => (ho _ _ (by unfold pd_skip; split <;> omega)).2)
      rw [← e1, ← e2, hl 0]
      grind
    · have hA := ho i 0 e
      have ih := pd_lin x n (fun a b => A (pd_skip i a) (b + 1)) (fun a b => B (pd_skip i a) (b + 1)) (fun a b => C (pd_skip i a) (b + 1)) (if r < i then r else r - 1) (by split <;> omega) (fun a b ha => ho _ _ (by revert ha; unfold pd_skip; split <;> split <;> omega)) (fun b => by
        have hs : pd_skip i (if r < i then r else r - 1) = r := pd_skip_at e
        show A (pd_skip i _) (b + 1) = _
        simp only [hs]
        exact hl (b + 1))
      rw [ih, ← hA.1, ← hA.2]
      grind
/-- two equal rows beside each other -/
theorem pd_eq1 : ∀ (n : Nat) (A : Nat → Nat → Rat) (r : Nat), r + 1 < n → (∀ b, A r b = A (r + 1) b) → pd_det n A = 0
  | 0, _, _, h, _ => absurd h (by omega)
  | n + 1, A, r, hr, he => by
    simp only [pd_det]
    refine pz_m_two (n + 1) r hr (fun i hi h1 h2 => ?_) ?_
    · rw [pd_eq1 n (fun a b => A (pd_skip i a) (b + 1)) (if r < i then r else r - 1) (by split <;> omega) (fun b => ?_)]
      · grind
      · have hs : pd_skip i (if r < i then r else r - 1) = r := pd_skip_at h1
        have hs2 : pd_skip i ((if r < i then r else r - 1) + 1) = r + 1 := by
          rcases Nat.lt_or_ge r i with q | q
          · rw [if_pos q]; exact if_pos (by omega)
          · rw [if_neg (by omega)]; unfold pd_skip; rw [if_neg (by omega)]; omega
        show A (pd_skip i _) (b + 1) = A (pd_skip i _) (b + 1)
        rw [hs, hs2]
        exact he (b + 1)
    · have e : pd_det n (fun a b => A (pd_skip r a) (b + 1)) = pd_det n (fun a b => A (pd_skip (r + 1) a) (b + 1)) := pd_congr n _ _ (fun a b _ _ => by
        unfold pd_skip
        by_cases h : a = r
        · subst h
          rw [if_neg (by omega), if_pos (by omega)]
          exact (he (b + 1)).symm
        · by_cases h2 : a < r
          · rw [if_pos h2, if_pos (by omega)]
          · rw [if_neg h2, if_neg (by omega)])
      rw [e, he 0]
      have hsg : pd_sg (r + 1) = -pd_sg r := by
        unfold pd_sg
        by_cases h : r % 2 = 0
        · rw [if_pos h, if_neg (by omega)]
        · rw [if_neg h, if_pos (by omega)]; grind
      rw [hsg]
      grind
/-- the matrix with the row r replaced -/
def pd_row (A : Nat → Nat → Rat) (r : Nat) (u : Nat → Rat) : Nat → Nat → Rat := fun a b => if a = r then u b else A a b
theorem pd_row_at (A : Nat → Nat → Rat) (r : Nat) (u : Nat → Rat) (b : Nat) : pd_row A r u r b = u b := if_pos rfl
theorem pd_row_ne (A : Nat → Nat → Rat) {r a : Nat} (u : Nat → Rat) (b : Nat) (h : a ≠ r) : pd_row A r u a b = A a b := if_neg h
/-- rows beside each other change places: the sign turns -/
theorem pd_swap (n : Nat) (A : Nat → Nat → Rat) (r : Nat) (hr : r + 1 < n) : pd_det n (pd_row (pd_row A r (A (r + 1))) (r + 1) (A r)) = -pd_det n A := by
  have hs : ∀ u v : Nat → Rat, pd_det n (pd_row (pd_row A r u) (r + 1) v) = pd_det n (pd_row (pd_row A r u) (r + 1) v) := fun _ _ => rfl
  -- both rows u + v
  have z : ∀ u : Nat → Rat, pd_det n (pd_row (pd_row A r u) (r + 1) u) = 0 := fun u => pd_eq1 n _ r hr (fun b => by
    rw [pd_row_at, pd_row_ne _ _ _ (by omega), pd_row_at])
  have l2 : ∀ u v w : Nat → Rat, pd_det n (pd_row (pd_row A r u) (r + 1) (fun b => v b + w b)) = pd_det n (pd_row (pd_row A r u) (r + 1) v) + pd_det n (pd_row (pd_row A r u) (r + 1) w) := fun u v w => by
    rw [pd_lin 1 n _ (pd_row (pd_row A r u) (r + 1) v) (pd_row (pd_row A r u) (r + 1) w) (r + 1) hr (fun a b h => by
      rw [pd_row_ne _ _ _ h, pd_row_ne _ _ _ h, pd_row_ne _ _ _ h]; exact ⟨rfl, rfl⟩) (fun b => by
      rw [pd_row_at, pd_row_at, pd_row_at]; grind)]
    grind
  have l1 : ∀ u v w : Nat → Rat, pd_det n (pd_row (pd_row A r (fun b => u b + v b)) (r + 1) w) = pd_det n (pd_row (pd_row A r u) (r + 1) w) + pd_det n (pd_row (pd_row A r v) (r + 1) w) := fun u v w => by
    rw [pd_lin 1 n _ (pd_row (pd_row A r u) (r + 1) w) (pd_row (pd_row A r v) (r + 1) w) r (by omega) (fun a b h => by
      by_cases h2 : a = r + 1
      · subst h2; rw [pd_row_at, pd_row_at, pd_row_at]; exact ⟨rfl, rfl⟩
      · rw [pd_row_ne _ _ _ h2, pd_row_ne _ _ _ h, pd_row_ne _ _ _ h2, pd_row_ne _ _ _ h, pd_row_ne _ _ _ h2, pd_row_ne _ _ _ h]; exact ⟨rfl, rfl⟩) (fun b => by
      rw [pd_row_ne _ _ _ (by omega), pd_row_at, pd_row_ne _ _ _ (by omega), pd_row_at, pd_row_ne _ _ _ (by omega), pd_row_at]; grind)]
    grind
  have h := z (fun b => A r b + A (r + 1) b)
  rw [l1 (A r) (A (r + 1)), l2, l2, z, z] at h
  have hid : pd_det n (pd_row (pd_row A r (A r)) (r + 1) (A (r + 1))) = pd_det n A := pd_congr n _ _ (fun a b _ _ => by
    by_cases h2 : a = r + 1
    · subst h2; rw [pd_row_at]
    · rw [pd_row_ne _ _ _ h2]
      by_cases h3 : a = r
      · subst h3; rw [pd_row_at]
      · rw [pd_row_ne _ _ _ h3])
  rw [hid] at h
  grind
/-- two equal rows -/
theorem pd_eq2 (n : Nat) : ∀ (k : Nat) (A : Nat → Nat → Rat) (r : Nat), r + 1 + k < n → (∀ b, A r b = A (r + 1 + k) b) → pd_det n A = 0
  | 0, A, r, hr, he => pd_eq1 n A r hr he
  | k + 1, A, r, hr, he => by
    have h1 := pd_swap n A (r + 1 + k) (by omega)
    have h2 := pd_eq2 n k (pd_row (pd_row A (r + 1 + k) (A (r + 1 + k + 1))) (r + 1 + k + 1) (A (r + 1 + k))) r (by omega) (fun b => by
      rw [pd_row_ne _ _ _ (by omega), pd_row_ne _ _ _ (by omega), pd_row_ne _ _ _ (by omega), pd_row_at]
      exact he b)
    rw [h2] at h1
    grind
/-- a multiple of the first row may be added to another -/
theorem pd_add (n : Nat) (A : Nat → Nat → Rat) (r : Nat) (hr : r + 1 < n) (x : Rat) : pd_det n (pd_row A (r + 1) (fun b => x * A 0 b + A (r + 1) b)) = pd_det n A := by
  rw [pd_lin x n _ (pd_row A (r + 1) (A 0)) A (r + 1) hr (fun a b h => by rw [pd_row_ne _ _ _ h, pd_row_ne _ _ _ h]; exact ⟨rfl, rfl⟩) (fun b => by rw [pd_row_at, pd_row_at])]
  rw [pd_eq2 n r (pd_row A (r + 1) (A 0)) 0 (by omega) (fun b => by rw [pd_row_ne _ _ _ (by omega), show 0 + 1 + r = r + 1 by omega, pd_row_at])]
  grind
/-- what is left behind the first pivot -/
def pd_schur (A : Nat → Nat → Rat) : Nat → Nat → Rat := fun a b => A (a + 1) (b + 1) - A (a + 1) 0 * A 0 (b + 1) / A 0 0
def pd_clear (A : Nat → Nat → Rat) (k : Nat) : Nat → Nat → Rat := fun a b => if a = 0 ∨ k < a then A a b else A a b - A a 0 * A 0 b / A 0 0
theorem pd_clear_det (n : Nat) (A : Nat → Nat → Rat) : ∀ k : Nat, k < n → pd_det n (pd_clear A k) = pd_det n A
  | 0, _ => pd_congr n _ _ (fun a b _ _ => by unfold pd_clear; rw [if_pos (by omega)])
  | k + 1, hk => by
    rw [← pd_clear_det n A k (by omega), ← pd_add n (pd_clear A k) k hk (-(A (k + 1) 0 / A 0 0))]
    refine pd_congr n _ _ (fun a b _ _ => ?_)
    by_cases h : a = k + 1
    · subst h
      rw [pd_row_at]
      unfold pd_clear
      rw [if_neg (by omega), if_pos (by omega), if_pos (by omega)]
      grind
    · rw [pd_row_ne _ _ _ h]
      unfold pd_clear
      by_cases h2 : a = 0 ∨ k + 1 < a
      · rw [if_pos h2, if_pos (by omega)]
      · rw [if_neg h2, if_neg (by omega)]
theorem pd_pivot (n : Nat) (A : Nat → Nat → Rat) (h0 : A 0 0 ≠ 0) : pd_det (n + 1) A = A 0 0 * pd_det n (pd_schur A) := by
  rw [← pd_clear_det (n + 1) A n (by omega)]
  rw [pd_det]
  rw [pz_m_first n (fun i hi h => by
    have : pd_clear A n i 0 = 0 := by
      unfold pd_clear
      rw [if_neg (by omega)]
      have := Rat.mul_div_cancel (a := A i 0) h0
      grind
    rw [this]; grind)]
  have e1 : pd_clear A n 0 0 = A 0 0 := by unfold pd_clear; rw [if_pos (by omega)]
  rw [e1, pd_congr n (fun a b => pd_clear A n (pd_skip 0 a) (b + 1)) (pd_schur A) (fun a b ha hb => by
    unfold pd_clear pd_skip pd_schur
    rw [if_neg (by omega : ¬ a < 0), if_neg (by omega)])]
  unfold pd_sg
  rw [if_pos (by omega)]
  grind
/-- whole numbers -/
def pd_Z (x : Rat) : Prop := ∃ z : Int, x = (z : Rat)
theorem pd_Z_add {x y : Rat} (hx : pd_Z x) (hy : pd_Z y) : pd_Z (x + y) := by
  obtain ⟨a, rfl⟩ := hx
  obtain ⟨b, rfl⟩ := hy
  exact ⟨a + b, (Rat.intCast_add a b).symm⟩
theorem pd_Z_mul {x y : Rat} (hx : pd_Z x) (hy : pd_Z y) : pd_Z (x * y) := by
  obtain ⟨a, rfl⟩ := hx
  obtain ⟨b, rfl⟩ := hy
  exact ⟨a * b, (Rat.intCast_mul a b).symm⟩
theorem pd_Z_sum {u : Nat → Rat} : ∀ n : Nat, (∀ k, k < n → pd_Z (u k)) → pd_Z (pz_m n u)
  | 0, _ => ⟨0, rfl⟩
  | n + 1, h => pd_Z_add (pd_Z_sum n (fun k hk => h k (by omega))) (h n (by omega))
theorem pd_Z_det : ∀ (n : Nat) (A : Nat → Nat → Rat), (∀ a b, a < n → b < n → pd_Z (A a b)) → pd_Z (pd_det n A)
  | 0, _, _ => ⟨1, rfl⟩
  | n + 1, A, h => by
    simp only [pd_det]
    refine pd_Z_sum _ fun i hi => pd_Z_mul (pd_Z_mul ?_ (h i 0 hi (by omega))) (pd_Z_det n _ (fun a b ha hb => h _ _ (by unfold pd_skip; split <;> omega) (by omega)))
    unfold pd_sg
    split
    · exact ⟨1, rfl⟩
    · exact ⟨-1, rfl⟩
/-! Elimination: all rows are cleared at each pivot. d times what stands is whole where the matrix is; where the matrix is that of a play that ends, pivots are above 0. -/
def pd_G : Nat → (Nat → Nat → Rat) → Nat → Nat → Rat
  | 0, A => A
  | c + 1, A => fun i j => if i = c then pd_G c A c j / pd_G c A c c else pd_G c A i j - pd_G c A i c * pd_G c A c j / pd_G c A c c
def pd_d : Nat → (Nat → Nat → Rat) → Rat
  | 0, _ => 1
  | c + 1, A => pd_d c A * pd_G c A c c
theorem pd_G_at (c : Nat) (A : Nat → Nat → Rat) (j : Nat) : pd_G (c + 1) A c j = pd_G c A c j / pd_G c A c c := if_pos rfl
theorem pd_G_ne (c : Nat) (A : Nat → Nat → Rat) {i : Nat} (j : Nat) (h : i ≠ c) : pd_G (c + 1) A i j = pd_G c A i j - pd_G c A i c * pd_G c A c j / pd_G c A c c := if_neg h
theorem pd_G_schur (A : Nat → Nat → Rat) : ∀ (c a b : Nat), pd_G (c + 1) A (a + 1) (b + 1) = pd_G c (pd_schur A) a b
  | 0, a, b => by
    rw [pd_G_ne 0 A _ (by omega)]
    rfl
  | c + 1, a, b => by
    by_cases h : a = c
    · subst h
      rw [pd_G_at (a + 1) A, pd_G_at a, pd_G_schur A a, pd_G_schur A a]
    · rw [pd_G_ne (c + 1) A _ (by omega), pd_G_ne c _ _ h, pd_G_schur A c, pd_G_schur A c, pd_G_schur A c, pd_G_schur A c]
theorem pd_d_schur (A : Nat → Nat → Rat) : ∀ c : Nat, pd_d (c + 1) A = A 0 0 * pd_d c (pd_schur A)
  | 0 => by simp only [pd_d, pd_G]; grind
  | c + 1 => by
    rw [pd_d, pd_d_schur A c, pd_G_schur A c, pd_d]
    grind
/-- rows from c on: d times what stands there is the determinant of the first c rows and columns with one row and column more -/
theorem pd_border : ∀ (c : Nat) (A : Nat → Nat → Rat) (r j : Nat), c ≤ r → c ≤ j → (∀ k, k < c → pd_G k A k k ≠ 0) → pd_d c A * pd_G c A r j = pd_det (c + 1) (fun a b => A (if a < c then a else r) (if b < c then b else j))
  | 0, A, r, j, _, _, _ => by
    simp only [pd_d, pd_G, pd_det, pz_m, pd_sg]
    simp
    grind
  | c + 1, A, r, j, hr, hj, hp => by
    obtain ⟨r, rfl⟩ : ∃ x, r = x + 1 := ⟨r - 1, by omega⟩
    obtain ⟨j, rfl⟩ : ∃ x, j = x + 1 := ⟨j - 1, by omega⟩
    have h0 : A 0 0 ≠ 0 := hp 0 (by omega)
    rw [pd_d_schur, pd_G_schur, pd_pivot (c + 1) _ (by simpa using h0)]
    have ih := pd_border c (pd_schur A) r j (by omega) (by omega) (fun k hk => by rw [← pd_G_schur]; exact hp (k + 1) (by omega))
    have e : pd_det (c + 1) (pd_schur (fun a b => A (if a < c + 1 then a else r + 1) (if b < c + 1 then b else j + 1))) = pd_det (c + 1) (fun a b => pd_schur A (if a < c then a else r) (if b < c then b else j)) := by
      refine pd_congr _ _ _ fun a b ha hb => ?_
      unfold pd_schur
      have e1 : (if a + 1 < c + 1 then a + 1 else r + 1) = (if a < c then a else r) + 1 := by
        by_cases h : a < c
        · rw [if_pos h, if_pos (by omega)]
        · rw [if_neg h, if_neg (by omega)]
      have e2 : (if b + 1 < c + 1 then b + 1 else j + 1) = (if b < c then b else j) + 1 := by
        by_cases h : b < c
        · rw [if_pos h, if_pos (by omega)]
        · rw [if_neg h, if_neg (by omega)]
      simp only [e1, e2, if_pos (show 0 < c + 1 by omega)]
    rw [e, ← ih]
    simp only [if_pos (show 0 < c + 1 by omega)]
    grind
/-- pivot columns are cleared -/
theorem pd_unit (A : Nat → Nat → Rat) : ∀ (c : Nat), (∀ k, k < c → pd_G k A k k ≠ 0) → ∀ i j, j < c → pd_G c A i j = if i = j then 1 else 0
  | 0, _, i, j, h => absurd h (by omega)
  | c + 1, hp, i, j, hj => by
    have hc := hp c (by omega)
    rcases Nat.lt_or_ge j c with q | q
    · have ih := pd_unit A c (fun k hk => hp k (by omega))
      by_cases h : i = c
      · subst h
        rw [pd_G_at, ih i j q, if_neg (by omega)]
        grind
      · rw [pd_G_ne c A j h, ih i j q, ih c j q, if_neg (by omega : ¬ c = j)]
        grind
    · have e : j = c := by omega
      subst e
      by_cases h : i = j
      · subst h
        rw [pd_G_at, if_pos rfl]
        have := Rat.mul_inv_cancel _ hc
        grind
      · rw [pd_G_ne j A j h, if_neg h]
        have := Rat.mul_div_cancel (a := pd_G j A i j) hc
        grind
/-- with one row R in place of A's: minus the unit row of i -/
def pd_aug (A : Nat → Nat → Rat) (R i : Nat) : Nat → Nat → Rat := fun a b => if a = R then (if b = i then -1 else 0) else A a b
theorem pd_aug_other (A : Nat → Nat → Rat) (R i : Nat) : ∀ c, c ≤ R → ∀ a b, a ≠ R → pd_G c (pd_aug A R i) a b = pd_G c A a b
  | 0, _, a, b, h => if_neg h
  | c + 1, hc, a, b, h => by
    have ih := pd_aug_other A R i c (by omega)
    by_cases e : a = c
    · subst e
      rw [pd_G_at, pd_G_at, ih a b h, ih a a h]
    · rw [pd_G_ne c _ b e, pd_G_ne c A b e, ih a b h, ih a c h, ih c b (by omega), ih c c (by omega)]
theorem pd_aug_before (A : Nat → Nat → Rat) (R i : Nat) : ∀ c, c ≤ R → c ≤ i → ∀ b, pd_G c (pd_aug A R i) R b = if b = i then -1 else 0
  | 0, _, _, b => if_pos rfl
  | c + 1, hc, hi, b => by
    have ih := pd_aug_before A R i c (by omega) (by omega)
    rw [pd_G_ne c _ b (by omega), ih b, ih c, if_neg (by omega : ¬ c = i)]
    grind
theorem pd_aug_behind (A : Nat → Nat → Rat) (R i : Nat) (hiR : i < R) : ∀ c, i < c → c ≤ R → (∀ k, k < c → pd_G k A k k ≠ 0) → ∀ b, b ≠ i → pd_G c (pd_aug A R i) R b = pd_G c A i b
  | 0, h, _, _, _, _ => absurd h (by omega)
  | c + 1, h, hc, hp, b, hb => by
    by_cases e : i = c
    · subst e
      rw [pd_G_ne i _ b (by omega), pd_aug_before A R i i (by omega) (by omega), pd_aug_before A R i i (by omega) (by omega), if_neg hb, if_pos rfl, pd_aug_other A R i i (by omega) i b (by omega), pd_aug_other A R i i (by omega) i i (by omega), pd_G_at]
      grind
    · have ih := pd_aug_behind A R i hiR c (by omega) (by omega) (fun k hk => hp k (by omega))
      rw [pd_G_ne c _ b (by omega), pd_G_ne c A b e, ih b hb, ih c (fun q => e q.symm), pd_aug_other A R i c (by omega) c b (by omega), pd_aug_other A R i c (by omega) c c (by omega)]
theorem pd_aug_d (A : Nat → Nat → Rat) (R i : Nat) : ∀ c, c ≤ R → pd_d c (pd_aug A R i) = pd_d c A
  | 0, _ => rfl
  | c + 1, hc => by rw [pd_d, pd_d, pd_aug_d A R i c (by omega), pd_aug_other A R i c (by omega) c c (by omega)]
/-- WHOLE: of a matrix of whole numbers, d times what stands is whole, everywhere -/
theorem pd_whole (A : Nat → Nat → Rat) (hA : ∀ a b, pd_Z (A a b)) : ∀ c, (∀ k, k < c → pd_G k A k k ≠ 0) → pd_Z (pd_d c A) ∧ ∀ i j, pd_Z (pd_d c A * pd_G c A i j) := by
  intro c hp
  have hrow : ∀ (B : Nat → Nat → Rat), (∀ a b, pd_Z (B a b)) → ∀ c, (∀ k, k < c → pd_G k B k k ≠ 0) → ∀ r j, c ≤ r → c ≤ j → pd_Z (pd_d c B * pd_G c B r j) := by
    intro B hB c hp r j hr hj
    rw [pd_border c B r j hr hj hp]
    exact pd_Z_det _ _ (fun a b _ _ => hB _ _)
  have hd : pd_Z (pd_d c A) := by
    cases c with
    | zero => exact ⟨1, rfl⟩
    | succ c =>
      rw [pd_d]
      exact hrow A hA c (fun k hk => hp k (by omega)) c c (by omega) (by omega)
  refine ⟨hd, fun i j => ?_⟩
  rcases Nat.lt_or_ge j c with hj | hj
  · rw [pd_unit A c hp i j hj]
    split
    · rw [Rat.mul_one]; exact hd
    · rw [Rat.mul_zero]; exact ⟨0, rfl⟩
  · rcases Nat.lt_or_ge i c with hi | hi
    · have hB : ∀ a b, pd_Z (pd_aug A c i a b) := fun a b => by
        unfold pd_aug
        split
        · split
          · exact ⟨-1, rfl⟩
          · exact ⟨0, rfl⟩
        · exact hA a b
      have hpB : ∀ k, k < c → pd_G k (pd_aug A c i) k k ≠ 0 := fun k hk => by
        rw [pd_aug_other A c i k (by omega) k k (by omega)]; exact hp k hk
      have := hrow (pd_aug A c i) hB c hpB c j (by omega) hj
      rw [pd_aug_d A c i c (by omega), pd_aug_behind A c i hi c hi (by omega) hp j (by omega)] at this
      exact this
    · exact hrow A hA c hp i j hi hj
/-! Matrices of plays: nothing above 0 beside the diagonal, some vector above 0 that is sent above 0. Elimination keeps that; pivots are above 0; what stands is bounded; the numbers behind solve the rows. -/
theorem pz_m_pos {u : Nat → Rat} {n c : Nat} (hc : c < n) (h : ∀ k, k < n → k ≠ c → u k ≤ 0) (hs : 0 < pz_m n u) : 0 < u c := by
  by_cases q : 0 < u c
  · exact q
  · exfalso
    have : pz_m n u ≤ pz_m n (fun _ => 0) := pz_m_le n (fun k hk => by
      by_cases e : k = c
      · subst e; grind
      · exact h k hk e)
    rw [pz_m_zero (fun _ _ => rfl)] at this
    grind
/-- a sum whose other terms are not above 0 is at most its own term -/
theorem pz_m_own {u : Nat → Rat} : ∀ (n c : Nat), c < n → (∀ k, k < n → k ≠ c → u k ≤ 0) → pz_m n u ≤ u c
  | 0, _, h, _ => absurd h (by omega)
  | n + 1, c, hc, h => by
    simp only [pz_m]
    by_cases e : c = n
    · subst e
      have : pz_m c u ≤ pz_m c (fun _ => 0) := pz_m_le c (fun k hk => h k (by omega) (by omega))
      rw [pz_m_zero (fun _ _ => rfl)] at this
      grind
    · have h1 := pz_m_own n c (by omega) (fun k hk => h k (by omega))
      have h2 := h n (by omega) (fun q => e q.symm)
      grind
/-- .. and at most its own and another term -/
theorem pz_m_own2 {u : Nat → Rat} : ∀ (n c j : Nat), c < n → j < n → j ≠ c → (∀ k, k < n → k ≠ c → u k ≤ 0) → pz_m n u ≤ u c + u j
  | 0, _, _, h, _, _, _ => absurd h (by omega)
  | n + 1, c, j, hc, hj, hne, h => by
    simp only [pz_m]
    by_cases e : c = n
    · subst e
      have h1 := pz_m_le c (u := u) (v := fun k => if k = j then u j else 0) (fun k hk => by
        by_cases q : k = j
        · subst q; rw [if_pos rfl]; exact Rat.le_refl
        · rw [if_neg q]; exact h k (by omega) (by omega))
      have h2 : pz_m c (fun k => if k = j then u j else 0) ≤ u j := by
        have := pz_m_own c j (u := fun k => if k = j then u j else 0) (by omega) (fun k hk q => by rw [if_neg q]; exact Rat.le_refl)
        rw [if_pos rfl] at this
        exact this
      grind
    · by_cases e2 : j = n
      · subst e2
        have := pz_m_own j c (by omega) (fun k hk => h k (by omega))
        grind
      · have h1 := pz_m_own2 n c j (by omega) (by omega) hne (fun k hk => h k (by omega))
        have h2 := h n (by omega) (fun q => e q.symm)
        grind
section PM
variable (n : Nat)
/-- nothing above 0 beside the diagonal -/
def pm_O (A : Nat → Nat → Rat) : Prop := ∀ i j, i < n → j < n → i ≠ j → A i j ≤ 0
/-- the row i times y -/
def pm_s (A : Nat → Nat → Rat) (y : Nat → Rat) (i : Nat) : Rat := pz_m n (fun j => A i j * y j)
variable {n}
theorem pm_s_at (A : Nat → Nat → Rat) (y : Nat → Rat) (c : Nat) : pm_s n (pd_G (c + 1) A) y c = pm_s n (pd_G c A) y c / pd_G c A c c := by
  unfold pm_s
  rw [pz_m_congr n (v := fun j => (pd_G c A c c)⁻¹ * (pd_G c A c j * y j) + 0) (fun j _ => by rw [pd_G_at]; grind), pz_m_lin, pz_m_zero (fun _ _ => rfl)]
  grind
theorem pm_s_ne (A : Nat → Nat → Rat) (y : Nat → Rat) {c i : Nat} (h : i ≠ c) : pm_s n (pd_G (c + 1) A) y i = pm_s n (pd_G c A) y i - pd_G c A i c / pd_G c A c c * pm_s n (pd_G c A) y c := by
  unfold pm_s
  rw [pz_m_congr n (v := fun j => (-(pd_G c A i c / pd_G c A c c)) * (pd_G c A c j * y j) + pd_G c A i j * y j) (fun j _ => by rw [pd_G_ne c A j h]; grind), pz_m_lin]
  grind
theorem pm_mul_nonpos {a b : Rat} (ha : a ≤ 0) (hb : b ≤ 0) : 0 ≤ a * b := by
  have := Rat.mul_nonneg (a := -a) (b := -b) (by grind) (by grind)
  grind
theorem pm_div_nonpos {a b : Rat} (ha : a ≤ 0) (hb : 0 < b) : a / b ≤ 0 := by
  have := Rat.mul_nonneg (a := -a) (b := b⁻¹) (by grind) (Rat.le_of_lt (Rat.inv_pos.mpr hb))
  rw [Rat.div_def]
  grind
theorem pm_div_pos {a b : Rat} (ha : 0 < a) (hb : 0 < b) : 0 < a / b := by
  rw [Rat.div_def]
  exact Rat.mul_pos ha (Rat.inv_pos.mpr hb)
theorem pm_div_nonneg {a b : Rat} (ha : 0 ≤ a) (hb : 0 < b) : 0 ≤ a / b := by
  rw [Rat.div_def]
  exact Rat.mul_nonneg ha (Rat.le_of_lt (Rat.inv_pos.mpr hb))
/-- THE STEPS: what elimination keeps, up to any pivot -/
theorem pm_keep {A : Nat → Nat → Rat} {x : Nat → Rat} (hO : pm_O n A) (hx : ∀ j, j < n → 0 < x j) (hX : ∀ i, i < n → 0 < pm_s n A x i) : ∀ c, c ≤ n → pm_O n (pd_G c A) ∧ (∀ i, i < n → 0 < pm_s n (pd_G c A) x i) ∧ ∀ k, k < c → 0 < pd_G k A k k
  | 0, _ => ⟨hO, hX, fun k hk => absurd hk (by omega)⟩
  | c + 1, hc => by
    obtain ⟨iO, iX, iP⟩ := pm_keep hO hx hX c (by omega)
    have hp : 0 < pd_G c A c c := by
      have h1 := iX c (by omega)
      unfold pm_s at h1
      have h2 := pz_m_pos (c := c) (by omega) (fun k hk q => by
        have := Rat.mul_nonneg (a := -pd_G c A c k) (b := x k) (by have := iO c k (by omega) hk (fun e => q e.symm); grind) (Rat.le_of_lt (hx k hk))
        grind) h1
      have h3 := hx c (by omega)
      by_cases q : 0 < pd_G c A c c
      · exact q
      · have := Rat.mul_nonneg (a := -pd_G c A c c) (b := x c) (by grind) (Rat.le_of_lt h3)
        grind
    refine ⟨fun i j hi hj hne => ?_, fun i hi => ?_, fun k hk => ?_⟩
    · by_cases e : i = c
      · subst e
        rw [pd_G_at]
        exact pm_div_nonpos (iO i j hi hj hne) hp
      · rw [pd_G_ne c A j e]
        by_cases e2 : j = c
        · subst e2
          have := Rat.mul_div_cancel (a := pd_G j A i j) (Rat.ne_of_gt hp)
          grind
        · have h1 := iO i j hi hj hne
          have h2 := pm_div_nonneg (pm_mul_nonpos (iO i c hi (by omega) e) (iO c j (by omega) hj (fun q => e2 q.symm))) hp
          grind
    · by_cases e : i = c
      · subst e
        rw [pm_s_at]
        exact pm_div_pos (iX i hi) hp
      · rw [pm_s_ne A x e]
        have h1 := pm_div_nonpos (iO i c hi (by omega) e) hp
        have h2 := iX c (by omega)
        have h3 := iX i hi
        have := Rat.mul_nonneg (a := -(pd_G c A i c / pd_G c A c c)) (b := pm_s n (pd_G c A) x c) (by grind) (Rat.le_of_lt h2)
        grind
    · rcases Nat.lt_or_ge k c with q | q
      · exact iP k q
      · rw [show k = c by omega]; exact hp
/-- a vector that is sent to nothing below 0 stays so; a last column that it bounds stays bounded -/
theorem pm_bound {A : Nat → Nat → Rat} {x y : Nat → Rat} {K : Rat} (hO : pm_O n A) (hx : ∀ j, j < n → 0 < x j) (hX : ∀ i, i < n → 0 < pm_s n A x i) (hY : ∀ i, i < n → 0 ≤ pm_s n A y i) (hK : ∀ i, i < n → A i n ≤ K * pm_s n A y i ∧ -(K * pm_s n A y i) ≤ A i n) : ∀ c, c ≤ n → (∀ i, i < n → 0 ≤ pm_s n (pd_G c A) y i) ∧ ∀ i, i < n → pd_G c A i n ≤ K * pm_s n (pd_G c A) y i ∧ -(K * pm_s n (pd_G c A) y i) ≤ pd_G c A i n
  | 0, _ => ⟨hY, hK⟩
  | c + 1, hc => by
    obtain ⟨iY, iK⟩ := pm_bound hO hx hX hY hK c (by omega)
    obtain ⟨iO, -, -⟩ := pm_keep hO hx hX c (by omega)
    have hp : 0 < pd_G c A c c := (pm_keep hO hx hX (c + 1) hc).2.2 c (by omega)
    have hi0 := Rat.inv_pos.mpr hp
    have hcY := iY c (by omega)
    obtain ⟨k1, k2⟩ := iK c (by omega)
    refine ⟨fun i hi => ?_, fun i hi => ?_⟩
    · by_cases e : i = c
      · subst e
        rw [pm_s_at]
        exact pm_div_nonneg (iY i hi) hp
      · rw [pm_s_ne A y e]
        have h1 := pm_div_nonpos (iO i c hi (by omega) e) hp
        have h3 := iY i hi
        have := Rat.mul_nonneg (a := -(pd_G c A i c / pd_G c A c c)) (b := pm_s n (pd_G c A) y c) (by grind) hcY
        grind
    · by_cases e : i = c
      · subst e
        rw [pm_s_at, pd_G_at, Rat.div_def, Rat.div_def]
        have a1 := Rat.mul_le_mul_of_nonneg_right k1 (Rat.le_of_lt hi0)
        have a2 := Rat.mul_le_mul_of_nonneg_right k2 (Rat.le_of_lt hi0)
        constructor <;> grind
      · rw [pm_s_ne A y e, pd_G_ne c A n e]
        have h1 := pm_div_nonpos (iO i c hi (by omega) e) hp
        obtain ⟨j1, j2⟩ := iK i hi
        have a1 := Rat.mul_le_mul_of_nonneg_left (c := -(pd_G c A i c / pd_G c A c c)) k1 (by grind)
        have a2 := Rat.mul_le_mul_of_nonneg_left (c := -(pd_G c A i c / pd_G c A c c)) k2 (by grind)
        have e3 : pd_G c A i c * pd_G c A c n / pd_G c A c c = pd_G c A i c / pd_G c A c c * pd_G c A c n := by rw [Rat.div_def, Rat.div_def]; grind
        rw [e3]
        constructor <;> grind
/-- diagonals only fall -/
theorem pm_diag {A : Nat → Nat → Rat} {x : Nat → Rat} (hO : pm_O n A) (hx : ∀ j, j < n → 0 < x j) (hX : ∀ i, i < n → 0 < pm_s n A x i) : ∀ c, c ≤ n → ∀ i, i < n → c ≤ i → pd_G c A i i ≤ A i i
  | 0, _, i, _, _ => Rat.le_refl
  | c + 1, hc, i, hi, hci => by
    have ih := pm_diag hO hx hX c (by omega) i hi (by omega)
    obtain ⟨iO, -, -⟩ := pm_keep hO hx hX c (by omega)
    have hp : 0 < pd_G c A c c := (pm_keep hO hx hX (c + 1) hc).2.2 c (by omega)
    rw [pd_G_ne c A i (by omega)]
    have := pm_div_nonneg (pm_mul_nonpos (iO i c hi (by omega) (by omega)) (iO c i (by omega) hi (by omega))) hp
    grind
/-- the numbers behind all pivots solve the rows -/
theorem pm_solve {A : Nat → Nat → Rat} (hp : ∀ k, k < n → pd_G k A k k ≠ 0) : ∀ i, i < n → pm_s n A (fun j => pd_G n A j n) i = A i n := by
  have key : ∀ m c, c + m = n → ∀ i, i < n → pm_s n (pd_G c A) (fun j => pd_G n A j n) i = pd_G c A i n := by
    intro m
    induction m with
    | zero =>
      intro c hc i hi
      have e : c = n := by omega
      subst e
      unfold pm_s
      have h1 : ∀ j, j < c → pd_G c A i j * pd_G c A j c = if j = i then pd_G c A i c else 0 := fun j hj => by
        rw [pd_unit A c hp i j hj]
        by_cases q : i = j
        · subst q; rw [if_pos rfl, if_pos rfl]; grind
        · rw [if_neg q, if_neg (fun e => q e.symm)]; grind
      rw [pz_m_congr c h1]
      have h2 : ∀ N : Nat, i < N → pz_m N (fun j => if j = i then pd_G c A i c else 0) = pd_G c A i c := by
        intro N
        induction N with
        | zero => intro h; exact absurd h (by omega)
        | succ N ih =>
          intro h
          simp only [pz_m]
          by_cases q : N = i
          · subst q
            rw [if_pos rfl, pz_m_zero (fun k hk => if_neg (by omega))]
            grind
          · rw [ih (by omega), if_neg q]; grind
      exact h2 c hi
    | succ m ih =>
      intro c hc i hi
      have hcp := hp c (by omega)
      have hc1 := ih (c + 1) (by omega) c (by omega)
      rw [pm_s_at, pd_G_at] at hc1
      have hrow : pm_s n (pd_G c A) (fun j => pd_G n A j n) c = pd_G c A c n := by
        have := congrArg (fun z => z * pd_G c A c c) hc1
        simp only [Rat.div_mul_cancel hcp] at this
        exact this
      by_cases e : i = c
      · subst e; exact hrow
      · have hi1 := ih (c + 1) (by omega) i hi
        rw [pm_s_ne A _ e, pd_G_ne c A n e, hrow] at hi1
        have e3 : pd_G c A i c * pd_G c A c n / pd_G c A c c = pd_G c A i c / pd_G c A c c * pd_G c A c n := by rw [Rat.div_def, Rat.div_def]; grind
        rw [e3] at hi1
        grind
  exact fun i hi => key n 0 (by omega) i hi
end PM
/-! Elimination in whole numbers: what stands in the rows at each step, as whole numbers, and how large it is. Pure. -/
section EL
/-- the rows, as fractions -/
def eA (A : Nat → Nat → Int) : Nat → Nat → Rat := fun i j => (A i j : Rat)
/-- what stands in the rows before step c -/
def eX (A : Nat → Nat → Int) (c i j : Nat) : Int := (pd_d c (eA A) * pd_G c (eA A) i j).num
/-- what the step c divides by -/
def eb (A : Nat → Nat → Int) (c : Nat) : Int := (pd_d c (eA A)).num
/-- the diagonal's product -/
def eP (A : Nat → Nat → Int) : Nat → Int
  | 0 => 1
  | k + 1 => eP A k * A k k
/-- rows that elimination goes through -/
def EH (n : Nat) (A : Nat → Nat → Int) : Prop := (∀ i j, i < n → j < n → i ≠ j → A i j ≤ 0) ∧ (∃ x : Nat → Rat, (∀ j, j < n → 0 < x j) ∧ ∀ i, i < n → 0 < pm_s n (eA A) x i) ∧ (∀ i, i < n → 0 ≤ pm_s n (eA A) (fun _ => 1) i) ∧ eP A n ≤ 400000000
variable {n : Nat} {A : Nat → Nat → Int}
theorem EH.o (h : EH n A) : ∀ i j, i < n → j < n → i ≠ j → A i j ≤ 0 := h.1
theorem EH.x (h : EH n A) : ∃ x : Nat → Rat, (∀ j, j < n → 0 < x j) ∧ ∀ i, i < n → 0 < pm_s n (eA A) x i := h.2.1
theorem EH.r (h : EH n A) : ∀ i, i < n → 0 ≤ pm_s n (eA A) (fun _ => 1) i := h.2.2.1
theorem EH.d (h : EH n A) : eP A n ≤ 400000000 := h.2.2.2
theorem pd_Z_num {x : Rat} (h : pd_Z x) : (x.num : Rat) = x := by
  obtain ⟨z, rfl⟩ := h
  rfl
theorem EH.pO (h : EH n A) : pm_O n (eA A) := fun i j hi hj e => by
  have := h.o i j hi hj e
  show (A i j : Rat) ≤ 0
  exact_mod_cast this
theorem EH.piv (h : EH n A) : ∀ k, k < n → 0 < pd_G k (eA A) k k := by
  obtain ⟨x, h1, h2⟩ := h.x
  intro k hk
  exact (pm_keep h.pO h1 h2 n (Nat.le_refl n)).2.2 k hk
theorem EH.whole (h : EH n A) {c : Nat} (hc : c ≤ n) : pd_Z (pd_d c (eA A)) ∧ ∀ i j, pd_Z (pd_d c (eA A) * pd_G c (eA A) i j) := pd_whole (eA A) (fun a b => ⟨A a b, rfl⟩) c (fun k hk => Rat.ne_of_gt (h.piv k (by omega)))
theorem EH.castX (h : EH n A) {c : Nat} (hc : c ≤ n) (i j : Nat) : ((eX A c i j : Int) : Rat) = pd_d c (eA A) * pd_G c (eA A) i j := pd_Z_num ((h.whole hc).2 i j)
theorem EH.castb (h : EH n A) {c : Nat} (hc : c ≤ n) : ((eb A c : Int) : Rat) = pd_d c (eA A) := pd_Z_num (h.whole hc).1
theorem pd_d_pos {B : Nat → Nat → Rat} : ∀ c, (∀ k, k < c → 0 < pd_G k B k k) → 0 < pd_d c B
  | 0, _ => by show (0 : Rat) < 1; decide
  | c + 1, h => by
    show 0 < pd_d c B * pd_G c B c c
    exact Rat.mul_pos (pd_d_pos c (fun k hk => h k (by omega))) (h c (by omega))
theorem EH.dpos (h : EH n A) {c : Nat} (hc : c ≤ n) : 0 < pd_d c (eA A) := pd_d_pos c (fun k hk => h.piv k (by omega))
theorem EH.bpos (h : EH n A) {c : Nat} (hc : c ≤ n) : 0 < eb A c := by
  have := h.dpos hc
  rw [← h.castb hc] at this
  exact_mod_cast this
theorem e_b0 (A : Nat → Nat → Int) : eb A 0 = 1 := rfl
theorem e_X0 (A : Nat → Nat → Int) (i j : Nat) : eX A 0 i j = A i j := by
  show ((1 : Rat) * (A i j : Rat)).num = A i j
  rw [Rat.one_mul]
  rfl
theorem e_bS (A : Nat → Nat → Int) (c : Nat) : eb A (c + 1) = eX A c c c := rfl
theorem EH.ppos (h : EH n A) {c : Nat} (hc : c < n) : 0 < eX A c c c := by rw [← e_bS]; exact h.bpos (by omega)
theorem EH.row (h : EH n A) {c : Nat} (hc : c < n) (j : Nat) : eX A (c + 1) c j = eX A c c j := by
  have hp := Rat.ne_of_gt (h.piv c hc)
  have e : ((eX A (c + 1) c j : Int) : Rat) = ((eX A c c j : Int) : Rat) := by
    rw [h.castX (by omega), h.castX (by omega), pd_G_at]
    show pd_d c (eA A) * pd_G c (eA A) c c * (pd_G c (eA A) c j / pd_G c (eA A) c c) = _
    rw [Rat.div_def]
    have := Rat.mul_inv_cancel _ hp
    grind
  exact_mod_cast e
theorem EH.step (h : EH n A) {c : Nat} (hc : c < n) {i : Nat} (hi : i ≠ c) (j : Nat) : eX A (c + 1) i j * eb A c = eX A c i j * eX A c c c - eX A c i c * eX A c c j := by
  have hp := Rat.ne_of_gt (h.piv c hc)
  have e : ((eX A (c + 1) i j * eb A c : Int) : Rat) = ((eX A c i j * eX A c c c - eX A c i c * eX A c c j : Int) : Rat) := by
    rw [Rat.intCast_sub, Rat.intCast_mul, Rat.intCast_mul, Rat.intCast_mul, h.castX (by omega), h.castX (by omega), h.castX (by omega), h.castX (by omega), h.castX (by omega), h.castb (by omega), pd_G_ne c _ j hi]
    show pd_d c (eA A) * pd_G c (eA A) c c * (pd_G c (eA A) i j - pd_G c (eA A) i c * pd_G c (eA A) c j / pd_G c (eA A) c c) * pd_d c (eA A) = _
    rw [Rat.div_def]
    have := Rat.mul_inv_cancel _ hp
    grind
  exact_mod_cast e
theorem EH.unit (h : EH n A) {c : Nat} (hc : c ≤ n) (i j : Nat) (hj : j < c) : eX A c i j = if i = j then eb A c else 0 := by
  have e : ((eX A c i j : Int) : Rat) = ((if i = j then eb A c else 0 : Int) : Rat) := by
    rw [h.castX hc, pd_unit (eA A) c (fun k hk => Rat.ne_of_gt (h.piv k (by omega))) i j hj]
    by_cases q : i = j
    · rw [if_pos q, if_pos q, h.castb hc, Rat.mul_one]
    · rw [if_neg q, if_neg q, Rat.mul_zero]; rfl
  exact_mod_cast e
theorem EH.adiag (h : EH n A) {i : Nat} (hi : i < n) : 1 ≤ A i i := by
  obtain ⟨x, h1, h2⟩ := h.x
  have h3 := h2 i hi
  unfold pm_s at h3
  have h4 := pz_m_pos (c := i) hi (fun k hk q => by
    have := Rat.mul_nonneg (a := -eA A i k) (b := x k) (by have := h.pO i k hi hk (fun e => q e.symm); grind) (Rat.le_of_lt (h1 k hk))
    grind) h3
  have h5 : 0 < eA A i i := by
    by_cases q : 0 < eA A i i
    · exact q
    · have := Rat.mul_nonneg (a := -eA A i i) (b := x i) (by grind) (Rat.le_of_lt (h1 i hi))
      grind
  have h6 : (0 : Rat) < ((A i i : Int) : Rat) := h5
  have h7 : 0 < A i i := by exact_mod_cast h6
  omega
theorem eP_pos (h : ∀ i, i < n → 1 ≤ A i i) : ∀ c, c ≤ n → 1 ≤ eP A c
  | 0, _ => by show (1 : Int) ≤ 1; omega
  | c + 1, hc => by
    have h1 := eP_pos h c (by omega)
    have h2 := h c (by omega)
    show 1 ≤ eP A c * A c c
    have := Int.mul_le_mul h1 h2 (by omega) (by omega)
    omega
theorem eP_le (h : ∀ i, i < n → 1 ≤ A i i) {c : Nat} : ∀ m, c ≤ m → m ≤ n → eP A c ≤ eP A m
  | 0, h1, _ => by rw [show c = 0 by omega]; exact Int.le_refl _
  | m + 1, h1, h2 => by
    by_cases e : c = m + 1
    · rw [e]; exact Int.le_refl _
    · have a1 := eP_le h (c := c) m (by omega) (by omega)
      have a2 := h m (by omega)
      have a3 := eP_pos h m (by omega)
      show _ ≤ eP A m * A m m
      have : eP A m * 1 ≤ eP A m * A m m := Int.mul_le_mul_of_nonneg_left a2 (by omega)
      omega
theorem eP_with (h : ∀ i, i < n → 1 ≤ A i i) {c i : Nat} (hci : c ≤ i) : ∀ m, i < m → m ≤ n → eP A c * A i i ≤ eP A m
  | 0, h1, _ => absurd h1 (by omega)
  | m + 1, h1, h2 => by
    show _ ≤ eP A m * A m m
    by_cases e : i = m
    · subst e
      exact Int.mul_le_mul_of_nonneg_right (eP_le h i hci (by omega)) (by have := h i (by omega); omega)
    · have a1 := eP_with h hci m (by omega) (by omega)
      have a2 := h m (by omega)
      have a3 := eP_pos h m (by omega)
      have : eP A m * 1 ≤ eP A m * A m m := Int.mul_le_mul_of_nonneg_left a2 (by omega)
      omega
theorem EH.dle (h : EH n A) : ∀ c, c ≤ n → pd_d c (eA A) ≤ ((eP A c : Int) : Rat)
  | 0, _ => Rat.le_refl
  | c + 1, hc => by
    obtain ⟨x, h1, h2⟩ := h.x
    have ih := h.dle c (by omega)
    have a1 := pm_diag h.pO h1 h2 c (by omega) c (by omega) (Nat.le_refl c)
    have a2 := h.piv c (by omega)
    have a3 := h.dpos (c := c) (by omega)
    show pd_d c (eA A) * pd_G c (eA A) c c ≤ ((eP A c * A c c : Int) : Rat)
    rw [Rat.intCast_mul]
    have b1 := Rat.mul_le_mul_of_nonneg_right (c := pd_G c (eA A) c c) ih (Rat.le_of_lt a2)
    have b2 : (0 : Rat) ≤ ((eP A c : Int) : Rat) := by grind
    have b3 := Rat.mul_le_mul_of_nonneg_left (c := ((eP A c : Int) : Rat)) a1 b2
    have b4 : eA A c c = ((A c c : Int) : Rat) := rfl
    grind
/-- a row's own place bounds the row -/
theorem EH.own (h : EH n A) {c : Nat} (hc : c ≤ n) {i : Nat} (hi : i < n) : pd_d c (eA A) * pd_G c (eA A) i i ≤ ((eP A n : Int) : Rat) ∧ 0 ≤ pd_G c (eA A) i i := by
  obtain ⟨x, h1, h2⟩ := h.x
  have hd := h.dpos hc
  have hl := h.dle c hc
  have had : ∀ i, i < n → 1 ≤ A i i := fun i hi => h.adiag hi
  by_cases q : c ≤ i
  · have a1 := pm_diag h.pO h1 h2 c hc i hi q
    have a2 : 0 ≤ pd_G c (eA A) i i := by
      have b1 := (pm_keep h.pO h1 h2 c hc).2.1 i hi
      unfold pm_s at b1
      have b2 := pz_m_pos (c := i) hi (fun k hk q => by
        have := Rat.mul_nonneg (a := -pd_G c (eA A) i k) (b := x k) (by have := (pm_keep h.pO h1 h2 c hc).1 i k hi hk (fun e => q e.symm); grind) (Rat.le_of_lt (h1 k hk))
        grind) b1
      by_cases z : 0 ≤ pd_G c (eA A) i i
      · exact z
      · have := Rat.mul_nonneg (a := -pd_G c (eA A) i i) (b := x i) (by grind) (Rat.le_of_lt (h1 i hi))
        grind
    have a3 := eP_with had q n hi (Nat.le_refl n)
    have a4 : ((eP A c : Int) : Rat) * ((A i i : Int) : Rat) ≤ ((eP A n : Int) : Rat) := by rw [← Rat.intCast_mul]; exact_mod_cast a3
    have b1 := Rat.mul_le_mul_of_nonneg_right (c := pd_G c (eA A) i i) hl a2
    have b2 : (0 : Rat) ≤ ((eP A c : Int) : Rat) := by grind
    have b3 := Rat.mul_le_mul_of_nonneg_left (c := ((eP A c : Int) : Rat)) a1 b2
    have b4 : eA A i i = ((A i i : Int) : Rat) := rfl
    exact ⟨by grind, a2⟩
  · have a1 := pd_unit (eA A) c (fun k hk => Rat.ne_of_gt (h.piv k (by omega))) i i (by omega)
    rw [if_pos rfl] at a1
    rw [a1, Rat.mul_one]
    have a3 := eP_le had n hc (Nat.le_refl n)
    have a4 : ((eP A c : Int) : Rat) ≤ ((eP A n : Int) : Rat) := by exact_mod_cast a3
    exact ⟨by grind, by decide⟩
theorem EH.rows (h : EH n A) : ∀ c, c ≤ n → ∀ i, i < n → 0 ≤ pm_s n (pd_G c (eA A)) (fun _ => 1) i
  | 0, _, i, hi => h.r i hi
  | c + 1, hc, i, hi => by
    obtain ⟨x, h1, h2⟩ := h.x
    have iY := h.rows c (by omega)
    have iO := (pm_keep h.pO h1 h2 c (by omega)).1
    have hp := h.piv c (by omega)
    by_cases e : i = c
    · subst e
      rw [pm_s_at]
      exact pm_div_nonneg (iY i hi) hp
    · rw [pm_s_ne (eA A) _ e]
      have h1 := pm_div_nonpos (iO i c hi (by omega) e) hp
      have h3 := iY i hi
      have := Rat.mul_nonneg (a := -(pd_G c (eA A) i c / pd_G c (eA A) c c)) (b := pm_s n (pd_G c (eA A)) (fun _ => 1) c) (by grind) (iY c (by omega))
      grind
theorem EH.blt (h : EH n A) {c : Nat} (hc : c ≤ n) : eb A c ≤ 400000000 := by
  have hl := h.dle c hc
  rw [← h.castb hc] at hl
  have a1 : eb A c ≤ eP A c := by exact_mod_cast hl
  have a3 := eP_le (fun i hi => h.adiag hi) n hc (Nat.le_refl n)
  have := h.d
  omega
theorem EH.bnd (h : EH n A) {c : Nat} (hc : c ≤ n) {i j : Nat} (hi : i < n) (hj : j < n) : -400000000 ≤ eX A c i j ∧ eX A c i j ≤ 400000000 := by
  obtain ⟨x, h1, h2⟩ := h.x
  have hd := h.dpos hc
  obtain ⟨w1, w2⟩ := h.own hc hi
  have e : -((eP A n : Int) : Rat) ≤ ((eX A c i j : Int) : Rat) ∧ ((eX A c i j : Int) : Rat) ≤ ((eP A n : Int) : Rat) := by
    rw [h.castX hc]
    by_cases q : j = i
    · subst q
      have := Rat.mul_nonneg (Rat.le_of_lt hd) w2
      exact ⟨by grind, w1⟩
    · have iO := (pm_keep h.pO h1 h2 c hc).1
      have z1 := iO i j hi hj (fun e => q e.symm)
      have kk := h.rows c hc i hi
      unfold pm_s at kk
      have k2 := pz_m_own2 n i j hi hj q (u := fun j => pd_G c (eA A) i j * 1) (fun k hk z => by
        have := iO i k hi hk (fun e => z e.symm)
        grind)
      have z2 : -pd_G c (eA A) i i ≤ pd_G c (eA A) i j := by grind
      have b1 := Rat.mul_le_mul_of_nonneg_left (c := pd_d c (eA A)) z2 (Rat.le_of_lt hd)
      have b2 := Rat.mul_le_mul_of_nonneg_left (c := pd_d c (eA A)) z1 (Rat.le_of_lt hd)
      exact ⟨by grind, by grind⟩
  have e1 : -eP A n ≤ eX A c i j := by exact_mod_cast e.1
  have e2 : eX A c i j ≤ eP A n := by exact_mod_cast e.2
  have := h.d
  omega
/-- the last column, where the rows' sums bound it -/
theorem EH.last (h : EH n A) (hK : ∀ i, i < n → eA A i n ≤ 9 * pm_s n (eA A) (fun _ => 1) i ∧ -(9 * pm_s n (eA A) (fun _ => 1) i) ≤ eA A i n) {c : Nat} (hc : c ≤ n) {i : Nat} (hi : i < n) : -3600000000 ≤ eX A c i n ∧ eX A c i n ≤ 3600000000 := by
  obtain ⟨x, h1, h2⟩ := h.x
  have hd := h.dpos hc
  obtain ⟨w1, w2⟩ := h.own hc hi
  have e : -(9 * ((eP A n : Int) : Rat)) ≤ ((eX A c i n : Int) : Rat) ∧ ((eX A c i n : Int) : Rat) ≤ 9 * ((eP A n : Int) : Rat) := by
    rw [h.castX hc]
    obtain ⟨k1, k2⟩ := (pm_bound h.pO h1 h2 h.r hK c hc).2 i hi
    have iO := (pm_keep h.pO h1 h2 c hc).1
    have k3 : pm_s n (pd_G c (eA A)) (fun _ => 1) i ≤ pd_G c (eA A) i i := by
      unfold pm_s
      have := pz_m_own n i hi (u := fun j => pd_G c (eA A) i j * 1) (fun k hk z => by
        have := iO i k hi hk (fun e => z e.symm)
        grind)
      grind
    have b1 := Rat.mul_le_mul_of_nonneg_left (c := pd_d c (eA A)) k1 (Rat.le_of_lt hd)
    have b2 := Rat.mul_le_mul_of_nonneg_left (c := pd_d c (eA A)) k2 (Rat.le_of_lt hd)
    have b3 := Rat.mul_le_mul_of_nonneg_left (c := pd_d c (eA A)) k3 (Rat.le_of_lt hd)
    exact ⟨by grind, by grind⟩
  have e1 : -(9 * eP A n) ≤ eX A c i n := by exact_mod_cast e.1
  have e2 : eX A c i n ≤ 9 * eP A n := by exact_mod_cast e.2
  have := h.d
  omega
/-- the last column solves the rows -/
theorem EH.solved (h : EH n A) : ∀ i, i < n → pm_s n (eA A) (fun j => ((eX A n j n : Int) : Rat)) i = ((eb A n : Int) : Rat) * eA A i n := by
  intro i hi
  have h1 := pm_solve (n := n) (A := eA A) (fun k hk => Rat.ne_of_gt (h.piv k hk)) i hi
  rw [← h1, h.castb (Nat.le_refl n)]
  unfold pm_s
  rw [pz_m_congr n (v := fun j => pd_d n (eA A) * (eA A i j * pd_G n (eA A) j n) + 0) (fun j _ => by show eA A i j * ((eX A n j n : Int) : Rat) = _; rw [h.castX (Nat.le_refl n)]; grind), pz_m_lin, pz_m_zero (fun _ _ => rfl)]
  grind
end EL
/-! a tape of signs, read token by token: what both readers are held against -/
def ltr (c : Int) : Prop := 97 ≤ c ∧ c ≤ 122
def dgt (c : Int) : Prop := 48 ≤ c ∧ c ≤ 57
/-- the signs below a length, -1 behind them -/
def bg (f : Nat → Int32) (z : Int) : Nat → Int := fun j => if (j : Int) < z then (f j).toInt % 256 else -1
theorem bg_in {f : Nat → Int32} {z : Int} {j : Nat} (h : (j : Int) < z) : bg f z j = (f j).toInt % 256 := if_pos h
theorem bg_out {f : Nat → Int32} {z : Int} {j : Nat} (h : ¬ (j : Int) < z) : bg f z j = -1 := if_neg h
theorem bg_lt {f : Nat → Int32} {z : Int} {j : Nat} (h : bg f z j ≠ -1) : (j : Int) < z := by
  by_cases q : (j : Int) < z
  · exact q
  · exact absurd (bg_out q) h
theorem bg_rng (f : Nat → Int32) (z : Int) (j : Nat) : -1 ≤ bg f z j ∧ bg f z j ≤ 255 := by
  by_cases q : (j : Int) < z
  · rw [bg_in q]; omega
  · rw [bg_out q]; omega
theorem bg_eq {f g : Nat → Int32} {z : Int} (h : ∀ j : Nat, (j : Int) < z → (f j).toInt % 256 = (g j).toInt % 256) : bg f z = bg g z := by
  funext j
  by_cases q : (j : Int) < z
  · rw [bg_in q, bg_in q, h j q]
  · rw [bg_out q, bg_out q]
def SKp (g : Nat → Int) (i j : Nat) : Prop := i ≤ j ∧ (∀ k : Nat, i ≤ k → k < j → g k = 32) ∧ g j ≠ 32
theorem SKp.det {g : Nat → Int} {i j j' : Nat} (h : SKp g i j) (h' : SKp g i j') : j = j' := by
  rcases Nat.lt_trichotomy j j' with q | q | q
  · exact absurd (h'.2.1 j h.1 q) h.2.2
  · exact q
  · exact absurd (h.2.1 j' h'.1 q) h'.2.2
def RUn (g : Nat → Int) (j e : Nat) : Prop := j ≤ e ∧ (∀ k : Nat, j ≤ k → k < e → ltr (g k) ∨ dgt (g k)) ∧ ¬ (ltr (g e) ∨ dgt (g e))
theorem RUn.det {g : Nat → Int} {j e e' : Nat} (h : RUn g j e) (h' : RUn g j e') : e = e' := by
  rcases Nat.lt_trichotomy e e' with q | q | q
  · exact absurd (h'.2.1 e h.1 q) h.2.2
  · exact q
  · exact absurd (h.2.1 e' h'.1 q) h'.2.2
/-- letters as a number to the base 27, digits as a number to the base 10 -/
def pk (g : Nat → Int) (j : Nat) : Nat → Int
  | 0 => 0
  | m + 1 => pk g j m * 27 + (g (j + m) - 96)
def nmb (g : Nat → Int) (j : Nat) : Nat → Int
  | 0 => 0
  | m + 1 => nmb g j m * 10 + (g (j + m) - 48)
theorem pk_succ (g : Nat → Int) (j m : Nat) : pk g j (m + 1) = pk g j m * 27 + (g (j + m) - 96) := rfl
theorem nmb_succ (g : Nat → Int) (j m : Nat) : nmb g j (m + 1) = nmb g j m * 10 + (g (j + m) - 48) := rfl
def ALt (g : Nat → Int) (j e : Nat) : Prop := ∀ k : Nat, j ≤ k → k < e → ltr (g k)
def ADg (g : Nat → Int) (j e : Nat) : Prop := ∀ k : Nat, j ≤ k → k < e → dgt (g k)
theorem pk_nn {g : Nat → Int} {j : Nat} : ∀ {m : Nat}, (∀ k : Nat, k < m → ltr (g (j + k))) → 0 ≤ pk g j m
  | 0, _ => Int.le_refl 0
  | m + 1, h => by
    have a := pk_nn (g := g) (j := j) (m := m) (fun k hk => h k (Nat.lt_succ_of_lt hk))
    have b := h m (Nat.lt_succ_self m)
    unfold ltr at b
    rw [pk_succ]; omega
theorem pk_lt7 {g : Nat → Int} {j : Nat} : ∀ {m : Nat}, (∀ k : Nat, k < m → ltr (g (j + k))) → pk g j m < 27 ^ m
  | 0, _ => by simp [pk]
  | m + 1, h => by
    have a := pk_lt7 (g := g) (j := j) (m := m) (fun k hk => h k (Nat.lt_succ_of_lt hk))
    have b := h m (Nat.lt_succ_self m)
    unfold ltr at b
    have e : (27 : Int) ^ (m + 1) = 27 ^ m * 27 := Int.pow_succ _ _
    rw [pk_succ, e]; omega
/-- a word's number tells the word -/
theorem pk_inj {g g' : Nat → Int} {j j' : Nat} : ∀ {m m' : Nat}, (∀ k : Nat, k < m → ltr (g (j + k))) → (∀ k : Nat, k < m' → ltr (g' (j' + k))) → pk g j m = pk g' j' m' → m = m' ∧ ∀ k : Nat, k < m → g (j + k) = g' (j' + k)
  | 0, 0, _, _, _ => ⟨rfl, fun k h => absurd h (Nat.not_lt_zero k)⟩
  | 0, m' + 1, _, h', e => by
    have a := pk_nn (g := g') (j := j') (m := m') (fun k hk => h' k (Nat.lt_succ_of_lt hk))
    have b := h' m' (Nat.lt_succ_self m')
    unfold ltr at b
    rw [pk_succ] at e
    have e' : (0 : Int) = pk g' j' m' * 27 + (g' (j' + m') - 96) := e
    omega
  | m + 1, 0, h, _, e => by
    have a := pk_nn (g := g) (j := j) (m := m) (fun k hk => h k (Nat.lt_succ_of_lt hk))
    have b := h m (Nat.lt_succ_self m)
    unfold ltr at b
    rw [pk_succ] at e
    have e' : pk g j m * 27 + (g (j + m) - 96) = 0 := e
    omega
  | m + 1, m' + 1, h, h', e => by
    have b := h m (Nat.lt_succ_self m)
    have b' := h' m' (Nat.lt_succ_self m')
    unfold ltr at b b'
    rw [pk_succ, pk_succ] at e
    have c : pk g j m = pk g' j' m' := by omega
    have d : g (j + m) = g' (j' + m') := by omega
    obtain ⟨q, r⟩ := pk_inj (m := m) (m' := m') (fun k hk => h k (Nat.lt_succ_of_lt hk)) (fun k hk => h' k (Nat.lt_succ_of_lt hk)) c
    subst q
    refine ⟨rfl, fun k hk => ?_⟩
    rcases Nat.lt_or_ge k m with z | z
    · exact r k z
    · have : k = m := by omega
      subst this; exact d
theorem pk_congr {g g' : Nat → Int} {j j' : Nat} : ∀ {m : Nat}, (∀ k : Nat, k < m → g (j + k) = g' (j' + k)) → pk g j m = pk g' j' m
  | 0, _ => rfl
  | m + 1, h => by rw [pk_succ, pk_succ, pk_congr (m := m) (fun k hk => h k (Nat.lt_succ_of_lt hk)), h m (Nat.lt_succ_self m)]
/-- the token that is read from i on: its sort (0 none, 1 a word, 2 a number, 3 a semicolon, 4 wrong), its place, where reading goes on, what it tells -/
def TK (g : Nat → Int) (i : Nat) (t : Int) (j e : Nat) (v : Int) : Prop :=
  SKp g i j ∧ ((g j = -1 ∧ t = 0 ∧ e = j) ∨ (g j = 59 ∧ t = 3 ∧ e = j + 1) ∨ (g j ≠ -1 ∧ g j ≠ 59 ∧ ¬ ltr (g j) ∧ ¬ dgt (g j) ∧ t = 4) ∨
    ((ltr (g j) ∨ dgt (g j)) ∧ ∃ e0 : Nat, RUn g j e0 ∧ ((ALt g j e0 ∧ e0 - j ≤ 6 ∧ t = 1 ∧ e = e0 ∧ v = pk g j (e0 - j)) ∨ (ADg g j e0 ∧ e0 - j ≤ 2 ∧ t = 2 ∧ e = e0 ∧ v = nmb g j (e0 - j)) ∨ (¬ (ALt g j e0 ∧ e0 - j ≤ 6) ∧ ¬ (ADg g j e0 ∧ e0 - j ≤ 2) ∧ t = 4))))
theorem TK.det {g : Nat → Int} {i : Nat} {t t' : Int} {j j' e e' : Nat} {v v' : Int} (h : TK g i t j e v) (h' : TK g i t' j' e' v') : j = j' ∧ t = t' ∧ (t ≠ 4 → e = e') ∧ (t = 1 ∨ t = 2 → v = v') := by
  obtain ⟨s, c⟩ := h
  obtain ⟨s', c'⟩ := h'
  obtain rfl := s.det s'
  refine ⟨rfl, ?_⟩
  rcases c with ⟨a, rfl, rfl⟩ | ⟨a, rfl, rfl⟩ | ⟨a1, a2, a3, a4, rfl⟩ | ⟨a, e0, r, c⟩
  · rcases c' with ⟨b, rfl, rfl⟩ | ⟨b, rfl, rfl⟩ | ⟨b1, b2, b3, b4, rfl⟩ | ⟨b, e1, r', c'⟩
    · exact ⟨rfl, fun _ => rfl, fun q => by omega⟩
    · omega
    · exact absurd a b1
    · unfold ltr dgt at b; omega
  · rcases c' with ⟨b, rfl, rfl⟩ | ⟨b, rfl, rfl⟩ | ⟨b1, b2, b3, b4, rfl⟩ | ⟨b, e1, r', c'⟩
    · omega
    · exact ⟨rfl, fun _ => rfl, fun q => by omega⟩
    · exact absurd a b2
    · unfold ltr dgt at b; omega
  · rcases c' with ⟨b, rfl, rfl⟩ | ⟨b, rfl, rfl⟩ | ⟨b1, b2, b3, b4, rfl⟩ | ⟨b, e1, r', c'⟩
    · exact absurd b a1
    · exact absurd b a2
    · exact ⟨rfl, fun q => absurd rfl q, fun q => by omega⟩
    · rcases b with b | b
      · exact absurd b a3
      · exact absurd b a4
  · rcases c' with ⟨b, rfl, rfl⟩ | ⟨b, rfl, rfl⟩ | ⟨b1, b2, b3, b4, rfl⟩ | ⟨b, e1, r', c'⟩
    · unfold ltr dgt at a; omega
    · unfold ltr dgt at a; omega
    · rcases a with a | a
      · exact absurd a b3
      · exact absurd a b4
    · obtain rfl := r.det r'
      have hj : j < e0 := by
        rcases Nat.lt_or_ge j e0 with q | q
        · exact q
        · have : e0 = j := Nat.le_antisymm q r.1
          subst this; exact absurd a r.2.2
      have no : ¬ (ALt g j e0 ∧ ADg g j e0) := fun q => by
        have q1 := q.1 j (Nat.le_refl j) hj
        have q2 := q.2 j (Nat.le_refl j) hj
        unfold ltr at q1; unfold dgt at q2; omega
      rcases c with ⟨c1, c2, rfl, rfl, rfl⟩ | ⟨c1, c2, rfl, rfl, rfl⟩ | ⟨c1, c2, rfl⟩
      · rcases c' with ⟨d1, d2, rfl, rfl, rfl⟩ | ⟨d1, d2, rfl, rfl, rfl⟩ | ⟨d1, d2, rfl⟩
        · exact ⟨rfl, fun _ => rfl, fun _ => rfl⟩
        · exact absurd ⟨c1, d1⟩ no
        · exact absurd ⟨c1, c2⟩ d1
      · rcases c' with ⟨d1, d2, rfl, rfl, rfl⟩ | ⟨d1, d2, rfl, rfl, rfl⟩ | ⟨d1, d2, rfl⟩
        · exact absurd ⟨d1, c1⟩ no
        · exact ⟨rfl, fun _ => rfl, fun _ => rfl⟩
        · exact absurd ⟨c1, c2⟩ d2
      · rcases c' with ⟨d1, d2, rfl, rfl, rfl⟩ | ⟨d1, d2, rfl, rfl, rfl⟩ | ⟨d1, d2, rfl⟩
        · exact absurd ⟨d1, d2⟩ c1
        · exact absurd ⟨d1, d2⟩ c2
        · exact ⟨rfl, fun q => absurd rfl q, fun q => by omega⟩
theorem TK.place {g : Nat → Int} {i : Nat} {t : Int} {j e : Nat} {v : Int} (h : TK g i t j e v) : i ≤ j := h.1.1
theorem TK.on {g : Nat → Int} {i : Nat} {t : Int} {j e : Nat} {v : Int} (h : TK g i t j e v) (ht : t = 1 ∨ t = 2 ∨ t = 3) : j < e := by
  obtain ⟨s, c⟩ := h
  rcases c with ⟨a, rfl, rfl⟩ | ⟨a, rfl, rfl⟩ | ⟨a1, a2, a3, a4, rfl⟩ | ⟨a, e0, r, c⟩
  · omega
  · omega
  · omega
  · have hj : j < e0 := by
      rcases Nat.lt_or_ge j e0 with q | q
      · exact q
      · have : e0 = j := Nat.le_antisymm q r.1
        subst this; exact absurd a r.2.2
    rcases c with ⟨c1, c2, rfl, rfl, rfl⟩ | ⟨c1, c2, rfl, rfl, rfl⟩ | ⟨c1, c2, rfl⟩
    · exact hj
    · exact hj
    · omega
