/-- the sum below n -/
def pz_m : Nat → (Nat → Rat) → Rat
  | 0, _ => 0
  | n + 1, f => pz_m n f + f n
theorem pz_m_le {u v : Nat → Rat} : ∀ n : Nat, (∀ k, k < n → u k ≤ v k) → pz_m n u ≤ pz_m n v
  | 0, _ => Rat.le_refl
  | n + 1, h => by
    have h1 := pz_m_le n (fun k hk => h k (by omega))
    have h2 := h n (by omega)
    simp only [pz_m]
    grind
theorem pz_m_lt {u v : Nat → Rat} : ∀ n : Nat, (∀ k, k < n → u k ≤ v k) → (∃ k, k < n ∧ u k < v k) → pz_m n u < pz_m n v
  | 0, _, ⟨k, hk, _⟩ => absurd hk (by omega)
  | n + 1, h, ⟨k, hk, hl⟩ => by
    have h2 := h n (by omega)
    simp only [pz_m]
    rcases Nat.lt_or_ge k n with q | q
    · have h1 := pz_m_lt n (fun j hj => h j (by omega)) ⟨k, q, hl⟩
      grind
    · have e : k = n := by omega
      subst e
      have h1 := pz_m_le k (fun j hj => h j (by omega))
      grind
theorem pz_m_eq {u v : Nat → Rat} {n : Nat} (h : ∀ k, k < n → u k ≤ v k) (hs : pz_m n v ≤ pz_m n u) : ∀ k, k < n → u k = v k := by
  intro k hk
  have h1 := h k hk
  by_cases e : u k = v k
  · exact e
  · have := pz_m_lt n h ⟨k, hk, Rat.lt_of_le_of_ne h1 e⟩
    grind
/-- of a list that isn't empty, one with the least number -/
theorem pz_least {α : Type} (f : α → Rat) : ∀ l : List α, l ≠ [] → ∃ a, a ∈ l ∧ ∀ b, b ∈ l → f a ≤ f b
  | [], h => absurd rfl h
  | [a], _ => ⟨a, List.mem_cons_self, fun b hb => by rw [List.mem_singleton.mp hb]; exact Rat.le_refl⟩
  | a :: c :: l, _ => by
    obtain ⟨x, hx, h⟩ := pz_least f (c :: l) (by simp)
    by_cases hl : f a ≤ f x
    · refine ⟨a, List.mem_cons_self, fun b hb => ?_⟩
      rcases List.mem_cons.mp hb with rfl | hb
      · exact Rat.le_refl
      · exact Rat.le_trans hl (h b hb)
    · refine ⟨x, List.mem_cons_of_mem _ hx, fun b hb => ?_⟩
      rcases List.mem_cons.mp hb with rfl | hb
      · grind
      · exact h b hb
/-- the ways from k by the choice c: a player's node goes its one way, else all ways of chance -/
def pz_sc (pl : Nat → Bool) (ch : Nat → List (Nat × Nat)) (to : Nat → Nat → Nat) (c : Nat → Nat) (k : Nat) : List (Nat × Nat) := if pl k = true then [(1, to k (c k))] else ch k
section PB
variable (n : Nat) (en : Nat → Bool) (pay : Nat → Rat) (pl mx : Nat → Bool) (ch : Nat → List (Nat × Nat)) (to : Nat → Nat → Nat) (al : Nat → Nat → Prop)
/-- v is what the play by c brings -/
def pz_V (c : Nat → Nat) (v : Nat → Rat) : Prop :=
  (∀ k, k < n → en k = true → v k = pay k) ∧ (∀ k, k < n → en k = false → ¬ pz_C en (pz_sc pl ch to c) k → v k = 0) ∧
  ∀ k, k < n → en k = false → pz_C en (pz_sc pl ch to c) k → pz_s (pz_sc pl ch to c k) (fun _ => 1) * v k = pz_s (pz_sc pl ch to c k) v
/-- a legal choice -/
def pz_L (c : Nat → Nat) : Prop := ∀ k, k < n → pl k = true → al k (c k)
/-- the network: chance has ways by weights above 0, all ways lead to nodes, ends pay 0 or more; MAX's nodes are players' -/
def pz_N : Prop := (∀ k, k < n → en k = false → pl k = false → ch k ≠ [] ∧ ∀ p ∈ ch k, 0 < p.1 ∧ p.2 < n) ∧ (∀ k, k < n → ∀ i, pl k = true → al k i → to k i < n) ∧ (∀ k, k < n → en k = true → 0 ≤ pay k) ∧ ∀ k, mx k = true → pl k = true
variable {n en pay pl mx ch to al}
theorem pz_ok_of (hN : pz_N n en pay pl mx ch to al) {c : Nat → Nat} (hc : pz_L n pl al c) : pz_ok n en (pz_sc pl ch to c) := by
  intro k hk he
  unfold pz_sc
  by_cases hp : pl k = true
  · rw [if_pos hp]
    refine ⟨by simp, fun p h => ?_⟩
    rw [List.mem_singleton.mp h]
    exact ⟨Nat.one_pos, hN.2.1 k hk _ hp (hc k hk hp)⟩
  · rw [if_neg hp]
    exact hN.1 k hk he (by simpa using hp)
/-- where no end is come to, none is come to behind it -/
theorem pz_C_next {sc : Nat → List (Nat × Nat)} {k : Nat} (h : ¬ pz_C en sc k) {p : Nat × Nat} (hp : p ∈ sc k) : ¬ pz_C en sc p.2 := fun q => h (pz_C_step hp q)
theorem pz_s_all0 {l : List (Nat × Nat)} {v : Nat → Rat} (h : ∀ p ∈ l, v p.2 = 0) : pz_s l v = 0 := by
  induction l with
  | nil => rfl
  | cons p l ih =>
    simp only [pz_s]
    rw [h p List.mem_cons_self, ih (fun q hq => h q (List.mem_cons_of_mem _ hq))]
    grind
/-- the mean holds at every node that is no end -/
theorem pz_V_mean (hN : pz_N n en pay pl mx ch to al) {c : Nat → Nat} (hc : pz_L n pl al c) {v : Nat → Rat} (hv : pz_V n en pay pl ch to c v) : ∀ k, k < n → en k = false → pz_s (pz_sc pl ch to c k) (fun _ => 1) * v k = pz_s (pz_sc pl ch to c k) v := by
  intro k hk he
  by_cases h : pz_C en (pz_sc pl ch to c) k
  · exact hv.2.2 k hk he h
  · rw [hv.2.1 k hk he h, Rat.mul_zero]
    refine (pz_s_all0 fun p hp => ?_).symm
    have hb := ((pz_ok_of hN hc k hk he).2 p hp).2
    have hq := pz_C_next h hp
    by_cases e2 : en p.2 = true
    · exact absurd (pz_C_end e2) hq
    · exact hv.2.1 p.2 hb (by simpa using e2) hq
theorem pz_V_nonneg (hN : pz_N n en pay pl mx ch to al) {c : Nat → Nat} (hc : pz_L n pl al c) {v : Nat → Rat} (hv : pz_V n en pay pl ch to c v) : ∀ k, k < n → 0 ≤ v k := by
  intro k hk
  have := pz_prin (pz_ok_of hN hc) (u := fun k => 0 - v k) (fun j hj h => by
    rcases h with h | h
    · have := hN.2.2.1 j hj h
      rw [← hv.1 j hj h] at this
      grind
    · by_cases e : en j = true
      · exact absurd (pz_C_end e) h
      · rw [hv.2.1 j hj (by simpa using e) h]; grind) (fun j hj he _ => by
    have := pz_V_mean hN hc hv j hj he
    have e0 : pz_s (pz_sc pl ch to c j) (fun _ => 0) = 0 := by rw [pz_s_const _ 0, Rat.mul_zero]
    rw [pz_s_sub _ (fun _ => 0) v, e0]
    grind) k hk
  grind
/-- a player's node has the value of where its way leads -/
theorem pz_V_way (hN : pz_N n en pay pl mx ch to al) {c : Nat → Nat} (hc : pz_L n pl al c) {v : Nat → Rat} (hv : pz_V n en pay pl ch to c v) {k : Nat} (hk : k < n) (he : en k = false) (hp : pl k = true) : v k = v (to k (c k)) := by
  have := pz_V_mean hN hc hv k hk he
  unfold pz_sc at this
  rw [if_pos hp] at this
  simp only [pz_s] at this
  grind
theorem pz_V_chance (hN : pz_N n en pay pl mx ch to al) {c : Nat → Nat} (hc : pz_L n pl al c) {v : Nat → Rat} (hv : pz_V n en pay pl ch to c v) {k : Nat} (hk : k < n) (he : en k = false) (hp : pl k = false) : pz_s (ch k) (fun _ => 1) * v k = pz_s (ch k) v := by
  have := pz_V_mean hN hc hv k hk he
  unfold pz_sc at this
  rw [if_neg (by simp [hp])] at this
  exact this
/-- ways that stay among nodes that are no ends come to none -/
theorem pz_stay {sc : Nat → List (Nat × Nat)} {S : Nat → Prop} (he : ∀ k, S k → en k = false) (hs : ∀ k, S k → ∀ p ∈ sc k, S p.2) : ∀ k, S k → ¬ pz_C en sc k := by
  intro k hk ⟨m, hm⟩
  induction m generalizing k with
  | zero => have := he k hk; rw [show en k = true from hm] at this; cases this
  | succ m ih =>
    rcases hm with h | ⟨p, hp, h⟩
    · have := he k hk; rw [h] at this; cases this
    · exact ih p.2 (hs k hk p hp) h
/-- changing a choice to that of another one on a set keeps it legal -/
theorem pz_L_mix {c d : Nat → Nat} (hc : pz_L n pl al c) (hd : pz_L n pl al d) (S : Nat → Prop) (f : Nat → Nat) (hf : ∀ k, (S k → f k = c k) ∧ (¬ S k → f k = d k)) : pz_L n pl al f := by
  intro k hk hp
  by_cases h : S k
  · rw [(hf k).1 h]; exact hc k hk hp
  · rw [(hf k).2 h]; exact hd k hk hp
theorem pz_sc_congr {c d : Nat → Nat} {k : Nat} (h : c k = d k) : pz_sc pl ch to c k = pz_sc pl ch to d k := by
  unfold pz_sc
  rw [h]
/-- THE BEST REPLY: of all legal choices that keep MAX's ways s, one is least at every node; it is 0 wherever any of them never ends; no way of MIN leads lower -/
theorem pz_best (hN : pz_N n en pay pl mx ch to al) (val : (Nat → Nat) → Nat → Rat) (hval : ∀ c, pz_L n pl al c → pz_V n en pay pl ch to c (val c)) {s : Nat → Nat} {P : List (Nat → Nat)} (hP0 : P ≠ []) (hP : ∀ c, c ∈ P → pz_L n pl al c ∧ ∀ k, k < n → mx k = true → c k = s k) (hall : ∀ c, pz_L n pl al c → (∀ k, k < n → mx k = true → c k = s k) → ∃ d, d ∈ P ∧ ∀ k, k < n → val d k = val c k) :
    ∃ b, b ∈ P ∧ (∀ c, pz_L n pl al c → (∀ k, k < n → mx k = true → c k = s k) → ∀ k, k < n → val b k ≤ val c k) ∧
      (∀ c, pz_L n pl al c → (∀ k, k < n → mx k = true → c k = s k) → ∀ k, k < n → ¬ pz_C en (pz_sc pl ch to c) k → val b k = 0) ∧
      ∀ k, k < n → en k = false → pl k = true → mx k = false → ∀ i, al k i → val b k ≤ val b (to k i) := by
  obtain ⟨b, hb, hleast⟩ := pz_least (fun c => pz_m n (val c)) P hP0
  obtain ⟨hbL, hbs⟩ := hP b hb
  have hmin : ∀ c, pz_L n pl al c → (∀ k, k < n → mx k = true → c k = s k) → pz_m n (val b) ≤ pz_m n (val c) := by
    intro c hc hcs
    obtain ⟨d, hd, he⟩ := hall c hc hcs
    exact Rat.le_trans (hleast d hd) (pz_m_le n (fun k hk => by rw [he k hk]; exact Rat.le_refl))
  have hvb := hval b hbL
  have hb0 := pz_V_nonneg hN hbL hvb
  -- 0 where a choice never ends
  have hA1 : ∀ c, pz_L n pl al c → (∀ k, k < n → mx k = true → c k = s k) → ∀ k, k < n → ¬ pz_C en (pz_sc pl ch to c) k → val b k = 0 := by
    intro c hc hcs
    obtain ⟨f, hf⟩ : ∃ f : Nat → Nat, ∀ k, ((k < n ∧ ¬ pz_C en (pz_sc pl ch to c) k) → f k = c k) ∧ (¬ (k < n ∧ ¬ pz_C en (pz_sc pl ch to c) k) → f k = b k) := by
      classical
      exact ⟨fun k => if k < n ∧ ¬ pz_C en (pz_sc pl ch to c) k then c k else b k, fun k => ⟨fun h => if_pos h, fun h => if_neg h⟩⟩
    have hfL := pz_L_mix hc hbL _ f hf
    have hfs : ∀ k, k < n → mx k = true → f k = s k := by
      intro k hk hm
      by_cases h : k < n ∧ ¬ pz_C en (pz_sc pl ch to c) k
      · rw [(hf k).1 h]; exact hcs k hk hm
      · rw [(hf k).2 h]; exact hbs k hk hm
    have hvf := hval f hfL
    have hst : ∀ k, (k < n ∧ ¬ pz_C en (pz_sc pl ch to c) k) → ¬ pz_C en (pz_sc pl ch to f) k := by
      refine pz_stay (S := fun k => k < n ∧ ¬ pz_C en (pz_sc pl ch to c) k) (fun k h => ?_) (fun k h p hp => ?_)
      · cases e : en k
        · rfl
        · exact absurd (pz_C_end e) h.2
      · rw [pz_sc_congr ((hf k).1 h)] at hp
        have e : en k = false := by
          cases e : en k
          · rfl
          · exact absurd (pz_C_end e) h.2
        exact ⟨((pz_ok_of hN hc k h.1 e).2 p hp).2, pz_C_next h.2 hp⟩
    have hle := pz_prin (pz_ok_of hN hfL) (u := fun k => val f k - val b k) (fun j hj h => by
      rcases h with h | h
      · rw [hvf.1 j hj h, hvb.1 j hj h]; grind
      · have e : en j = false := by
          cases e : en j
          · rfl
          · exact absurd (pz_C_end e) h
        have := hb0 j hj
        rw [hvf.2.1 j hj e h]; grind) (fun j hj he hr => by
      have hnS : ¬ (j < n ∧ ¬ pz_C en (pz_sc pl ch to c) j) := fun q => hst j q hr
      have e1 := pz_V_mean hN hfL hvf j hj he
      have e2 := pz_V_mean hN hbL hvb j hj he
      rw [← pz_sc_congr ((hf j).2 hnS)] at e2
      rw [pz_s_sub]
      grind)
    have heq := pz_m_eq (u := val f) (v := val b) (n := n) (fun k hk => by have := hle k hk; grind) (hmin f hfL hfs)
    intro k hk hr
    have h1 := hst k ⟨hk, hr⟩
    have e : en k = false := by
      cases e : en k
      · rfl
      · exact absurd (pz_C_end e) hr
    rw [← heq k hk]
    exact hvf.2.1 k hk e h1
  -- no way of MIN leads lower
  have hA2 : ∀ k, k < n → en k = false → pl k = true → mx k = false → ∀ i, al k i → val b k ≤ val b (to k i) := by
    intro k hk he hp hm i hi
    by_cases hlt : val b k ≤ val b (to k i)
    · exact hlt
    · exfalso
      obtain ⟨f, hfk, hfo⟩ : ∃ f : Nat → Nat, f k = i ∧ ∀ j, j ≠ k → f j = b j := ⟨fun j => if j = k then i else b j, if_pos rfl, fun j h => if_neg h⟩
      have hfL : pz_L n pl al f := by
        intro j hj hpj
        by_cases h : j = k
        · subst h; rw [hfk]; exact hi
        · rw [hfo j h]; exact hbL j hj hpj
      have hfs : ∀ j, j < n → mx j = true → f j = s j := by
        intro j hj hmj
        have h : j ≠ k := fun h => by rw [h, hm] at hmj; cases hmj
        rw [hfo j h]; exact hbs j hj hmj
      have hvf := hval f hfL
      have hto := hN.2.1 k hk i hp hi
      have hle := pz_prin (pz_ok_of hN hfL) (u := fun k => val f k - val b k) (fun j hj h => by
        rcases h with h | h
        · rw [hvf.1 j hj h, hvb.1 j hj h]; grind
        · have e : en j = false := by
            cases e : en j
            · rfl
            · exact absurd (pz_C_end e) h
          have := hb0 j hj
          rw [hvf.2.1 j hj e h]; grind) (fun j hj hej hr => by
        by_cases h : j = k
        · subst h
          have e1 := pz_V_way hN hfL hvf hj hej hp
          rw [hfk] at e1
          unfold pz_sc
          rw [if_pos hp, hfk]
          simp only [pz_s]
          grind
        · have e1 := pz_V_mean hN hfL hvf j hj hej
          have e2 := pz_V_mean hN hbL hvb j hj hej
          rw [← pz_sc_congr (hfo j h)] at e2
          rw [pz_s_sub]
          grind)
      have hk1 := pz_V_way hN hfL hvf hk he hp
      rw [hfk] at hk1
      have h2 := hle (to k i) hto
      have := pz_m_lt (u := val f) (v := val b) n (fun j hj => by have := hle j hj; grind) ⟨k, hk, by grind⟩
      have := hmin f hfL hfs
      grind
  refine ⟨b, hb, ?_, hA1, hA2⟩
  intro c hc hcs
  have hvc := hval c hc
  have hle := pz_prin (pz_ok_of hN hc) (u := fun k => val b k - val c k) (fun j hj h => by
    rcases h with h | h
    · rw [hvb.1 j hj h, hvc.1 j hj h]; grind
    · have e : en j = false := by
        cases e : en j
        · rfl
        · exact absurd (pz_C_end e) h
      rw [hA1 c hc hcs j hj h, hvc.2.1 j hj e h]; grind) (fun j hj hej hr => by
    cases hp : pl j
    · have e1 := pz_V_chance hN hbL hvb hj hej hp
      have e2 := pz_V_chance hN hc hvc hj hej hp
      unfold pz_sc
      rw [if_neg (by simp [hp]), pz_s_sub]
      grind
    · have e2 := pz_V_way hN hc hvc hj hej hp
      have e1 : val b j ≤ val b (to j (c j)) := by
        cases hm : mx j
        · exact hA2 j hj hej hp hm _ (hc j hj hp)
        · have := pz_V_way hN hbL hvb hj hej hp
          rw [hbs j hj hm, ← hcs j hj hm] at this
          rw [← this]; exact Rat.le_refl
      unfold pz_sc
      rw [if_pos hp]
      simp only [pz_s]
      grind)
  intro k hk
  have := hle k hk
  grind
end PB
