section PI
variable {n : Nat} {en : Nat → Bool} {pay : Nat → Rat} {pl mx : Nat → Bool} {ch : Nat → List (Nat × Nat)} {to : Nat → Nat → Nat} {al : Nat → Nat → Prop}
/-- A PLAN THAT IS BETTERED leaves no less: v is what is left by the ways s of MAX (its least over MIN's replies), t goes other ways only where they lead to more; then every play that keeps t brings v or more -/
theorem pz_improve (hN : pz_N n en pay pl mx ch to al) (hmx : ∀ k, k < n → mx k = true → en k = false) (hpe : ∀ k, k < n → pl k = true → en k = false) (val : (Nat → Nat) → Nat → Rat) (hval : ∀ c, pz_L n pl al c → pz_V n en pay pl ch to c (val c)) {s t b : Nat → Nat} (hb : pz_L n pl al b) (hbs : ∀ k, k < n → mx k = true → b k = s k)
    (h0 : ∀ c, pz_L n pl al c → (∀ k, k < n → mx k = true → c k = s k) → ∀ k, k < n → ¬ pz_C en (pz_sc pl ch to c) k → val b k = 0)
    (h1 : ∀ k, k < n → en k = false → pl k = true → mx k = false → ∀ i, al k i → val b k ≤ val b (to k i))
    (ht : ∀ k, k < n → mx k = true → t k = s k ∨ val b (to k (s k)) < val b (to k (t k)))
    {c : Nat → Nat} (hc : pz_L n pl al c) (hct : ∀ k, k < n → mx k = true → c k = t k) : ∀ k, k < n → val b k ≤ val c k := by
  have hvb := hval b hb
  have hvc := hval c hc
  have hb0 := pz_V_nonneg hN hb hvb
  have hok := pz_ok_of hN hc
  -- from a player's node the way of c leads to no less
  have hway : ∀ k, k < n → en k = false → pl k = true → val b k ≤ val b (to k (c k)) := by
    intro k hk he hp
    cases hm : mx k
    · exact h1 k hk he hp hm _ (hc k hk hp)
    · have e1 := pz_V_way hN hb hvb hk he hp
      rw [hbs k hk hm] at e1
      rcases ht k hk hm with e | e
      · rw [hct k hk hm, e, ← e1]; exact Rat.le_refl
      · rw [hct k hk hm]; grind
  have hsub : ∀ k, k < n → en k = false → pz_s (pz_sc pl ch to c k) (fun _ => 1) * val b k ≤ pz_s (pz_sc pl ch to c k) (val b) := by
    intro k hk he
    cases hp : pl k
    · have := pz_V_chance hN hb hvb hk he hp
      unfold pz_sc
      rw [if_neg (by simp [hp]), this]
      exact Rat.le_refl
    · have := hway k hk he hp
      unfold pz_sc
      rw [if_pos hp]
      simp only [pz_s]
      grind
  -- where play by c never ends nothing was left
  have hz : ∀ k, k < n → ¬ pz_C en (pz_sc pl ch to c) k → val b k ≤ 0 := by
    intro k hk hr
    -- the greatest of v among the nodes where play by c never ends
    obtain ⟨w, hw⟩ : ∃ w : Nat → Rat, ∀ j, ((¬ pz_C en (pz_sc pl ch to c) j) → w j = val b j) ∧ (pz_C en (pz_sc pl ch to c) j → w j = 0) := by
      classical
      exact ⟨fun j => if pz_C en (pz_sc pl ch to c) j then 0 else val b j, fun j => ⟨fun h => if_neg h, fun h => if_pos h⟩⟩
    obtain ⟨x, hx, hmax⟩ := pz_max w n (by omega)
    have hwk := hmax k hk
    rw [(hw k).1 hr] at hwk
    by_cases hM : w x ≤ 0
    · exact Rat.le_trans hwk hM
    · exfalso
      have hxr : ¬ pz_C en (pz_sc pl ch to c) x := fun q => hM (by rw [(hw x).2 q]; exact Rat.le_refl)
      have hwx := (hw x).1 hxr
      have hS : ∀ j, (j < n ∧ ¬ pz_C en (pz_sc pl ch to c) j ∧ val b j = val b x) → en j = false ∧ (mx j = true → t j = s j) ∧ ∀ p ∈ pz_sc pl ch to c j, p.2 < n ∧ ¬ pz_C en (pz_sc pl ch to c) p.2 ∧ val b p.2 = val b x := by
        intro j hj
        have he : en j = false := by
          cases e : en j
          · rfl
          · exact absurd (pz_C_end e) hj.2.1
        obtain ⟨-, hall⟩ := hok j hj.1 he
        have hnext : ∀ p ∈ pz_sc pl ch to c j, val b p.2 ≤ val b x := by
          intro p hp
          have h2 := pz_C_next hj.2.1 hp
          have h3 := hmax p.2 (hall p hp).2
          rw [(hw p.2).1 h2, hwx] at h3
          exact h3
        have hs := hsub j hj.1 he
        have hzero := pz_s_zero (l := pz_sc pl ch to c j) (u := fun i => val b x - val b i) (fun q hq => (hall q hq).1) (fun q hq => by
          have := hnext q hq
          grind) (by
          rw [pz_s_sub _ (fun _ => val b x) (val b), pz_s_const _ (val b x)]
          rw [hj.2.2] at hs
          grind)
        refine ⟨he, fun hm => ?_, fun p hp => ⟨(hall p hp).2, pz_C_next hj.2.1 hp, by have := hzero p hp; grind⟩⟩
        rcases ht j hj.1 hm with e | e
        · exact e
        · exfalso
          have hp := hN.2.2.2 j hm
          have e1 := pz_V_way hN hb hvb hj.1 he hp
          rw [hbs j hj.1 hm] at e1
          have hin : (1, to j (c j)) ∈ pz_sc pl ch to c j := by
            unfold pz_sc
            rw [if_pos hp]
            exact List.mem_singleton.mpr rfl
          have h5 := hnext _ hin
          have h6 : val b (to j (c j)) ≤ val b x := h5
          rw [hct j hj.1 hm] at h6
          have h7 := hj.2.2
          grind
      obtain ⟨f, hf⟩ : ∃ f : Nat → Nat, ∀ j, ((j < n ∧ ¬ pz_C en (pz_sc pl ch to c) j ∧ val b j = val b x) → f j = c j) ∧ (¬ (j < n ∧ ¬ pz_C en (pz_sc pl ch to c) j ∧ val b j = val b x) → f j = b j) := by
        classical
        exact ⟨fun j => if (j < n ∧ ¬ pz_C en (pz_sc pl ch to c) j ∧ val b j = val b x) then c j else b j, fun j => ⟨fun h => if_pos h, fun h => if_neg h⟩⟩
      have hfL := pz_L_mix hc hb _ f hf
      have hfs : ∀ j, j < n → mx j = true → f j = s j := by
        intro j hj hm
        by_cases h : j < n ∧ ¬ pz_C en (pz_sc pl ch to c) j ∧ val b j = val b x
        · rw [(hf j).1 h, hct j hj hm]; exact (hS j h).2.1 hm
        · rw [(hf j).2 h]; exact hbs j hj hm
      have hst : ∀ j, (j < n ∧ ¬ pz_C en (pz_sc pl ch to c) j ∧ val b j = val b x) → ¬ pz_C en (pz_sc pl ch to f) j := by
        refine pz_stay (S := fun j => j < n ∧ ¬ pz_C en (pz_sc pl ch to c) j ∧ val b j = val b x) (fun j h => (hS j h).1) (fun j h p hp => ?_)
        rw [pz_sc_congr ((hf j).1 h)] at hp
        exact (hS j h).2.2 p hp
      have := h0 f hfL hfs x hx (hst x ⟨hx, hxr, rfl⟩)
      rw [hwx, this] at hM
      exact hM Rat.le_refl
  have hle := pz_prin hok (u := fun k => val b k - val c k) (fun j hj h => by
    rcases h with h | h
    · rw [hvb.1 j hj h, hvc.1 j hj h]; grind
    · have e : en j = false := by
        cases e : en j
        · rfl
        · exact absurd (pz_C_end e) h
      have := hz j hj h
      rw [hvc.2.1 j hj e h]; grind) (fun j hj he hr => by
    have e1 := hsub j hj he
    have e2 := pz_V_mean hN hc hvc j hj he
    rw [pz_s_sub]
    grind)
  intro k hk
  have := hle k hk
  grind
/-- THE STEP: with v the least left by s, w the least left by t (each a play's own values, b and d), and a node where t leads to more: all of w is no less than v, and their sum is more -/
theorem pz_step (hN : pz_N n en pay pl mx ch to al) (hmx : ∀ k, k < n → mx k = true → en k = false) (hpe : ∀ k, k < n → pl k = true → en k = false) (val : (Nat → Nat) → Nat → Rat) (hval : ∀ c, pz_L n pl al c → pz_V n en pay pl ch to c (val c)) {s t b d : Nat → Nat} (hb : pz_L n pl al b) (hbs : ∀ k, k < n → mx k = true → b k = s k) (hd : pz_L n pl al d) (hdt : ∀ k, k < n → mx k = true → d k = t k)
    (h0 : ∀ c, pz_L n pl al c → (∀ k, k < n → mx k = true → c k = s k) → ∀ k, k < n → ¬ pz_C en (pz_sc pl ch to c) k → val b k = 0)
    (h1 : ∀ k, k < n → en k = false → pl k = true → mx k = false → ∀ i, al k i → val b k ≤ val b (to k i))
    (ht : ∀ k, k < n → mx k = true → t k = s k ∨ val b (to k (s k)) < val b (to k (t k))) (hsome : ∃ k, k < n ∧ mx k = true ∧ val b (to k (s k)) < val b (to k (t k))) : pz_m n (val b) < pz_m n (val d) := by
  have hle := pz_improve hN hmx hpe val hval hb hbs h0 h1 ht hd hdt
  refine pz_m_lt n hle ?_
  obtain ⟨k, hk, hm, hlt⟩ := hsome
  refine ⟨k, hk, ?_⟩
  have hp := hN.2.2.2 k hm
  have he := hmx k hk hm
  have e1 := pz_V_way hN hb (hval b hb) hk he hp
  have e2 := pz_V_way hN hd (hval d hd) hk he hp
  rw [hbs k hk hm] at e1
  rw [hdt k hk hm] at e2
  have h3 := hle (to k (t k)) (hN.2.1 k hk _ hp (by rw [← hdt k hk hm]; exact hd k hk hp))
  grind
end PI
/-- numbers of a finite list that grow by steps within it stop: how many of the list are above -/
def pz_up {α : Type} (f : α → Rat) (l : List α) (r : Rat) : Nat := (l.filter (fun a => decide (r < f a))).length
theorem pz_up_lt {α : Type} (f : α → Rat) : ∀ (l : List α) (a : α) (r : Rat), a ∈ l → r < f a → pz_up f l (f a) < pz_up f l r
  | [], _, _, h, _ => nomatch h
  | x :: l, a, r, h, hr => by
    have hmono : ∀ l : List α, pz_up f l (f a) ≤ pz_up f l r := by
      intro l
      induction l with
      | nil => exact Nat.le_refl _
      | cons y l ih =>
        unfold pz_up at ih ⊢
        simp only [List.filter_cons]
        by_cases h1 : f a < f y
        · have h2 : r < f y := by grind
          simp only [h1, h2, decide_true, if_true, List.length_cons]
          omega
        · by_cases h2 : r < f y
          · simp only [h1, h2, decide_true, decide_false, if_true, List.length_cons]
            simp
            omega
          · simp only [h1, h2, decide_false]
            simpa using ih
    rcases List.mem_cons.mp h with rfl | h
    · have := hmono l
      unfold pz_up at this ⊢
      simp only [List.filter_cons]
      have h1 : ¬ f a < f a := Rat.lt_irrefl
      simp only [h1, hr, decide_true, decide_false, if_true, List.length_cons]
      simp
      omega
    · have := pz_up_lt f l a r h hr
      unfold pz_up at this ⊢
      simp only [List.filter_cons]
      by_cases h1 : f a < f x
      · have h2 : r < f x := by grind
        simp only [h1, h2, decide_true, if_true, List.length_cons]
        omega
      · by_cases h2 : r < f x
        · simp only [h1, h2, decide_true, decide_false, if_true, List.length_cons]
          simp
          omega
        · simp only [h1, h2, decide_false]
          simpa using this
