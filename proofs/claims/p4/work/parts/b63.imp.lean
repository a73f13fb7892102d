/-! what is left; ways that are bettered -/
section IM
variable {f tw tw' : Nat → Int32} {ru rl : Nat → Int64}
def LFT (f tw : Nat → Int32) (ru rl : Nat → Int64) : Prop := ∃ c0, CR c0 ∧ LGd f 1 c0 ∧ (∀ k, k < (f 0).toInt.toNat → (f (1 + k)).toInt = 1 → c0 k = tw k) ∧ RPL f c0 (TOT f 2 (f 0).toInt.toNat) ru rl
theorem LL_lgd (hG : GS f) (hT : TW tw f) {c : Nat → Int32} {K : Nat} (h : ∀ j : Nat, j < K → (f (1 + j)).toInt = 1 → c j = tw j) (hK : K = (f 0).toInt.toNat) : LGd f 1 c := by
  subst hK
  have h0 := hG.r.1
  intro j hj e
  rw [h j hj e]
  have ht := hT j (by omega)
  exact ⟨ht.1 (by omega), fun z => ht.2 z (by omega)⟩
theorem LL_next {c c2 : Nat → Int32} {K K2 : Nat} {x : Int32} (h : ∀ j : Nat, j < K → (f (1 + j)).toInt = 1 → c j = tw j) (hc : c2 = upd c K x) (hx : x = tw K) (e : K2 = K + 1) : ∀ j : Nat, j < K2 → (f (1 + j)).toInt = 1 → c2 j = tw j := by
  subst e hc
  intro j hj e
  by_cases q : j = K
  · subst q; rw [upd_at]; exact hx
  · rw [upd_ne _ _ q]; exact h j (by omega) e
theorem LL_skip {c : Nat → Int32} {K K2 : Nat} (h : ∀ j : Nat, j < K → (f (1 + j)).toInt = 1 → c j = tw j) (hk : ¬ (f (1 + K)).toInt = 1) (e : K2 = K + 1) : ∀ j : Nat, j < K2 → (f (1 + j)).toInt = 1 → c j = tw j := by
  subst e
  intro j hj e
  by_cases q : j = K
  · subst q; exact absurd e hk
  · exact h j (by omega) e
def IMP (f : Nat → Int32) (ru rl : Nat → Int64) (tw tw' : Nat → Int32) (k : Nat) (n : Int) : Prop := (∀ j : Nat, (k ≤ j ∨ ¬ (f (1 + j)).toInt = 1) → tw' j = tw j) ∧ (∀ j : Nat, j < k → (f (1 + j)).toInt = 1 → tw' j = tw j ∨ ((f (109 + j)).toInt < 0 ∧ (tw' j).toInt < (f (25 + j)).toInt ∧ MORE ru rl (wtg f j (tw' j).toInt.toNat) (wtg f j (tw j).toInt.toNat))) ∧ (0 < n → ∃ j, j < k ∧ (f (1 + j)).toInt = 1 ∧ MORE ru rl (wtg f j (tw' j).toInt.toNat) (wtg f j (tw j).toInt.toNat))
theorem IMP_zero : IMP f ru rl tw tw 0 0 := ⟨fun _ _ => rfl, fun j h => absurd h (by omega), fun h => absurd h (by decide)⟩
theorem IMP_skip {k k2 : Nat} {n : Int} (h : IMP f ru rl tw tw' k n) (e : k2 = k + 1) : IMP f ru rl tw tw' k2 n := by
  subst e
  refine ⟨fun j hj => h.1 j (by omega), fun j hj e => ?_, fun hn => ?_⟩
  · by_cases q : j = k
    · exact Or.inl (h.1 j (Or.inl (by omega)))
    · exact h.2.1 j (by omega) e
  · obtain ⟨j, h1, h2⟩ := h.2.2 hn
    exact ⟨j, by omega, h2⟩
theorem IMP_put {k k2 : Nat} {n n2 : Int} {tw2 : Nat → Int32} {x t1 t2 v : Int32} (h : IMP f ru rl tw tw' k n) (hk : (f (1 + k)).toInt = 1) (hh : (f (109 + k)).toInt < 0) (he : tw2 = upd tw' k x) (hx : x.toInt < (f (25 + k)).toInt) (hv : v = tw' k) (h1 : t1 = f (37 + 3 * k + x.toInt.toNat)) (h2 : t2 = f (37 + 3 * k + v.toInt.toNat)) (hm : MORE ru rl t1.toInt.toNat t2.toInt.toNat) (e : k2 = k + 1) : IMP f ru rl tw tw2 k2 n2 := by
  subst e he
  have e0 := h.1 k (Or.inl (by omega))
  rw [e0] at hv
  have hM : MORE ru rl (wtg f k x.toInt.toNat) (wtg f k (tw k).toInt.toNat) := by
    unfold wtg
    rw [← hv, ← h1, ← h2]; exact hm
  refine ⟨fun j hj => ?_, fun j hj e => ?_, fun _ => ⟨k, by omega, hk, by rw [upd_at]; exact hM⟩⟩
  · have q : j ≠ k := fun z => by subst z; omega
    rw [upd_ne _ _ q]; exact h.1 j (by omega)
  · by_cases q : j = k
    · subst q; rw [upd_at]; exact Or.inr ⟨hh, hx, hM⟩
    · rw [upd_ne _ _ q]; exact h.2.1 j (by omega) e
theorem IMP_TW {k : Nat} {n : Int} (hT : TW tw f) (h : IMP f ru rl tw tw' k n) : TW tw' f := by
  intro j hj
  by_cases q : (f (1 + j)).toInt = 1
  · by_cases q2 : j < k
    · rcases h.2.1 j q2 q with z | ⟨z1, z2, _⟩
      · rw [z]; exact hT j hj
      · exact ⟨fun _ => z2, fun z _ => by omega⟩
    · rw [h.1 j (Or.inl (by omega))]; exact hT j hj
  · rw [h.1 j (Or.inr q)]; exact hT j hj
theorem TW_SL (hG : GS f) (hc : CR tw) (hT : TW tw f) : SL f (cN tw) := by
  intro k hk hp
  have h0 := hG.r.1
  have hk2 : k < (f 0).toInt.toNat := hk
  have e : (f (1 + k)).toInt = 1 := by unfold gMx at hp; simpa using hp
  have ht := hT k (by omega)
  have h1 := ht.1 (by omega)
  have hr := hc k
  refine ⟨by unfold wys cN; omega, ?_⟩
  by_cases q : (f (109 + k)).toInt < 0
  · exact Or.inl q
  · have := ht.2 (by omega) (by omega); unfold cN; right; omega
theorem IMP_MU (hG : GS f) (hc : CR tw) (hc' : CR tw') (hT : TW tw f) (hL : LFT f tw ru rl) {k : Nat} {n : Int} (h : IMP f ru rl tw tw' k n) (hk : k = (f 0).toInt.toNat) (hn : 0 < n) : ((MU f (cN tw') : Nat) : Int) < ((MU f (cN tw) : Nat) : Int) := by
  subst hk
  obtain ⟨c0, a1, a2, a3, a4⟩ := hL
  have := IMP_lt hG (s := cN tw) (t := cN tw') a1 a2 (fun k hk e => by rw [a3 k hk e]; have := hc k; unfold cN; omega) (TW_SL hG hc hT) (TW_SL hG hc' (IMP_TW hT h)) (fun k => by have := hc' k; unfold cN; omega) a4 (fun k hk e => by
    rcases h.2.1 k hk e with z | ⟨_, _, z⟩
    · exact Or.inl (by unfold cN; rw [z])
    · exact Or.inr z) (by obtain ⟨j, j1, j2, j3⟩ := h.2.2 hn; exact ⟨j, j1, j2, j3⟩)
  exact_mod_cast this
/-- one place is another -/
def HLD (f g : Nat → Int32) (a : Nat) : Prop := ∀ j, j ≠ a → g j = f j
theorem HLD_self {a : Nat} : HLD f f a := fun _ _ => rfl
theorem HLD_put {g g2 : Nat → Int32} {a a2 : Nat} {x : Int32} (h : HLD f g a) (e : g2 = upd g a2 x) (ha : a2 = a) : HLD f g2 a := by
  subst e ha
  intro j hj
  rw [upd_ne _ _ hj]; exact h j hj
theorem HLD_back {g g2 : Nat → Int32} {a a2 : Nat} {x : Int32} (h : HLD f g a) (e : g2 = upd g a2 x) (ha : a2 = a) (hx : x = f a) : g2 = f := by
  subst e ha
  funext j
  by_cases q : j = a2
  · subst q; rw [upd_at]; exact hx
  · rw [upd_ne _ _ q]; exact h j q
end IM
