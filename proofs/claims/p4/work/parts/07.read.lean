/-! a tape of signs, read token by token: what both readers are held against -/
def ltr (c : Int) : Prop := 97 ≤ c ∧ c ≤ 122
def dgt (c : Int) : Prop := 48 ≤ c ∧ c ≤ 57
/-- the signs below a length, -1 behind them -/
def bg (f : Nat → Int32) (z : Int) : Nat → Int := fun j => if (j : Int) < z then (f j).toInt % 256 else -1
theorem bg_in {f : Nat → Int32} {z : Int} {j : Nat} (h : (j : Int) < z) : bg f z j = (f j).toInt % 256 := if_pos h
theorem bg_out {f : Nat → Int32} {z : Int} {j : Nat} (h : ¬ (j : Int) < z) : bg f z j = -1 := if_neg h
theorem bg_lt {f : Nat → Int32} {z : Int} {j : Nat} (h : bg f z j ≠ -1) : (j : Int) < z := by
  by_cases q : (j : Int) < z
  · exact q
  · exact absurd (bg_out q) h
theorem bg_rng (f : Nat → Int32) (z : Int) (j : Nat) : -1 ≤ bg f z j ∧ bg f z j ≤ 255 := by
  by_cases q : (j : Int) < z
  · rw [bg_in q]; omega
  · rw [bg_out q]; omega
theorem bg_eq {f g : Nat → Int32} {z : Int} (h : ∀ j : Nat, (j : Int) < z → (f j).toInt % 256 = (g j).toInt % 256) : bg f z = bg g z := by
  funext j
  by_cases q : (j : Int) < z
  · rw [bg_in q, bg_in q, h j q]
  · rw [bg_out q, bg_out q]
def SKp (g : Nat → Int) (i j : Nat) : Prop := i ≤ j ∧ (∀ k : Nat, i ≤ k → k < j → g k = 32) ∧ g j ≠ 32
theorem SKp.det {g : Nat → Int} {i j j' : Nat} (h : SKp g i j) (h' : SKp g i j') : j = j' := by
  rcases Nat.lt_trichotomy j j' with q | q | q
  · exact absurd (h'.2.1 j h.1 q) h.2.2
  · exact q
  · exact absurd (h.2.1 j' h'.1 q) h'.2.2
def RUn (g : Nat → Int) (j e : Nat) : Prop := j ≤ e ∧ (∀ k : Nat, j ≤ k → k < e → ltr (g k) ∨ dgt (g k)) ∧ ¬ (ltr (g e) ∨ dgt (g e))
theorem RUn.det {g : Nat → Int} {j e e' : Nat} (h : RUn g j e) (h' : RUn g j e') : e = e' := by
  rcases Nat.lt_trichotomy e e' with q | q | q
  · exact absurd (h'.2.1 e h.1 q) h.2.2
  · exact q
  · exact absurd (h.2.1 e' h'.1 q) h'.2.2
/-- letters as a number to the base 27, digits as a number to the base 10 -/
def pk (g : Nat → Int) (j : Nat) : Nat → Int
  | 0 => 0
  | m + 1 => pk g j m * 27 + (g (j + m) - 96)
def nmb (g : Nat → Int) (j : Nat) : Nat → Int
  | 0 => 0
  | m + 1 => nmb g j m * 10 + (g (j + m) - 48)
theorem pk_succ (g : Nat → Int) (j m : Nat) : pk g j (m + 1) = pk g j m * 27 + (g (j + m) - 96) := rfl
theorem nmb_succ (g : Nat → Int) (j m : Nat) : nmb g j (m + 1) = nmb g j m * 10 + (g (j + m) - 48) := rfl
def ALt (g : Nat → Int) (j e : Nat) : Prop := ∀ k : Nat, j ≤ k → k < e → ltr (g k)
def ADg (g : Nat → Int) (j e : Nat) : Prop := ∀ k : Nat, j ≤ k → k < e → dgt (g k)
theorem pk_nn {g : Nat → Int} {j : Nat} : ∀ {m : Nat}, (∀ k : Nat, k < m → ltr (g (j + k))) → 0 ≤ pk g j m
  | 0, _ => Int.le_refl 0
  | m + 1, h => by
    have a := pk_nn (g := g) (j := j) (m := m) (fun k hk => h k (Nat.lt_succ_of_lt hk))
    have b := h m (Nat.lt_succ_self m)
    unfold ltr at b
    rw [pk_succ]; omega
theorem pk_lt7 {g : Nat → Int} {j : Nat} : ∀ {m : Nat}, (∀ k : Nat, k < m → ltr (g (j + k))) → pk g j m < 27 ^ m
  | 0, _ => by simp [pk]
  | m + 1, h => by
    have a := pk_lt7 (g := g) (j := j) (m := m) (fun k hk => h k (Nat.lt_succ_of_lt hk))
    have b := h m (Nat.lt_succ_self m)
    unfold ltr at b
    have e : (27 : Int) ^ (m + 1) = 27 ^ m * 27 := Int.pow_succ _ _
    rw [pk_succ, e]; omega
/-- a word's number tells the word -/
theorem pk_inj {g g' : Nat → Int} {j j' : Nat} : ∀ {m m' : Nat}, (∀ k : Nat, k < m → ltr (g (j + k))) → (∀ k : Nat, k < m' → ltr (g' (j' + k))) → pk g j m = pk g' j' m' → m = m' ∧ ∀ k : Nat, k < m → g (j + k) = g' (j' + k)
  | 0, 0, _, _, _ => ⟨rfl, fun k h => absurd h (Nat.not_lt_zero k)⟩
  | 0, m' + 1, _, h', e => by
    have a := pk_nn (g := g') (j := j') (m := m') (fun k hk => h' k (Nat.lt_succ_of_lt hk))
    have b := h' m' (Nat.lt_succ_self m')
    unfold ltr at b
    rw [pk_succ] at e
    have e' : (0 : Int) = pk g' j' m' * 27 + (g' (j' + m') - 96) := e
    omega
  | m + 1, 0, h, _, e => by
    have a := pk_nn (g := g) (j := j) (m := m) (fun k hk => h k (Nat.lt_succ_of_lt hk))
    have b := h m (Nat.lt_succ_self m)
    unfold ltr at b
    rw [pk_succ] at e
    have e' : pk g j m * 27 + (g (j + m) - 96) = 0 := e
    omega
  | m + 1, m' + 1, h, h', e => by
    have b := h m (Nat.lt_succ_self m)
    have b' := h' m' (Nat.lt_succ_self m')
    unfold ltr at b b'
    rw [pk_succ, pk_succ] at e
    have c : pk g j m = pk g' j' m' := by omega
    have d : g (j + m) = g' (j' + m') := by omega
    obtain ⟨q, r⟩ := pk_inj (m := m) (m' := m') (fun k hk => h k (Nat.lt_succ_of_lt hk)) (fun k hk => h' k (Nat.lt_succ_of_lt hk)) c
    subst q
    refine ⟨rfl, fun k hk => ?_⟩
    rcases Nat.lt_or_ge k m with z | z
    · exact r k z
    · have : k = m := by omega
      subst this; exact d
theorem pk_congr {g g' : Nat → Int} {j j' : Nat} : ∀ {m : Nat}, (∀ k : Nat, k < m → g (j + k) = g' (j' + k)) → pk g j m = pk g' j' m
  | 0, _ => rfl
  | m + 1, h => by rw [pk_succ, pk_succ, pk_congr (m := m) (fun k hk => h k (Nat.lt_succ_of_lt hk)), h m (Nat.lt_succ_self m)]
/-- the token that is read from i on: its sort (0 none, 1 a word, 2 a number, 3 a semicolon, 4 wrong), its place, where reading goes on, what it tells -/
def TK (g : Nat → Int) (i : Nat) (t : Int) (j e : Nat) (v : Int) : Prop :=
  SKp g i j ∧ ((g j = -1 ∧ t = 0 ∧ e = j) ∨ (g j = 59 ∧ t = 3 ∧ e = j + 1) ∨ (g j ≠ -1 ∧ g j ≠ 59 ∧ ¬ ltr (g j) ∧ ¬ dgt (g j) ∧ t = 4) ∨
    ((ltr (g j) ∨ dgt (g j)) ∧ ∃ e0 : Nat, RUn g j e0 ∧ ((ALt g j e0 ∧ e0 - j ≤ 6 ∧ t = 1 ∧ e = e0 ∧ v = pk g j (e0 - j)) ∨ (ADg g j e0 ∧ e0 - j ≤ 2 ∧ t = 2 ∧ e = e0 ∧ v = nmb g j (e0 - j)) ∨ (¬ (ALt g j e0 ∧ e0 - j ≤ 6) ∧ ¬ (ADg g j e0 ∧ e0 - j ≤ 2) ∧ t = 4))))
theorem TK.det {g : Nat → Int} {i : Nat} {t t' : Int} {j j' e e' : Nat} {v v' : Int} (h : TK g i t j e v) (h' : TK g i t' j' e' v') : j = j' ∧ t = t' ∧ (t ≠ 4 → e = e') ∧ (t = 1 ∨ t = 2 → v = v') := by
  obtain ⟨s, c⟩ := h
  obtain ⟨s', c'⟩ := h'
  obtain rfl := s.det s'
  refine ⟨rfl, ?_⟩
  rcases c with ⟨a, rfl, rfl⟩ | ⟨a, rfl, rfl⟩ | ⟨a1, a2, a3, a4, rfl⟩ | ⟨a, e0, r, c⟩
  · rcases c' with ⟨b, rfl, rfl⟩ | ⟨b, rfl, rfl⟩ | ⟨b1, b2, b3, b4, rfl⟩ | ⟨b, e1, r', c'⟩
    · exact ⟨rfl, fun _ => rfl, fun q => by omega⟩
    · omega
    · exact absurd a b1
    · unfold ltr dgt at b; omega
  · rcases c' with ⟨b, rfl, rfl⟩ | ⟨b, rfl, rfl⟩ | ⟨b1, b2, b3, b4, rfl⟩ | ⟨b, e1, r', c'⟩
    · omega
    · exact ⟨rfl, fun _ => rfl, fun q => by omega⟩
    · exact absurd a b2
    · unfold ltr dgt at b; omega
  · rcases c' with ⟨b, rfl, rfl⟩ | ⟨b, rfl, rfl⟩ | ⟨b1, b2, b3, b4, rfl⟩ | ⟨b, e1, r', c'⟩
    · exact absurd b a1
    · exact absurd b a2
    · exact ⟨rfl, fun q => absurd rfl q, fun q => by omega⟩
    · rcases b with b | b
      · exact absurd b a3
      · exact absurd b a4
  · rcases c' with ⟨b, rfl, rfl⟩ | ⟨b, rfl, rfl⟩ | ⟨b1, b2, b3, b4, rfl⟩ | ⟨b, e1, r', c'⟩
    · unfold ltr dgt at a; omega
    · unfold ltr dgt at a; omega
    · rcases a with a | a
      · exact absurd a b3
      · exact absurd a b4
    · obtain rfl := r.det r'
      have hj : j < e0 := by
        rcases Nat.lt_or_ge j e0 with q | q
        · exact q
        · have : e0 = j := Nat.le_antisymm q r.1
          subst this; exact absurd a r.2.2
      have no : ¬ (ALt g j e0 ∧ ADg g j e0) := fun q => by
        have q1 := q.1 j (Nat.le_refl j) hj
        have q2 := q.2 j (Nat.le_refl j) hj
        unfold ltr at q1; unfold dgt at q2; omega
      rcases c with ⟨c1, c2, rfl, rfl, rfl⟩ | ⟨c1, c2, rfl, rfl, rfl⟩ | ⟨c1, c2, rfl⟩
      · rcases c' with ⟨d1, d2, rfl, rfl, rfl⟩ | ⟨d1, d2, rfl, rfl, rfl⟩ | ⟨d1, d2, rfl⟩
        · exact ⟨rfl, fun _ => rfl, fun _ => rfl⟩
        · exact absurd ⟨c1, d1⟩ no
        · exact absurd ⟨c1, c2⟩ d1
      · rcases c' with ⟨d1, d2, rfl, rfl, rfl⟩ | ⟨d1, d2, rfl, rfl, rfl⟩ | ⟨d1, d2, rfl⟩
        · exact absurd ⟨d1, c1⟩ no
        · exact ⟨rfl, fun _ => rfl, fun _ => rfl⟩
        · exact absurd ⟨c1, c2⟩ d2
      · rcases c' with ⟨d1, d2, rfl, rfl, rfl⟩ | ⟨d1, d2, rfl, rfl, rfl⟩ | ⟨d1, d2, rfl⟩
        · exact absurd ⟨d1, d2⟩ c1
        · exact absurd ⟨d1, d2⟩ c2
        · exact ⟨rfl, fun q => absurd rfl q, fun q => by omega⟩
theorem TK.place {g : Nat → Int} {i : Nat} {t : Int} {j e : Nat} {v : Int} (h : TK g i t j e v) : i ≤ j := h.1.1
theorem TK.on {g : Nat → Int} {i : Nat} {t : Int} {j e : Nat} {v : Int} (h : TK g i t j e v) (ht : t = 1 ∨ t = 2 ∨ t = 3) : j < e := by
  obtain ⟨s, c⟩ := h
  rcases c with ⟨a, rfl, rfl⟩ | ⟨a, rfl, rfl⟩ | ⟨a1, a2, a3, a4, rfl⟩ | ⟨a, e0, r, c⟩
  · omega
  · omega
  · omega
  · have hj : j < e0 := by
      rcases Nat.lt_or_ge j e0 with q | q
      · exact q
      · have : e0 = j := Nat.le_antisymm q r.1
        subst this; exact absurd a r.2.2
    rcases c with ⟨c1, c2, rfl, rfl, rfl⟩ | ⟨c1, c2, rfl, rfl, rfl⟩ | ⟨c1, c2, rfl⟩
    · exact hj
    · exact hj
    · omega
