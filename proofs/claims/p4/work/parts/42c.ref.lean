/-! the reference's reader: its tokens, words, names, row -/
theorem and255_mod (x : Int32) : (x &&& 255).toInt = x.toInt % 256 := by
  have h1 : (x &&& 255).toBitVec = x.toBitVec &&& 255#32 := rfl
  have h2 : (x &&& 255).toInt = ((x &&& 255).toBitVec).toInt := rfl
  have h0 : x.toInt = x.toBitVec.toInt := rfl
  have h3 : (x.toBitVec &&& 255#32).toNat = x.toBitVec.toNat % 256 := by
    rw [BitVec.toNat_and]
    exact Nat.and_two_pow_sub_one_eq_mod x.toBitVec.toNat 8
  rw [h2, h1, h0, BitVec.toInt_eq_toNat_cond, BitVec.toInt_eq_toNat_cond, h3]
  have h4 := x.toBitVec.isLt
  split <;> split <;> omega
theorem pkb_bg {f : Nat → Int32} {p z : Int32} (h0 : 0 ≤ p.toInt) : pkb f p z = bg f z.toInt p.toInt.toNat := by
  by_cases h : p.toInt < z.toInt
  · rw [← pkb_in h, bg_in (by omega), and255_mod]; rfl
  · rw [← pkb_out h, bg_out (by omega)]
theorem i2b_small {x : Int32} (h0 : 0 ≤ x.toInt) (h1 : x.toInt ≤ 127) : x.toInt8.toInt32 = x := by
  apply Int32.toInt_inj.mp
  rw [Int8.toInt_toInt32, Int32.toInt_toInt8]
  exact Int.bmod_eq_of_le (by omega) (by omega)
/-- a run in the reference: how many small letters, the number, the letters -/
def RNR (g : Nat → Int) (j x : Nat) (S N : Int) (lf : Nat → Int32) : Prop := j ≤ x ∧ (∀ k : Nat, j ≤ k → k < x → ltr (g k) ∨ dgt (g k)) ∧ 0 ≤ S ∧ S ≤ (x : Int) - j ∧ (S = (x : Int) - j → ALt g j x) ∧ (S ≠ (x : Int) - j → ¬ ALt g j x) ∧ (S = 0 → ADg g j x) ∧ (S ≠ 0 → ¬ ADg g j x) ∧ (S = 0 → x - j ≤ 2 → N = nmb g j (x - j)) ∧ ∀ k : Nat, k < 6 → j + k < x → (lf k).toInt = g (j + k)
theorem RNR.zero {g : Nat → Int} {j x : Nat} {S N : Int} {lf : Nat → Int32} (hx : x = j) (hS : S = 0) (hN : N = 0) : RNR g j x S N lf := by
  subst hx; subst hS; subst hN
  refine ⟨Nat.le_refl _, fun k h1 h2 => by omega, by omega, by omega, fun _ k h1 h2 => by omega, fun h => absurd (by omega) h, fun _ k h1 h2 => by omega, fun h => absurd rfl h, fun _ _ => ?_, fun k h1 h2 => by omega⟩
  rw [Nat.sub_self]; rfl
theorem RNR.letter {g : Nat → Int} {j x y : Nat} {S S' N N' : Int} {lf lf' : Nat → Int32} (h : RNR g j x S N lf) (hy : y = x + 1) (hc : ltr (g x)) (hS : S' = S + 1) (hl : ∀ k : Nat, k < 6 → j + k ≤ x → (lf' k).toInt = if j + k = x then g x else (lf k).toInt) : RNR g j y S' N' lf' := by
  obtain ⟨h1, h2, h3, h4, h5, h6, h7, h8, h9, h10⟩ := h
  subst hy; subst hS
  refine ⟨by omega, fun k k1 k2 => ?_, by omega, by omega, fun q k k1 k2 => ?_, fun q r => h6 (by omega) (fun k k1 k2 => r k k1 (by omega)), fun q => by omega, fun _ r => ?_, fun q => by omega, fun k k1 k2 => ?_⟩
  · rcases Nat.lt_or_ge k x with z | z
    · exact h2 k k1 z
    · have : k = x := by omega
      subst this; exact Or.inl hc
  · rcases Nat.lt_or_ge k x with z | z
    · exact h5 (by omega) k k1 z
    · have : k = x := by omega
      subst this; exact hc
  · have b := r x h1 (by omega)
    unfold ltr at hc; unfold dgt at b; omega
  · rw [hl k k1 (by omega)]
    by_cases e : j + k = x
    · rw [if_pos e, e]
    · rw [if_neg e]; exact h10 k k1 (by omega)
theorem RNR.digit {g : Nat → Int} {j x y : Nat} {S S' N N' : Int} {lf lf' : Nat → Int32} (h : RNR g j x S N lf) (hy : y = x + 1) (hc : dgt (g x)) (hS : S' = S) (hN : S = 0 → x - j ≤ 1 → N' = N * 10 + (g x - 48)) (hl : ∀ k : Nat, k < 6 → j + k ≤ x → (lf' k).toInt = if j + k = x then g x else (lf k).toInt) : RNR g j y S' N' lf' := by
  obtain ⟨h1, h2, h3, h4, h5, h6, h7, h8, h9, h10⟩ := h
  subst hy; subst hS
  refine ⟨by omega, fun k k1 k2 => ?_, by omega, by omega, fun q => by omega, fun _ r => ?_, fun q k k1 k2 => ?_, fun q r => h8 q (fun k k1 k2 => r k k1 (by omega)), fun q w => ?_, fun k k1 k2 => ?_⟩
  · rcases Nat.lt_or_ge k x with z | z
    · exact h2 k k1 z
    · have : k = x := by omega
      subst this; exact Or.inr hc
  · have b := r x h1 (by omega)
    unfold ltr at b; unfold dgt at hc; omega
  · rcases Nat.lt_or_ge k x with z | z
    · exact h7 q k k1 z
    · have : k = x := by omega
      subst this; exact hc
  · have e := h9 q (by omega)
    have n : x + 1 - j = (x - j) + 1 := by omega
    have n2 : j + (x - j) = x := by omega
    rw [n, nmb_succ, n2, ← e]
    exact hN q (by omega)
  · rw [hl k k1 (by omega)]
    by_cases e : j + k = x
    · rw [if_pos e, e]
    · rw [if_neg e]; exact h10 k k1 (by omega)
/-- the letters of the token, six of them, 0 behind the last -/
def pad (lf : Nat → Int32) (m : Int) (k : Nat) : Int := if (k : Int) < m then (lf k).toInt else 0
/-- a word that is read: its letters -/
def WLF (lf : Nat → Int32) (m : Int) : Prop := 1 ≤ m ∧ m ≤ 6 ∧ ∀ k : Nat, (k : Int) < m → ltr (lf k).toInt
def wcd (lf : Nat → Int32) (m : Int) : Int := pk (fun k => (lf k).toInt) 0 m.toNat
/-- the reference's token -/
def TKR (g : Nat → Int) (i : Nat) (t : Int) (j e : Nat) (num lm : Int) (lf : Nat → Int32) : Prop := ∃ v : Int, TK g i t j e v ∧ (t = 1 → WLF lf lm ∧ v = wcd lf lm) ∧ (t = 2 → v = num)
theorem tkr_of {g : Nat → Int} {i : Nat} {t : Int} {j e : Nat} {num lm : Int} {lf : Nat → Int32} {v : Int} (h : TK g i t j e v) (h1 : t ≠ 1) (h2 : t ≠ 2) : TKR g i t j e num lm lf := ⟨v, h, fun q => absurd q h1, fun q => absurd q h2⟩
theorem RNR.rng {g : Nat → Int} {j x : Nat} {S N : Int} {lf : Nat → Int32} (h : RNR g j x S N lf) : j ≤ x ∧ 0 ≤ S ∧ S ≤ (x : Int) - j := ⟨h.1, h.2.2.1, h.2.2.2.1⟩
theorem RNR.word {g : Nat → Int} {i j x : Nat} {S N num lm t : Int} {lf : Nat → Int32} (h : RNR g j x S N lf) (s : SKp g i j) (ha : ltr (g j) ∨ dgt (g j)) (hs : ¬ (ltr (g x) ∨ dgt (g x))) (hS : S = (x : Int) - j) (hl : S < 7) (hm : lm = (x : Int) - j) (hx : j < x) (ht : t = 1) : TKR g i t j x num lm lf := by
  obtain ⟨h1, h2, h3, h4, h5, h6, h7, h8, h9, h10⟩ := h
  have al := h5 hS
  refine ⟨pk g j (x - j), tk_run s ha ⟨⟨h1, h2, hs⟩, Or.inl ⟨al, by omega, ht, rfl⟩⟩, fun _ => ⟨⟨by omega, by omega, fun k hk => ?_⟩, ?_⟩, fun q => by omega⟩
  · rw [h10 k (by omega) (by omega)]; exact al (j + k) (by omega) (by omega)
  · unfold wcd
    have e : lm.toNat = x - j := by omega
    rw [e]
    exact pk_congr (fun k hk => by rw [Nat.zero_add]; exact (h10 k (by omega) (by omega)).symm)
theorem RNR.number {g : Nat → Int} {i j x : Nat} {S N lm t : Int} {lf : Nat → Int32} (h : RNR g j x S N lf) (s : SKp g i j) (ha : ltr (g j) ∨ dgt (g j)) (hs : ¬ (ltr (g x) ∨ dgt (g x))) (hS : S = 0) (hl : (x : Int) - j < 3) (ht : t = 2) : TKR g i t j x N lm lf := by
  obtain ⟨h1, h2, h3, h4, h5, h6, h7, h8, h9, h10⟩ := h
  exact ⟨nmb g j (x - j), tk_run s ha ⟨⟨h1, h2, hs⟩, Or.inr (Or.inl ⟨h7 hS, by omega, ht, rfl⟩)⟩, fun q => by omega, fun _ => (h9 hS (by omega)).symm⟩
theorem RNR.wrong {g : Nat → Int} {i j x : Nat} {S N num lm t : Int} {lf : Nat → Int32} (h : RNR g j x S N lf) (s : SKp g i j) (ha : ltr (g j) ∨ dgt (g j)) (hs : ¬ (ltr (g x) ∨ dgt (g x))) (n1 : ¬ (S = (x : Int) - j ∧ (x : Int) - j < 7)) (n2 : ¬ (S = 0 ∧ (x : Int) - j < 3)) (ht : t = 4) : TKR g i t j x num lm lf := by
  obtain ⟨h1, h2, h3, h4, h5, h6, h7, h8, h9, h10⟩ := h
  refine tkr_of (v := 0) (tk_run s ha ⟨⟨h1, h2, hs⟩, Or.inr (Or.inr ⟨fun q => ?_, fun q => ?_, ht⟩)⟩) (by omega) (by omega)
  · by_cases d : S = (x : Int) - j
    · exact n1 ⟨d, by omega⟩
    · exact h6 d q.1
  · by_cases d : S = 0
    · exact n2 ⟨d, by omega⟩
    · exact h8 d q.1
/-- six letters that are the same as six others -/
def Mt6 (h q : Nat → Int) : Prop := ∀ i : Nat, i < 6 → h i = q i
/-- six letters: some, then 0 -/
def WF6 (h : Nat → Int) : Prop := ∃ m : Nat, m ≤ 6 ∧ (∀ i : Nat, i < m → ltr (h i)) ∧ ∀ i : Nat, m ≤ i → i < 6 → h i = 0
/-- their number -/
def cd6 (h : Nat → Int) : Int := pk h 0 (if h 0 = 0 then 0 else if h 1 = 0 then 1 else if h 2 = 0 then 2 else if h 3 = 0 then 3 else if h 4 = 0 then 4 else if h 5 = 0 then 5 else 6)
theorem cd6_of {h : Nat → Int} {m : Nat} (hm : m ≤ 6) (hl : ∀ i : Nat, i < m → ltr (h i)) (hz : ∀ i : Nat, m ≤ i → i < 6 → h i = 0) : cd6 h = pk h 0 m := by
  have nz : ∀ i : Nat, i < m → h i ≠ 0 := fun i hi q => by have := hl i hi; unfold ltr at this; omega
  unfold cd6
  rcases (show m = 0 ∨ m = 1 ∨ m = 2 ∨ m = 3 ∨ m = 4 ∨ m = 5 ∨ m = 6 by omega) with q | q | q | q | q | q | q <;> subst q
  · rw [if_pos (hz 0 (by omega) (by omega))]
  · rw [if_neg (nz 0 (by omega)), if_pos (hz 1 (by omega) (by omega))]
  · rw [if_neg (nz 0 (by omega)), if_neg (nz 1 (by omega)), if_pos (hz 2 (by omega) (by omega))]
  · rw [if_neg (nz 0 (by omega)), if_neg (nz 1 (by omega)), if_neg (nz 2 (by omega)), if_pos (hz 3 (by omega) (by omega))]
  · rw [if_neg (nz 0 (by omega)), if_neg (nz 1 (by omega)), if_neg (nz 2 (by omega)), if_neg (nz 3 (by omega)), if_pos (hz 4 (by omega) (by omega))]
  · rw [if_neg (nz 0 (by omega)), if_neg (nz 1 (by omega)), if_neg (nz 2 (by omega)), if_neg (nz 3 (by omega)), if_neg (nz 4 (by omega)), if_pos (hz 5 (by omega) (by omega))]
  · rw [if_neg (nz 0 (by omega)), if_neg (nz 1 (by omega)), if_neg (nz 2 (by omega)), if_neg (nz 3 (by omega)), if_neg (nz 4 (by omega)), if_neg (nz 5 (by omega))]
theorem m6_cd {h q : Nat → Int} (e : Mt6 h q) : cd6 h = cd6 q := by
  have k : ∀ m : Nat, m ≤ 6 → pk h 0 m = pk q 0 m := fun m hm => pk_congr (fun i hi => by rw [Nat.zero_add]; exact e i (by omega))
  unfold cd6
  rw [e 0 (by omega), e 1 (by omega), e 2 (by omega), e 3 (by omega), e 4 (by omega), e 5 (by omega)]
  apply k
  repeat' split
  all_goals omega
theorem cd_m6 {h q : Nat → Int} (wh : WF6 h) (wq : WF6 q) (e : cd6 h = cd6 q) : Mt6 h q := by
  obtain ⟨m, m1, m2, m3⟩ := wh
  obtain ⟨n, n1, n2, n3⟩ := wq
  rw [cd6_of m1 m2 m3, cd6_of n1 n2 n3] at e
  obtain ⟨rfl, k⟩ := pk_inj (fun i hi => by rw [Nat.zero_add]; exact m2 i hi) (fun i hi => by rw [Nat.zero_add]; exact n2 i hi) e
  intro i hi
  by_cases z : i < m
  · have := k i z
    rw [Nat.zero_add] at this; exact this
  · rw [m3 i (by omega) hi, n3 i (by omega) hi]
theorem pad_wf {lf : Nat → Int32} {m : Int} (h : WLF lf m) : WF6 (pad lf m) := by
  obtain ⟨h1, h2, h3⟩ := h
  refine ⟨m.toNat, by omega, fun i hi => ?_, fun i h4 h5 => if_neg (by omega)⟩
  unfold pad
  rw [if_pos (by omega)]; exact h3 i (by omega)
theorem pad_cd {lf : Nat → Int32} {m : Int} (h : WLF lf m) : cd6 (pad lf m) = wcd lf m := by
  obtain ⟨h1, h2, h3⟩ := h
  rw [cd6_of (h := pad lf m) (m := m.toNat) (by omega) (fun i hi => by unfold pad; rw [if_pos (by omega)]; exact h3 i (by omega)) (fun i h4 h5 => if_neg (by omega))]
  exact pk_congr (fun i hi => by rw [Nat.zero_add]; exact if_pos (by omega))
/-- the five known words -/
def KNs (kf : Nat → Int32) : Prop := ∀ j : Nat, j < 30 → kf j = (101 :: 110 :: 100 :: 0 :: 0 :: 0 :: 109 :: 97 :: 120 :: 0 :: 0 :: 0 :: 109 :: 105 :: 110 :: 0 :: 0 :: 0 :: 99 :: 104 :: 97 :: 110 :: 99 :: 101 :: 119 :: 97 :: 121 :: 0 :: 0 :: 0 :: [] : List Int32).getD j 0
def kw6 (kf : Nat → Int32) (k : Nat) : Nat → Int := fun i => (kf (6 * k + i)).toInt
def KCD (k : Nat) : Int := if k = 0 then 4027 else if k = 1 then 9528 else if k = 2 then 9734 else if k = 3 then 47328224 else 16819
theorem kw6_at {kf : Nat → Int32} (h : KNs kf) {k : Nat} (hk : k < 5) : WF6 (kw6 kf k) ∧ cd6 (kw6 kf k) = KCD k := by
  have e : ∀ j : Nat, j < 30 → (kf j).toInt = ((101 :: 110 :: 100 :: 0 :: 0 :: 0 :: 109 :: 97 :: 120 :: 0 :: 0 :: 0 :: 109 :: 105 :: 110 :: 0 :: 0 :: 0 :: 99 :: 104 :: 97 :: 110 :: 99 :: 101 :: 119 :: 97 :: 121 :: 0 :: 0 :: 0 :: [] : List Int32).getD j 0).toInt := fun j hj => by rw [h j hj]
  rcases (show k = 0 ∨ k = 1 ∨ k = 2 ∨ k = 3 ∨ k = 4 by omega) with q | q | q | q | q <;> subst q
  · have m : Mt6 (kw6 kf 0) (fun i => ([101, 110, 100, 0, 0, 0] : List Int).getD i 0) := fun i hi => by
      rcases (show i = 0 ∨ i = 1 ∨ i = 2 ∨ i = 3 ∨ i = 4 ∨ i = 5 by omega) with q | q | q | q | q | q <;> subst q <;> exact (e _ (by decide)).trans (by decide)
    refine ⟨⟨3, by decide, fun i hi => ?_, fun i h1 h2 => ?_⟩, (m6_cd m).trans (by decide)⟩
    · rw [m i (by omega)]
      rcases (show i = 0 ∨ i = 1 ∨ i = 2 by omega) with q | q | q <;> subst q <;> (unfold ltr; decide)
    · rw [m i h2]
      rcases (show i = 3 ∨ i = 4 ∨ i = 5 by omega) with q | q | q <;> subst q <;> rfl
  · have m : Mt6 (kw6 kf 1) (fun i => ([109, 97, 120, 0, 0, 0] : List Int).getD i 0) := fun i hi => by
      rcases (show i = 0 ∨ i = 1 ∨ i = 2 ∨ i = 3 ∨ i = 4 ∨ i = 5 by omega) with q | q | q | q | q | q <;> subst q <;> exact (e _ (by decide)).trans (by decide)
    refine ⟨⟨3, by decide, fun i hi => ?_, fun i h1 h2 => ?_⟩, (m6_cd m).trans (by decide)⟩
    · rw [m i (by omega)]
      rcases (show i = 0 ∨ i = 1 ∨ i = 2 by omega) with q | q | q <;> subst q <;> (unfold ltr; decide)
    · rw [m i h2]
      rcases (show i = 3 ∨ i = 4 ∨ i = 5 by omega) with q | q | q <;> subst q <;> rfl
  · have m : Mt6 (kw6 kf 2) (fun i => ([109, 105, 110, 0, 0, 0] : List Int).getD i 0) := fun i hi => by
      rcases (show i = 0 ∨ i = 1 ∨ i = 2 ∨ i = 3 ∨ i = 4 ∨ i = 5 by omega) with q | q | q | q | q | q <;> subst q <;> exact (e _ (by decide)).trans (by decide)
    refine ⟨⟨3, by decide, fun i hi => ?_, fun i h1 h2 => ?_⟩, (m6_cd m).trans (by decide)⟩
    · rw [m i (by omega)]
      rcases (show i = 0 ∨ i = 1 ∨ i = 2 by omega) with q | q | q <;> subst q <;> (unfold ltr; decide)
    · rw [m i h2]
      rcases (show i = 3 ∨ i = 4 ∨ i = 5 by omega) with q | q | q <;> subst q <;> rfl
  · have m : Mt6 (kw6 kf 3) (fun i => ([99, 104, 97, 110, 99, 101] : List Int).getD i 0) := fun i hi => by
      rcases (show i = 0 ∨ i = 1 ∨ i = 2 ∨ i = 3 ∨ i = 4 ∨ i = 5 by omega) with q | q | q | q | q | q <;> subst q <;> exact (e _ (by decide)).trans (by decide)
    refine ⟨⟨6, by decide, fun i hi => ?_, fun i h1 h2 => by omega⟩, (m6_cd m).trans (by decide)⟩
    rw [m i (by omega)]
    rcases (show i = 0 ∨ i = 1 ∨ i = 2 ∨ i = 3 ∨ i = 4 ∨ i = 5 by omega) with q | q | q | q | q | q <;> subst q <;> (unfold ltr; decide)
  · have m : Mt6 (kw6 kf 4) (fun i => ([119, 97, 121, 0, 0, 0] : List Int).getD i 0) := fun i hi => by
      rcases (show i = 0 ∨ i = 1 ∨ i = 2 ∨ i = 3 ∨ i = 4 ∨ i = 5 by omega) with q | q | q | q | q | q <;> subst q <;> exact (e _ (by decide)).trans (by decide)
    refine ⟨⟨3, by decide, fun i hi => ?_, fun i h1 h2 => ?_⟩, (m6_cd m).trans (by decide)⟩
    · rw [m i (by omega)]
      rcases (show i = 0 ∨ i = 1 ∨ i = 2 by omega) with q | q | q <;> subst q <;> (unfold ltr; decide)
    · rw [m i h2]
      rcases (show i = 3 ∨ i = 4 ∨ i = 5 by omega) with q | q | q <;> subst q <;> rfl
theorem kw_kd {kf : Nat → Int32} (hk : KNs kf) {lf : Nat → Int32} {m : Int} (hw : WLF lf m) {k : Nat} (h5 : k < 5) (h : Mt6 (kw6 kf k) (pad lf m)) : kd (wcd lf m) = k := by
  have e := (m6_cd h).symm.trans (kw6_at hk h5).2
  rw [pad_cd hw] at e
  rw [e]
  rcases (show k = 0 ∨ k = 1 ∨ k = 2 ∨ k = 3 ∨ k = 4 by omega) with q | q | q | q | q <;> subst q <;> decide
theorem kw_no {kf : Nat → Int32} (hk : KNs kf) {lf : Nat → Int32} {m : Int} (hw : WLF lf m) (h : ∀ k : Nat, k < 5 → ¬ Mt6 (kw6 kf k) (pad lf m)) : kd (wcd lf m) = -1 := by
  have n : ∀ k : Nat, k < 5 → wcd lf m ≠ KCD k := fun k h5 q => h k h5 (cd_m6 (kw6_at hk h5).1 (pad_wf hw) ((kw6_at hk h5).2.trans (q.symm.trans (pad_cd hw).symm)))
  have n0 : wcd lf m ≠ 4027 := n 0 (by decide)
  have n1 : wcd lf m ≠ 9528 := n 1 (by decide)
  have n2 : wcd lf m ≠ 9734 := n 2 (by decide)
  have n3 : wcd lf m ≠ 47328224 := n 3 (by decide)
  have n4 : wcd lf m ≠ 16819 := n 4 (by decide)
  unfold kd
  rw [if_neg n0, if_neg n1, if_neg n2, if_neg n3, if_neg n4]
/-- the reference's row as the row of numbers that both are held against -/
def nm6 (f : Nat → Int32) (p : Nat) : Nat → Int := fun i => (f (121 + 6 * p + i)).toInt
def absR (f : Nat → Int32) : Nat → Int := fun j => if j < 121 then (f j).toInt else cd6 (nm6 f (j - 121))
theorem absR_lo {f : Nat → Int32} {j : Nat} (h : j < 121) : absR f j = (f j).toInt := if_pos h
theorem absR_n {f : Nat → Int32} (p : Nat) : absR f (121 + p) = cd6 (nm6 f p) := by
  unfold absR
  rw [if_neg (by omega), show 121 + p - 121 = p by omega]
/-- names in a row are words -/
def NWF (f : Nat → Int32) : Prop := ∀ p : Nat, (p : Int) < (f 0).toInt → WF6 (nm6 f p)
theorem absR_cn {f : Nat → Int32} {z : Int} {m : Nat} (hm : m ≤ 12) : cn (absR f) z m = cnf (fun p => (f (1 + p)).toInt) z m := cnf_congr (fun p hp => absR_lo (by omega))
theorem absR_ws {f : Nat → Int32} {p m : Nat} (hp : p < 12) (hm : m ≤ 3) : wsum (absR f) p m = wsf (fun i => (f (73 + 3 * p + i)).toInt) m := wsf_congr (fun i hi => absR_lo (by omega))
theorem gc_cnf (f : Nat → Int32) (z : Int) : ∀ n : Nat, gc f z n = cnf (fun p => (f (1 + p)).toInt) z n
  | 0 => rfl
  | n + 1 => congrArg (fun t => t + (if (f (1 + n)).toInt = z then (1 : Int) else 0)) (gc_cnf f z n)
theorem gw_wsf (f : Nat → Int32) (p : Nat) : ∀ n : Nat, gw f p n = wsf (fun i => (f (73 + 3 * p + i)).toInt) n
  | 0 => rfl
  | n + 1 => congrArg (fun t => t + (f (73 + 3 * p + n)).toInt) (gw_wsf f p n)
theorem absR_fd {f : Nat → Int32} {lf : Nat → Int32} {m r : Int} (hn : NWF f) (hw : WLF lf m) (h : (0 ≤ r ∧ r < (f 0).toInt ∧ Mt6 (nm6 f r.toNat) (pad lf m) ∧ ∀ p : Nat, (p : Int) < r → ¬ Mt6 (nm6 f p) (pad lf m)) ∨ (r = -1 ∧ ∀ p : Nat, (p : Int) < (f 0).toInt → ¬ Mt6 (nm6 f p) (pad lf m))) : FDn (absR f) (wcd lf m) r := by
  have no : ∀ p : Nat, (p : Int) < (f 0).toInt → ¬ Mt6 (nm6 f p) (pad lf m) → absR f (121 + p) ≠ wcd lf m := fun p hp q e => q (cd_m6 (hn p hp) (pad_wf hw) ((absR_n p).symm.trans (e.trans (pad_cd hw).symm)))
  rcases h with ⟨a, b, c, d⟩ | ⟨a, b⟩
  · exact Or.inl ⟨a, b, (absR_n _).trans ((m6_cd c).trans (pad_cd hw)), fun p hp => no p (by omega) (d p hp)⟩
  · exact Or.inr ⟨a, fun p hp => no p hp (b p hp)⟩
theorem wf6_tr {h q : Nat → Int} (e : Mt6 h q) (w : WF6 q) : WF6 h := by
  obtain ⟨m, m1, m2, m3⟩ := w
  exact ⟨m, m1, fun i hi => by rw [e i (by omega)]; exact m2 i hi, fun i h1 h2 => by rw [e i h2]; exact m3 i h1 h2⟩
/-- behind the last node no pay is told -/
def PZr (f : Nat → Int32) : Prop := ∀ k : Nat, k < 12 → (f 0).toInt ≤ k → (f (13 + k)).toInt = 0
/-- a node more, in the row -/
theorem absR_add {f o lf : Nat → Int32} {lm c y : Int} {n : Nat} (hG : GP f) (hN : NWF f) (hz : PZr f) (hw : WLF lf lm) (hn : n = (f 0).toInt.toNat) (h11 : n ≤ 11) (e0 : (o 0).toInt = (f 0).toInt + 1) (ek : (o (1 + n)).toInt = c) (ey : (o (13 + n)).toInt = y) (eh : (o (109 + n)).toInt = -1) (en : ∀ j : Nat, j < 6 → (o (121 + 6 * n + j)).toInt = pad lf lm j) (same : ∀ j : Nat, j ≠ 0 → j ≠ 1 + n → j ≠ 13 + n → j ≠ 109 + n → (j < 121 + 6 * n ∨ 121 + 6 * n + 6 ≤ j) → o j = f j) : AddN (absR f) (absR o) c (wcd lf lm) y ∧ NWF o ∧ PZr o := by
  have g0 := hG.1.1
  have f0 : absR f 0 = (f 0).toInt := absR_lo (by decide)
  have o0 : absR o 0 = (o 0).toInt := absR_lo (by decide)
  have hn' : (absR f 0).toNat = n := by rw [f0]; exact hn.symm
  have nm : ∀ p : Nat, p < n → Mt6 (nm6 o p) (nm6 f p) := fun p hp i hi => by
    show (o (121 + 6 * p + i)).toInt = (f (121 + 6 * p + i)).toInt
    rw [same _ (by omega) (by omega) (by omega) (by omega) (by omega)]
  have nn : Mt6 (nm6 o n) (pad lf lm) := fun i hi => en i hi
  refine ⟨⟨by rw [f0, o0]; exact e0, fun p hp => ?_, ?_, ?_, ?_, ?_, ?_⟩, fun p hp => ?_, fun k hk hk2 => ?_⟩
  · rw [f0] at hp
    have hp2 : p < n := by omega
    have w1 := (hG.1.2.1 p (by omega)).2.2.1
    refine ⟨?_, ?_, ?_, ?_, ?_, fun i hi => ?_⟩
    · rw [absR_lo (by omega), absR_lo (by omega), same _ (by omega) (by omega) (by omega) (by omega) (by omega)]
    · rw [absR_lo (by omega), absR_lo (by omega), same _ (by omega) (by omega) (by omega) (by omega) (by omega)]
    · rw [absR_lo (by omega), absR_lo (by omega), same _ (by omega) (by omega) (by omega) (by omega) (by omega)]
    · rw [absR_lo (by omega), absR_lo (by omega), same _ (by omega) (by omega) (by omega) (by omega) (by omega)]
    · rw [absR_n, absR_n, m6_cd (nm p hp2)]
    · rw [absR_lo (by omega)] at hi
      exact ⟨by rw [absR_lo (by omega), absR_lo (by omega), same _ (by omega) (by omega) (by omega) (by omega) (by omega)], by rw [absR_lo (by omega), absR_lo (by omega), same _ (by omega) (by omega) (by omega) (by omega) (by omega)]⟩
  · rw [hn', absR_lo (by omega)]; exact ek
  · rw [hn', absR_lo (by omega)]; exact ey
  · rw [hn', absR_lo (by omega), same _ (by omega) (by omega) (by omega) (by omega) (by omega)]
    exact (hG.2.1 n (by omega) (by omega)).2
  · rw [hn', absR_lo (by omega)]; exact eh
  · rw [hn', absR_n, m6_cd nn]; exact pad_cd hw
  · by_cases z : p < n
    · exact wf6_tr (nm p z) (hN p (by omega))
    · have : p = n := by omega
      subst this; exact wf6_tr nn (pad_wf hw)
  · rw [same _ (by omega) (by omega) (by omega) (by omega) (by omega)]
    exact hz k hk (by omega)
theorem absR_add2 {f F o lf : Nat → Int32} {lm : Int} {n a b : Nat} {c m w : Int32} (hG : GP f) (hN : NWF f) (hz : PZr f) (hw : WLF lf lm) (hn : n = (f 0).toInt.toNat) (h11 : n ≤ 11) (hF1 : ∀ j : Nat, j < 121 + 6 * n ∨ 121 + 6 * n + 6 ≤ j → F j = f j) (hF2 : ∀ j : Nat, j < 6 → (F (121 + 6 * n + j)).toInt = pad lf lm j) (ho : o = upd (upd (upd F a c) b m) 0 w) (ha : a = 1 + n) (hb : b = 109 + n) (hm : m.toInt = -1) (hw0 : w.toInt = (f 0).toInt + 1) : AddN (absR f) (absR o) c.toInt (wcd lf lm) 0 ∧ NWF o ∧ PZr o := by
  subst ha; subst hb
  refine absR_add hG hN hz hw hn h11 ?_ ?_ ?_ ?_ (fun j hj => ?_) (fun j j1 j2 j3 j4 j5 => ?_)
  · rw [ho, upd_at]; exact hw0
  · rw [ho, upd_ne _ _ (by omega), upd_ne _ _ (by omega), upd_at]
  · rw [ho, upd_ne _ _ (by omega), upd_ne _ _ (by omega), upd_ne _ _ (by omega), hF1 _ (by omega)]
    exact hz n (by omega) (by have := hG.1.1; omega)
  · rw [ho, upd_ne _ _ (by omega), upd_at]; exact hm
  · rw [ho, upd_ne _ _ (by omega), upd_ne _ _ (by omega), upd_ne _ _ (by omega)]; exact hF2 j hj
  · rw [ho, upd_ne _ _ j1, upd_ne _ _ j4, upd_ne _ _ j2]; exact hF1 j j5
theorem absR_add3 {f F o lf : Nat → Int32} {lm : Int} {n a b d : Nat} {c m v w : Int32} (hG : GP f) (hN : NWF f) (hz : PZr f) (hw : WLF lf lm) (hn : n = (f 0).toInt.toNat) (h11 : n ≤ 11) (hF1 : ∀ j : Nat, j < 121 + 6 * n ∨ 121 + 6 * n + 6 ≤ j → F j = f j) (hF2 : ∀ j : Nat, j < 6 → (F (121 + 6 * n + j)).toInt = pad lf lm j) (ho : o = upd (upd (upd (upd F a c) b m) d v) 0 w) (ha : a = 1 + n) (hb : b = 109 + n) (hd : d = 13 + n) (hm : m.toInt = -1) (hw0 : w.toInt = (f 0).toInt + 1) : AddN (absR f) (absR o) c.toInt (wcd lf lm) v.toInt ∧ NWF o ∧ PZr o := by
  subst ha; subst hb; subst hd
  refine absR_add hG hN hz hw hn h11 ?_ ?_ ?_ ?_ (fun j hj => ?_) (fun j j1 j2 j3 j4 j5 => ?_)
  · rw [ho, upd_at]; exact hw0
  · rw [ho, upd_ne _ _ (by omega), upd_ne _ _ (by omega), upd_ne _ _ (by omega), upd_at]
  · rw [ho, upd_ne _ _ (by omega), upd_at]
  · rw [ho, upd_ne _ _ (by omega), upd_ne _ _ (by omega), upd_at]; exact hm
  · rw [ho, upd_ne _ _ (by omega), upd_ne _ _ (by omega), upd_ne _ _ (by omega), upd_ne _ _ (by omega)]; exact hF2 j hj
  · rw [ho, upd_ne _ _ j1, upd_ne _ _ j3, upd_ne _ _ j4, upd_ne _ _ j2]; exact hF1 j j5
theorem absR_way {f o : Nat → Int32} {K V a b c : Nat} {r t w x : Int32} (hG : GP f) (hN : NWF f) (hz : PZr f) (r0 : 0 ≤ r.toInt) (r1 : r.toInt < (f 0).toInt) (hK : K = r.toInt.toNat) (hV : V = (f (25 + K)).toInt.toNat) (hV3 : (f (25 + K)).toInt < 3) (ho : o = upd (upd (upd f a t) b w) c x) (ha : a = 37 + 3 * K + V) (hb : b = 73 + 3 * K + V) (hc : c = 25 + K) (hx : x.toInt = (f (25 + K)).toInt + 1) : AddW (absR f) (absR o) r.toInt t.toInt w.toInt ∧ NWF o ∧ PZr o := by
  subst ha; subst hb; subst hc
  have g0 := hG.1.1
  have K12 : K < 12 := by omega
  have w0 := (hG.1.2.1 K K12).2.2.1
  have same : ∀ j : Nat, j ≠ 37 + 3 * K + V → j ≠ 73 + 3 * K + V → j ≠ 25 + K → o j = f j := fun j h1 h2 h3 => by rw [ho, upd_ne _ _ h3, upd_ne _ _ h2, upd_ne _ _ h1]
  have f0 : absR f 0 = (f 0).toInt := absR_lo (by decide)
  have o0 : absR o 0 = (o 0).toInt := absR_lo (by decide)
  have e0 : o 0 = f 0 := same 0 (by omega) (by omega) (by omega)
  have nm : ∀ p : Nat, Mt6 (nm6 o p) (nm6 f p) := fun p i hi => by
    show (o (121 + 6 * p + i)).toInt = (f (121 + 6 * p + i)).toInt
    rw [same _ (by omega) (by omega) (by omega)]
  have rn : r.toInt.toNat = K := hK.symm
  refine ⟨⟨by rw [f0, o0, e0], r0, by rw [f0]; exact r1, ?_, fun p hp hne => ?_, ?_, ?_, ?_, ?_, ?_, fun i hi => ?_, ?_, ?_⟩, fun p hp => wf6_tr (nm p) (hN p (by rw [← e0]; exact hp)), fun k hk hk2 => ?_⟩
  · rw [rn, absR_lo (by omega)]; omega
  · rw [f0] at hp
    have w1 := (hG.1.2.1 p (by omega)).2.2.1
    refine ⟨?_, ?_, ?_, ?_, ?_, fun i hi => ?_⟩
    · rw [absR_lo (by omega), absR_lo (by omega), same _ (by omega) (by omega) (by omega)]
    · rw [absR_lo (by omega), absR_lo (by omega), same _ (by omega) (by omega) (by omega)]
    · rw [absR_lo (by omega), absR_lo (by omega), same _ (by omega) (by omega) (by omega)]
    · rw [absR_lo (by omega), absR_lo (by omega), same _ (by omega) (by omega) (by omega)]
    · rw [absR_n, absR_n, m6_cd (nm p)]
    · rw [absR_lo (by omega)] at hi
      exact ⟨by rw [absR_lo (by omega), absR_lo (by omega), same _ (by omega) (by omega) (by omega)], by rw [absR_lo (by omega), absR_lo (by omega), same _ (by omega) (by omega) (by omega)]⟩
  · rw [rn, absR_lo (by omega), absR_lo (by omega), same _ (by omega) (by omega) (by omega)]
  · rw [rn, absR_lo (by omega), absR_lo (by omega), same _ (by omega) (by omega) (by omega)]
  · rw [rn, absR_lo (by omega), absR_lo (by omega), same _ (by omega) (by omega) (by omega)]
  · rw [rn, absR_n, absR_n, m6_cd (nm K)]
  · rw [rn, absR_lo (by omega), absR_lo (by omega), ho, upd_at]; exact hx
  · rw [rn, absR_lo (by omega)] at hi
    rw [rn]
    exact ⟨by rw [absR_lo (by omega), absR_lo (by omega), same _ (by omega) (by omega) (by omega)], by rw [absR_lo (by omega), absR_lo (by omega), same _ (by omega) (by omega) (by omega)]⟩
  · rw [rn, absR_lo (j := 25 + K) (by omega), ← hV, absR_lo (by omega), ho, upd_ne _ _ (by omega), upd_ne _ _ (by omega), upd_at]
  · rw [rn, absR_lo (j := 25 + K) (by omega), ← hV, absR_lo (by omega), ho, upd_ne _ _ (by omega), upd_at]
  · rw [same _ (by omega) (by omega) (by omega)]
    exact hz k hk (by rw [← e0]; exact hk2)
theorem absR_full {f : Nat → Int32} {c : Int} (hG : GP f) : FULL (absR f) c ↔ ((c = 0 ∧ gc f 0 (f 0).toInt.toNat = 4) ∨ (c ≠ 0 ∧ ((f 0).toInt - gc f 0 (f 0).toInt.toNat = 8 ∨ (c = 3 ∧ gc f 3 (f 0).toInt.toNat = 5)))) := by
  have g0 := hG.1.1
  have f0 : absR f 0 = (f 0).toInt := absR_lo (by decide)
  have e : ∀ z : Int, cn (absR f) z (f 0).toInt.toNat = gc f z (f 0).toInt.toNat := fun z => by rw [absR_cn (by omega), gc_cnf]
  have b0 := hG.2.2.2.2.2.2.1
  have b1 := hG.2.2.2.2.2.2.2.1
  have b3 := hG.2.2.2.2.2.2.2.2
  unfold FULL
  rw [f0, e 0, e 3]
  omega
theorem absR_lack {f : Nat → Int32} (hG : GP f) : LACK (absR f) ↔ ∃ p : Nat, (p : Int) < (f 0).toInt ∧ (f (1 + p)).toInt ≠ 0 ∧ (f (25 + p)).toInt = 0 := by
  have g0 := hG.1.1
  have f0 : absR f 0 = (f 0).toInt := absR_lo (by decide)
  unfold LACK
  rw [f0]
  constructor
  · rintro ⟨p, a, b, c⟩
    exact ⟨p, a, by rw [absR_lo (by omega)] at b; exact b, by rw [absR_lo (by omega)] at c; exact c⟩
  · rintro ⟨p, a, b, c⟩
    exact ⟨p, a, by rw [absR_lo (by omega)]; exact b, by rw [absR_lo (by omega)]; exact c⟩
/-- what the token tells, in the reference -/
def TV (t v num lm : Int) (lf : Nat → Int32) : Prop := (t = 1 → WLF lf lm ∧ v = wcd lf lm) ∧ (t = 2 → v = num)
theorem hl_upd {lf lf' : Nat → Int32} {j x i : Nat} {v : Int32} {c : Int} (e : lf' = upd lf i v) (hi : i = x - j) (hj : j ≤ x) (hv : v.toInt = c) : ∀ k : Nat, k < 6 → j + k ≤ x → (lf' k).toInt = if j + k = x then c else (lf k).toInt := fun k _ hk => by
  rw [e]
  by_cases z : j + k = x
  · have : k = i := by omega
    rw [if_pos z, this, upd_at]; exact hv
  · rw [if_neg z, upd_ne _ _ (by omega)]
theorem hl_same {lf : Nat → Int32} {j x : Nat} {c : Int} (h6 : 6 ≤ x - j) : ∀ k : Nat, k < 6 → j + k ≤ x → (lf k).toInt = if j + k = x then c else (lf k).toInt := fun k hk _ => by
  rw [if_neg (by omega)]
theorem game_same {g : Nat → Int} {z r s : Int} (h : (∃ P : Int, RFl g z P ∧ r = -1000 - P) ∨ (∃ a : Nat → Int, ROk g z a ∧ r = a 0)) (k : (∃ P : Int, RFl g z P ∧ s = -1000 - P) ∨ (∃ a : Nat → Int, ROk g z a ∧ s = a 0)) : r = s := by
  rcases h with ⟨P, h1, h2⟩ | ⟨a, h1, h2⟩
  · rcases k with ⟨Q, k1, k2⟩ | ⟨b, k1, k2⟩
    · rw [h2, k2, h1.det k1]
    · exact (k1.no h1).elim
  · rcases k with ⟨Q, k1, k2⟩ | ⟨b, k1, k2⟩
    · exact (h1.no k1).elim
    · rw [h2, k2, (h1.det k1).1]
theorem all_nx {P : Nat → Prop} {i j : Nat} (h : ∀ k : Nat, k < i → P k) (hi : P i) (e : j = i + 1) : ∀ k : Nat, k < j → P k := fun k hk => by
  rcases Nat.lt_or_ge k i with z | z
  · exact h k z
  · have : k = i := by omega
    subst this; exact hi
theorem nar_byte (x : Int32) : vp_nar .byte x = x.toInt8.toInt32 := rfl
