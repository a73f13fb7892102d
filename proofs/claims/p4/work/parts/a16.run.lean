/-! a run of letters and digits, as both readers go through it -/
theorem bg_cl {f : Nat → Int32} {z : Int} {k : Nat} {v : Int} (hf : ∀ j : Nat, 0 ≤ (f j).toInt ∧ (f j).toInt ≤ 255) (e : v = (f k).toInt) (h : (k : Int) < z) : bg f z k = v := by
  rw [bg_in h, e]; have := hf k; omega
def RNI (g : Nat → Int) (j x : Nat) (L D V : Int) : Prop := j ≤ x ∧ (∀ k : Nat, j ≤ k → k < x → ltr (g k) ∨ dgt (g k)) ∧ 0 ≤ L ∧ 0 ≤ D ∧ L + D = (x : Int) - j ∧ (D = 0 → ALt g j x) ∧ (D ≠ 0 → ¬ ALt g j x) ∧ (L = 0 → ADg g j x) ∧ (L ≠ 0 → ¬ ADg g j x) ∧ (D = 0 → x - j ≤ 6 → V = pk g j (x - j)) ∧ (L = 0 → x - j ≤ 2 → V = nmb g j (x - j))
theorem RNI.zero {g : Nat → Int} {j x : Nat} {L D V : Int} (hx : x = j) (hL : L = 0) (hD : D = 0) (hV : V = 0) : RNI g j x L D V := by
  subst hx; subst hL; subst hD; subst hV
  refine ⟨Nat.le_refl _, fun k h1 h2 => by omega, by omega, by omega, by omega, fun _ k h1 h2 => by omega, fun h => absurd rfl h, fun _ k h1 h2 => by omega, fun h => absurd rfl h, fun _ _ => ?_, fun _ _ => ?_⟩
  · rw [Nat.sub_self]; rfl
  · rw [Nat.sub_self]; rfl
theorem RNI.rng {g : Nat → Int} {j x : Nat} {L D V : Int} (h : RNI g j x L D V) : j ≤ x ∧ 0 ≤ L ∧ 0 ≤ D ∧ L + D = (x : Int) - j := ⟨h.1, h.2.2.1, h.2.2.2.1, h.2.2.2.2.1⟩
theorem RNI.bd {g : Nat → Int} {j x : Nat} {L D V : Int} (h : RNI g j x L D V) (hD : D = 0) (hx : x - j ≤ 5) : 0 ≤ V ∧ V ≤ 14348906 := by
  have e := h.2.2.2.2.2.2.2.2.2.1 hD (by omega)
  have a := h.2.2.2.2.2.1 hD
  have hl : ∀ k : Nat, k < x - j → ltr (g (j + k)) := fun k hk => a (j + k) (by omega) (by omega)
  have h0 := pk_nn hl
  have h1 := pk_lt7 hl
  have h2 : (27 : Int) ^ (x - j) ≤ 14348907 := by
    rcases (show x - j = 0 ∨ x - j = 1 ∨ x - j = 2 ∨ x - j = 3 ∨ x - j = 4 ∨ x - j = 5 by omega) with q | q | q | q | q | q <;> rw [q] <;> decide
  omega
theorem RNI.bd2 {g : Nat → Int} {j x : Nat} {L D V : Int} (h : RNI g j x L D V) (hL : L = 0) (hx : x - j ≤ 1) : 0 ≤ V ∧ V ≤ 9 := by
  have e := h.2.2.2.2.2.2.2.2.2.2 hL (by omega)
  have a := h.2.2.2.2.2.2.2.1 hL
  rcases (show x - j = 0 ∨ x - j = 1 by omega) with q | q
  · rw [q] at e
    have e' : V = 0 := e
    omega
  · rw [q] at e
    have e' : V = 0 * 10 + (g (j + 0) - 48) := e
    have b := a (j + 0) (by omega) (by omega)
    unfold dgt at b; omega
theorem RNI.letter {g : Nat → Int} {j x y : Nat} {L D V L' V' : Int} (h : RNI g j x L D V) (hy : y = x + 1) (hc : ltr (g x)) (hL : L' = L + 1) (hV : D = 0 → x - j ≤ 5 → V' = V * 27 + (g x - 96)) : RNI g j y L' D V' := by
  obtain ⟨h1, h2, h3, h4, h5, h6, h7, h8, h9, h10, h11⟩ := h
  subst hy; subst hL
  refine ⟨by omega, fun k k1 k2 => ?_, by omega, h4, by omega, fun q k k1 k2 => ?_, fun q r => h7 q (fun k k1 k2 => r k k1 (by omega)), fun q => by omega, fun _ r => ?_, fun q w => ?_, fun q => by omega⟩
  · rcases Nat.lt_or_ge k x with z | z
    · exact h2 k k1 z
    · have : k = x := by omega
      subst this; exact Or.inl hc
  · rcases Nat.lt_or_ge k x with z | z
    · exact h6 q k k1 z
    · have : k = x := by omega
      subst this; exact hc
  · have b := r x h1 (by omega)
    unfold ltr at hc; unfold dgt at b; omega
  · have e := h10 q (by omega)
    have n : x + 1 - j = (x - j) + 1 := by omega
    have n2 : j + (x - j) = x := by omega
    rw [n, pk_succ, n2, ← e]
    exact hV q (by omega)
theorem RNI.digit {g : Nat → Int} {j x y : Nat} {L D V D' V' : Int} (h : RNI g j x L D V) (hy : y = x + 1) (hc : dgt (g x)) (hD : D' = D + 1) (hV : L = 0 → x - j ≤ 1 → V' = V * 10 + (g x - 48)) : RNI g j y L D' V' := by
  obtain ⟨h1, h2, h3, h4, h5, h6, h7, h8, h9, h10, h11⟩ := h
  subst hy; subst hD
  refine ⟨by omega, fun k k1 k2 => ?_, h3, by omega, by omega, fun q => by omega, fun _ r => ?_, fun q k k1 k2 => ?_, fun q r => h9 q (fun k k1 k2 => r k k1 (by omega)), fun q => by omega, fun q w => ?_⟩
  · rcases Nat.lt_or_ge k x with z | z
    · exact h2 k k1 z
    · have : k = x := by omega
      subst this; exact Or.inr hc
  · have b := r x h1 (by omega)
    unfold ltr at b; unfold dgt at hc; omega
  · rcases Nat.lt_or_ge k x with z | z
    · exact h8 q k k1 z
    · have : k = x := by omega
      subst this; exact hc
  · have e := h11 q (by omega)
    have n : x + 1 - j = (x - j) + 1 := by omega
    have n2 : j + (x - j) = x := by omega
    rw [n, nmb_succ, n2, ← e]
    exact hV q (by omega)
/-- what a run tells -/
def RUT (g : Nat → Int) (j : Nat) (t : Int) (e : Nat) (v : Int) : Prop := RUn g j e ∧ ((ALt g j e ∧ e - j ≤ 6 ∧ t = 1 ∧ v = pk g j (e - j)) ∨ (ADg g j e ∧ e - j ≤ 2 ∧ t = 2 ∧ v = nmb g j (e - j)) ∨ (¬ (ALt g j e ∧ e - j ≤ 6) ∧ ¬ (ADg g j e ∧ e - j ≤ 2) ∧ t = 4))
theorem RNI.word {g : Nat → Int} {j x : Nat} {L D V t : Int} (h : RNI g j x L D V) (hs : ¬ (ltr (g x) ∨ dgt (g x))) (hD : D = 0) (hL : L ≤ 6) (ht : t = 1) : RUT g j t x V := by
  obtain ⟨h1, h2, h3, h4, h5, h6, h7, h8, h9, h10, h11⟩ := h
  exact ⟨⟨h1, h2, hs⟩, Or.inl ⟨h6 hD, by omega, ht, h10 hD (by omega)⟩⟩
theorem RNI.number {g : Nat → Int} {j x : Nat} {L D V t : Int} (h : RNI g j x L D V) (hs : ¬ (ltr (g x) ∨ dgt (g x))) (hL : L = 0) (hD : D ≤ 2) (ht : t = 2) : RUT g j t x V := by
  obtain ⟨h1, h2, h3, h4, h5, h6, h7, h8, h9, h10, h11⟩ := h
  exact ⟨⟨h1, h2, hs⟩, Or.inr (Or.inl ⟨h8 hL, by omega, ht, h11 hL (by omega)⟩)⟩
theorem RNI.wrong {g : Nat → Int} {j x : Nat} {L D V t : Int} (h : RNI g j x L D V) (hs : ¬ (ltr (g x) ∨ dgt (g x))) (n1 : ¬ (D = 0 ∧ L ≤ 6)) (n2 : ¬ (L = 0 ∧ D ≤ 2)) (ht : t = 4) : RUT g j t x V := by
  obtain ⟨h1, h2, h3, h4, h5, h6, h7, h8, h9, h10, h11⟩ := h
  refine ⟨⟨h1, h2, hs⟩, Or.inr (Or.inr ⟨fun q => ?_, fun q => ?_, ht⟩)⟩
  · by_cases d : D = 0
    · exact n1 ⟨d, by omega⟩
    · exact h7 d q.1
  · by_cases d : L = 0
    · exact n2 ⟨d, by omega⟩
    · exact h9 d q.1
theorem tk_none {g : Nat → Int} {i j e : Nat} {t v : Int} (s : SKp g i j) (h : g j = -1) (ht : t = 0) (he : e = j) : TK g i t j e v := ⟨s, Or.inl ⟨h, ht, he⟩⟩
theorem tk_semi {g : Nat → Int} {i j e : Nat} {t v : Int} (s : SKp g i j) (h : g j = 59) (ht : t = 3) (he : e = j + 1) : TK g i t j e v := ⟨s, Or.inr (Or.inl ⟨h, ht, he⟩)⟩
theorem tk_wrong {g : Nat → Int} {i j e : Nat} {t v : Int} (s : SKp g i j) (h1 : g j ≠ -1) (h2 : g j ≠ 59) (h3 : ¬ ltr (g j)) (h4 : ¬ dgt (g j)) (ht : t = 4) : TK g i t j e v := ⟨s, Or.inr (Or.inr (Or.inl ⟨h1, h2, h3, h4, ht⟩))⟩
theorem tk_run {g : Nat → Int} {i j e : Nat} {t v : Int} (s : SKp g i j) (h : ltr (g j) ∨ dgt (g j)) (r : RUT g j t e v) : TK g i t j e v := by
  refine ⟨s, Or.inr (Or.inr (Or.inr ⟨h, e, r.1, ?_⟩))⟩
  rcases r.2 with ⟨a, b, c, d⟩ | ⟨a, b, c, d⟩ | ⟨a, b, c⟩
  · exact Or.inl ⟨a, b, c, rfl, d⟩
  · exact Or.inr (Or.inl ⟨a, b, c, rfl, d⟩)
  · exact Or.inr (Or.inr ⟨a, b, c⟩)
/-- spaces are passed over -/
def SKI (g : Nat → Int) (i x : Nat) : Prop := i ≤ x ∧ ∀ k : Nat, i ≤ k → k < x → g k = 32
theorem SKI.zero {g : Nat → Int} {i x : Nat} (h : x = i) : SKI g i x := by
  subst h; exact ⟨Nat.le_refl _, fun k h1 h2 => by omega⟩
theorem SKI.on {g : Nat → Int} {i x y : Nat} (h : SKI g i x) (hc : g x = 32) (hy : y = x + 1) : SKI g i y := by
  subst hy
  refine ⟨by have := h.1; omega, fun k h1 h2 => ?_⟩
  rcases Nat.lt_or_ge k x with z | z
  · exact h.2 k h1 z
  · have : k = x := by omega
    subst this; exact hc
theorem SKI.fin {g : Nat → Int} {i x : Nat} (h : SKI g i x) (hc : g x ≠ 32) : SKp g i x := ⟨h.1, h.2, hc⟩
theorem tv27 {V m b t : Int32} (hm : m = V * 27) (ht : t = m + b) (h0 : 0 ≤ V.toInt) (h1 : V.toInt ≤ 14348906) (b0 : -100 ≤ b.toInt) (b1 : b.toInt ≤ 300) : t.toInt = V.toInt * 27 + b.toInt := by
  have e : (27 : Int32).toInt = 27 := by decide
  have e1 : (V * 27).toInt = V.toInt * 27 := by
    rw [Int32.toInt_mul, e]
    exact tr_bmod (by omega) (by omega)
  rw [ht, hm, Int32.toInt_add, e1]
  exact tr_bmod (by omega) (by omega)
theorem tv10 {V m b t : Int32} (hm : m = V * 10) (ht : t = m + b) (h0 : 0 ≤ V.toInt) (h1 : V.toInt ≤ 14348906) (b0 : -100 ≤ b.toInt) (b1 : b.toInt ≤ 300) : t.toInt = V.toInt * 10 + b.toInt := by
  have e : (10 : Int32).toInt = 10 := by decide
  have e1 : (V * 10).toInt = V.toInt * 10 := by
    rw [Int32.toInt_mul, e]
    exact tr_bmod (by omega) (by omega)
  rw [ht, hm, Int32.toInt_add, e1]
  exact tr_bmod (by omega) (by omega)
/-! the ways through a line, one by one -/
theorem nok_in {g : Nat → Int} {e : Nat} {a a' : Nat → Int} {k : Int} {t1 : Int} {j1 e1 : Nat} {v1 : Int} {t2 : Int} {j2 e2 : Nat} {v2 : Int} (nf : ¬ FULL a k) (h1 : TK g e t1 j1 e1 v1) (n1 : NMC t1 v1) {r : Int} (fd : FDn a v1 r) (hr : r = -1) (h2 : TK g e1 t2 j2 e2 v2) (k0 : k ≠ 0) (ad : AddN a a' k v1 0) : NOk g e a k a' t2 j2 e2 v2 := by
  refine ⟨nf, t1, j1, e1, v1, h1, n1, ?_, t2, j2, e2, v2, h2, Or.inl ⟨k0, ad, h2⟩⟩
  rcases fd with ⟨q, _⟩ | ⟨_, q⟩
  · omega
  · exact q
theorem nok_end {g : Nat → Int} {e : Nat} {a a' : Nat → Int} {k : Int} {t1 : Int} {j1 e1 : Nat} {v1 : Int} {t2 : Int} {j2 e2 : Nat} {v2 : Int} {t3 : Int} {j3 e3 : Nat} {v3 : Int} (nf : ¬ FULL a k) (h1 : TK g e t1 j1 e1 v1) (n1 : NMC t1 v1) {r : Int} (fd : FDn a v1 r) (hr : r = -1) (h2 : TK g e1 t2 j2 e2 v2) (k0 : k = 0) (t0 : t2 = 2) (v0 : v2 ≤ 9) (h3 : TK g e2 t3 j3 e3 v3) (ad : AddN a a' 0 v1 v2) : NOk g e a k a' t3 j3 e3 v3 := by
  refine ⟨nf, t1, j1, e1, v1, h1, n1, ?_, t2, j2, e2, v2, h2, Or.inr ⟨k0, t0, v0, h3, ad⟩⟩
  rcases fd with ⟨q, _⟩ | ⟨_, q⟩
  · omega
  · exact q
theorem nfl_full {g : Nat → Int} {pl e : Nat} {a : Nat → Int} {k P : Int} (h : FULL a k) (hP : P = pl) : NFl g pl e a k P := Or.inl ⟨h, hP⟩
theorem nfl_name {g : Nat → Int} {pl e : Nat} {a : Nat → Int} {k P : Int} {t1 : Int} {j1 e1 : Nat} {v1 : Int} (nf : ¬ FULL a k) (h1 : TK g e t1 j1 e1 v1) (n1 : ¬ NMC t1 v1) (hP : P = j1) : NFl g pl e a k P := Or.inr ⟨nf, t1, j1, e1, v1, h1, Or.inl ⟨n1, hP⟩⟩
theorem nfl_twice {g : Nat → Int} {pl e : Nat} {a : Nat → Int} {k P : Int} {t1 : Int} {j1 e1 : Nat} {v1 : Int} (nf : ¬ FULL a k) (h1 : TK g e t1 j1 e1 v1) (n1 : NMC t1 v1) {r : Int} (fd : FDn a v1 r) (hr : r ≠ -1) (hP : P = j1) : NFl g pl e a k P := by
  refine Or.inr ⟨nf, t1, j1, e1, v1, h1, Or.inr (Or.inl ⟨n1, ?_, hP⟩)⟩
  rcases fd with ⟨q, w, x, _⟩ | ⟨q, _⟩
  · exact ⟨r.toNat, by omega, x⟩
  · exact absurd q hr
theorem nfl_pay {g : Nat → Int} {pl e : Nat} {a : Nat → Int} {k P : Int} {t1 : Int} {j1 e1 : Nat} {v1 : Int} {t2 : Int} {j2 e2 : Nat} {v2 : Int} (nf : ¬ FULL a k) (h1 : TK g e t1 j1 e1 v1) (n1 : NMC t1 v1) {r : Int} (fd : FDn a v1 r) (hr : r = -1) (k0 : k = 0) (h2 : TK g e1 t2 j2 e2 v2) (h : t2 ≠ 2 ∨ 9 < v2) (hP : P = j2) : NFl g pl e a k P := by
  refine Or.inr ⟨nf, t1, j1, e1, v1, h1, Or.inr (Or.inr ⟨n1, ?_, k0, t2, j2, e2, v2, h2, h, hP⟩)⟩
  rcases fd with ⟨q, _⟩ | ⟨_, q⟩
  · omega
  · exact q
/-- a way's first half and its second half -/
def WS1 (g : Nat → Int) (e : Nat) (a : Nat → Int) (r t : Int) (j e' : Nat) (v : Int) : Prop := TK g e t j e' v ∧ NMC t v ∧ FDn a v r ∧ 0 ≤ r ∧ a (1 + r.toNat) ≠ 0 ∧ a (25 + r.toNat) < 3
def WT1 (g : Nat → Int) (e1 : Nat) (a : Nat → Int) (r1 : Int) (a' : Nat → Int) (t' : Int) (j' e' : Nat) (v' : Int) : Prop :=
  ∃ (t2 : Int) (j2 e2 : Nat) (v2 r2 : Int), TK g e1 t2 j2 e2 v2 ∧ NMC t2 v2 ∧ FDn a v2 r2 ∧ 0 ≤ r2 ∧
  ∃ (t3 : Int) (j3 e3 : Nat) (v3 : Int), TK g e2 t3 j3 e3 v3 ∧
    ((a (1 + r1.toNat) = 3 ∧ t3 = 2 ∧ 1 ≤ v3 ∧ v3 ≤ 3 ∧ wsum a r1.toNat (a (25 + r1.toNat)).toNat + v3 ≤ 4 ∧ TK g e3 t' j' e' v' ∧ AddW a a' r1 r2 v3) ∨
     (a (1 + r1.toNat) = 3 ∧ t3 ≠ 2 ∧ wsum a r1.toNat (a (25 + r1.toNat)).toNat < 4 ∧ TK g e2 t' j' e' v' ∧ AddW a a' r1 r2 1) ∨
     (a (1 + r1.toNat) ≠ 3 ∧ TK g e2 t' j' e' v' ∧ AddW a a' r1 r2 1))
def WTF (g : Nat → Int) (e1 : Nat) (a : Nat → Int) (r1 P : Int) : Prop :=
  ∃ (t2 : Int) (j2 e2 : Nat) (v2 : Int), TK g e1 t2 j2 e2 v2 ∧ ((¬ NMC t2 v2 ∧ P = j2) ∨ (NMC t2 v2 ∧ ∃ r2 : Int, FDn a v2 r2 ∧ ((r2 < 0 ∧ P = j2) ∨ (0 ≤ r2 ∧
  ∃ (t3 : Int) (j3 e3 : Nat) (v3 : Int), TK g e2 t3 j3 e3 v3 ∧
    ((a (1 + r1.toNat) = 3 ∧ t3 = 2 ∧ ¬ (1 ≤ v3 ∧ v3 ≤ 3 ∧ wsum a r1.toNat (a (25 + r1.toNat)).toNat + v3 ≤ 4) ∧ P = j3) ∨
     (a (1 + r1.toNat) = 3 ∧ t3 ≠ 2 ∧ 4 ≤ wsum a r1.toNat (a (25 + r1.toNat)).toNat ∧ P = j2) ∨
     (a (1 + r1.toNat) ≠ 3 ∧ t3 = 2 ∧ P = j3))))))
theorem wok_of {g : Nat → Int} {e : Nat} {a a' : Nat → Int} {r t1 : Int} {j1 e1 : Nat} {v1 t' : Int} {j' e' : Nat} {v' : Int} (h : WS1 g e a r t1 j1 e1 v1) (q : WT1 g e1 a r a' t' j' e' v') : WyOk g e a a' t' j' e' v' := ⟨t1, j1, e1, v1, r, h.1, h.2.1, h.2.2.1, h.2.2.2.1, h.2.2.2.2.1, h.2.2.2.2.2, q⟩
theorem wfl_of {g : Nat → Int} {e : Nat} {a : Nat → Int} {r t1 : Int} {j1 e1 : Nat} {v1 P : Int} (h : WS1 g e a r t1 j1 e1 v1) (q : WTF g e1 a r P) : WFl g e a P := ⟨t1, j1, e1, v1, h.1, Or.inr ⟨h.2.1, r, h.2.2.1, Or.inr ⟨h.2.2.2.1, h.2.2.2.2.1, h.2.2.2.2.2, q⟩⟩⟩
theorem wfl_name {g : Nat → Int} {e : Nat} {a : Nat → Int} {t1 : Int} {j1 e1 : Nat} {v1 P : Int} (h1 : TK g e t1 j1 e1 v1) (n1 : ¬ NMC t1 v1) (hP : P = j1) : WFl g e a P := ⟨t1, j1, e1, v1, h1, Or.inl ⟨n1, hP⟩⟩
theorem wfl_from {g : Nat → Int} {e : Nat} {a : Nat → Int} {t1 : Int} {j1 e1 : Nat} {v1 P r : Int} (h1 : TK g e t1 j1 e1 v1) (n1 : NMC t1 v1) (fd : FDn a v1 r) (h : r < 0 ∨ a (1 + r.toNat) = 0 ∨ 3 ≤ a (25 + r.toNat)) (hP : P = j1) : WFl g e a P := ⟨t1, j1, e1, v1, h1, Or.inr ⟨n1, r, fd, Or.inl ⟨h, hP⟩⟩⟩
theorem wtf_name {g : Nat → Int} {e : Nat} {a : Nat → Int} {r t2 : Int} {j2 e2 : Nat} {v2 P : Int} (h : TK g e t2 j2 e2 v2) (n : ¬ NMC t2 v2) (hP : P = j2) : WTF g e a r P := ⟨t2, j2, e2, v2, h, Or.inl ⟨n, hP⟩⟩
theorem wtf_to {g : Nat → Int} {e : Nat} {a : Nat → Int} {r t2 : Int} {j2 e2 : Nat} {v2 P r2 : Int} (h : TK g e t2 j2 e2 v2) (n : NMC t2 v2) (fd : FDn a v2 r2) (h0 : r2 < 0) (hP : P = j2) : WTF g e a r P := ⟨t2, j2, e2, v2, h, Or.inr ⟨n, r2, fd, Or.inl ⟨h0, hP⟩⟩⟩
/-- all that a chance node has is given out: one way or the other, the fault is at the second name -/
theorem wtf_all {g : Nat → Int} {e : Nat} {a : Nat → Int} {r t2 : Int} {j2 e2 : Nat} {v2 P r2 : Int} {t3 : Int} {j3 e3 : Nat} {v3 : Int} (h : TK g e t2 j2 e2 v2) (n : NMC t2 v2) (fd : FDn a v2 r2) (h3 : TK g e2 t3 j3 e3 v3) (kc : a (1 + r.toNat) = 3) (t0 : t3 ≠ 2) (ws : 4 ≤ wsum a r.toNat (a (25 + r.toNat)).toNat) (hP : P = j2) : WTF g e a r P := by
  by_cases h0 : r2 < 0
  · exact wtf_to h n fd h0 hP
  · exact ⟨t2, j2, e2, v2, h, Or.inr ⟨n, r2, fd, Or.inr ⟨by omega, t3, j3, e3, v3, h3, Or.inr (Or.inl ⟨kc, t0, ws, hP⟩)⟩⟩⟩
theorem wtf_weight {g : Nat → Int} {e : Nat} {a : Nat → Int} {r t2 : Int} {j2 e2 : Nat} {v2 P r2 : Int} {t3 : Int} {j3 e3 : Nat} {v3 : Int} (h : TK g e t2 j2 e2 v2) (n : NMC t2 v2) (fd : FDn a v2 r2) (h0 : 0 ≤ r2) (h3 : TK g e2 t3 j3 e3 v3) (kc : a (1 + r.toNat) = 3) (t0 : t3 = 2) (ws : ¬ (1 ≤ v3 ∧ v3 ≤ 3 ∧ wsum a r.toNat (a (25 + r.toNat)).toNat + v3 ≤ 4)) (hP : P = j3) : WTF g e a r P := ⟨t2, j2, e2, v2, h, Or.inr ⟨n, r2, fd, Or.inr ⟨h0, t3, j3, e3, v3, h3, Or.inl ⟨kc, t0, ws, hP⟩⟩⟩⟩
theorem wtf_sure {g : Nat → Int} {e : Nat} {a : Nat → Int} {r t2 : Int} {j2 e2 : Nat} {v2 P r2 : Int} {t3 : Int} {j3 e3 : Nat} {v3 : Int} (h : TK g e t2 j2 e2 v2) (n : NMC t2 v2) (fd : FDn a v2 r2) (h0 : 0 ≤ r2) (h3 : TK g e2 t3 j3 e3 v3) (kc : a (1 + r.toNat) ≠ 3) (t0 : t3 = 2) (hP : P = j3) : WTF g e a r P := ⟨t2, j2, e2, v2, h, Or.inr ⟨n, r2, fd, Or.inr ⟨h0, t3, j3, e3, v3, h3, Or.inr (Or.inr ⟨kc, t0, hP⟩)⟩⟩⟩
theorem wt_weight {g : Nat → Int} {e : Nat} {a a' : Nat → Int} {r t2 : Int} {j2 e2 : Nat} {v2 r2 : Int} {t3 : Int} {j3 e3 : Nat} {v3 t' : Int} {j' e' : Nat} {v' : Int} (h : TK g e t2 j2 e2 v2) (n : NMC t2 v2) (fd : FDn a v2 r2) (h0 : 0 ≤ r2) (h3 : TK g e2 t3 j3 e3 v3) (kc : a (1 + r.toNat) = 3) (t0 : t3 = 2) (v0 : 1 ≤ v3) (v1 : v3 ≤ 3) (ws : wsum a r.toNat (a (25 + r.toNat)).toNat + v3 ≤ 4) (h4 : TK g e3 t' j' e' v') (ad : AddW a a' r r2 v3) : WT1 g e a r a' t' j' e' v' := ⟨t2, j2, e2, v2, r2, h, n, fd, h0, t3, j3, e3, v3, h3, Or.inl ⟨kc, t0, v0, v1, ws, h4, ad⟩⟩
theorem wt_one {g : Nat → Int} {e : Nat} {a a' : Nat → Int} {r t2 : Int} {j2 e2 : Nat} {v2 r2 : Int} {t3 : Int} {j3 e3 : Nat} {v3 : Int} (h : TK g e t2 j2 e2 v2) (n : NMC t2 v2) (fd : FDn a v2 r2) (h0 : 0 ≤ r2) (h3 : TK g e2 t3 j3 e3 v3) (kc : a (1 + r.toNat) = 3) (t0 : t3 ≠ 2) (ws : wsum a r.toNat (a (25 + r.toNat)).toNat < 4) (ad : AddW a a' r r2 1) : WT1 g e a r a' t3 j3 e3 v3 := ⟨t2, j2, e2, v2, r2, h, n, fd, h0, t3, j3, e3, v3, h3, Or.inr (Or.inl ⟨kc, t0, ws, h3, ad⟩)⟩
theorem wt_sure {g : Nat → Int} {e : Nat} {a a' : Nat → Int} {r t2 : Int} {j2 e2 : Nat} {v2 r2 : Int} {t3 : Int} {j3 e3 : Nat} {v3 : Int} (h : TK g e t2 j2 e2 v2) (n : NMC t2 v2) (fd : FDn a v2 r2) (h0 : 0 ≤ r2) (h3 : TK g e2 t3 j3 e3 v3) (kc : a (1 + r.toNat) ≠ 3) (ad : AddW a a' r r2 1) : WT1 g e a r a' t3 j3 e3 v3 := ⟨t2, j2, e2, v2, r2, h, n, fd, h0, t3, j3, e3, v3, h3, Or.inr (Or.inr ⟨kc, h3, ad⟩)⟩
theorem lok_node {g : Nat → Int} {t : Int} {j e : Nat} {v : Int} {a : Nat → Int} {k t1 : Int} {j1 e1 : Nat} {v1 t' : Int} {j' e' : Nat} {v' : Int} {a' : Nat → Int} (ht : t = 1) (hk : kd v = k) (k0 : 0 ≤ k) (k1 : k ≤ 3) (n : NOk g e a k a' t1 j1 e1 v1) (t3 : t1 = 3) (h : TK g e1 t' j' e' v') : LOk g t j e v a t' j' e' v' a' := by
  subst hk; exact ⟨ht, t1, j1, e1, v1, Or.inl ⟨k0, k1, n⟩, t3, h⟩
theorem lok_way {g : Nat → Int} {t : Int} {j e : Nat} {v : Int} {a : Nat → Int} {t1 : Int} {j1 e1 : Nat} {v1 t' : Int} {j' e' : Nat} {v' : Int} {a' : Nat → Int} (ht : t = 1) (hk : kd v = 4) (n : WyOk g e a a' t1 j1 e1 v1) (t3 : t1 = 3) (h : TK g e1 t' j' e' v') : LOk g t j e v a t' j' e' v' a' := ⟨ht, t1, j1, e1, v1, Or.inr ⟨hk, n⟩, t3, h⟩
theorem lfl_word {g : Nat → Int} {t : Int} {j e : Nat} {v : Int} {a : Nat → Int} {P : Int} (h : t ≠ 1 ∨ kd v = -1) (hP : P = j) : LFl g t j e v a P := Or.inl ⟨h, hP⟩
theorem lfl_node {g : Nat → Int} {t : Int} {j e : Nat} {v : Int} {a : Nat → Int} {k P : Int} (ht : t = 1) (hk : kd v = k) (k0 : 0 ≤ k) (k1 : k ≤ 3) (n : NFl g j e a k P) : LFl g t j e v a P := by
  subst hk; exact Or.inr ⟨ht, Or.inl ⟨k0, k1, Or.inl n⟩⟩
theorem lfl_nodeS {g : Nat → Int} {t : Int} {j e : Nat} {v : Int} {a : Nat → Int} {k P t1 : Int} {j1 e1 : Nat} {v1 : Int} {a' : Nat → Int} (ht : t = 1) (hk : kd v = k) (k0 : 0 ≤ k) (k1 : k ≤ 3) (n : NOk g e a k a' t1 j1 e1 v1) (t3 : t1 ≠ 3) (hP : P = j1) : LFl g t j e v a P := by
  subst hk; exact Or.inr ⟨ht, Or.inl ⟨k0, k1, Or.inr ⟨a', t1, j1, e1, v1, n, t3, hP⟩⟩⟩
theorem lfl_way {g : Nat → Int} {t : Int} {j e : Nat} {v : Int} {a : Nat → Int} {P : Int} (ht : t = 1) (hk : kd v = 4) (n : WFl g e a P) : LFl g t j e v a P := Or.inr ⟨ht, Or.inr ⟨hk, Or.inl n⟩⟩
theorem lfl_wayS {g : Nat → Int} {t : Int} {j e : Nat} {v : Int} {a : Nat → Int} {P t1 : Int} {j1 e1 : Nat} {v1 : Int} {a' : Nat → Int} (ht : t = 1) (hk : kd v = 4) (n : WyOk g e a a' t1 j1 e1 v1) (t3 : t1 ≠ 3) (hP : P = j1) : LFl g t j e v a P := Or.inr ⟨ht, Or.inr ⟨hk, Or.inr ⟨a', t1, j1, e1, v1, n, t3, hP⟩⟩⟩
/-- each line goes on -/
theorem NOk.on {g : Nat → Int} {e : Nat} {a a' : Nat → Int} {k t : Int} {j f : Nat} {v : Int} (h : NOk g e a k a' t j f v) : e ≤ j := by
  obtain ⟨-, t1, j1, e1, v1, h1, n1, -, t2, j2, e2, v2, h2, c⟩ := h
  have p1 := h1.place
  have o1 := h1.on (Or.inl n1.1)
  rcases c with ⟨-, -, h3⟩ | ⟨-, q, -, h3, -⟩
  · have p3 := h3.place
    omega
  · have p2 := h2.place
    have o2 := h2.on (Or.inr (Or.inl q))
    have p3 := h3.place
    omega
theorem WyOk.on {g : Nat → Int} {e : Nat} {a a' : Nat → Int} {t : Int} {j f : Nat} {v : Int} (h : WyOk g e a a' t j f v) : e ≤ j := by
  obtain ⟨t1, j1, e1, v1, r1, xa, xb, -, -, -, -, t2, j2, e2, v2, r2, xg, xh, -, -, t3, j3, e3, v3, xk, xl⟩ := h
  have p1 := xa.place
  have o1 := xa.on (Or.inl xb.1)
  have p2 := xg.place
  have o2 := xg.on (Or.inl xh.1)
  rcases xl with ⟨-, c2, -, -, -, c6, -⟩ | ⟨-, -, -, c4, -⟩ | ⟨-, c2, -⟩
  · have p3 := xk.place
    have o3 := xk.on (Or.inr (Or.inl c2))
    have p4 := c6.place
    omega
  · have p4 := c4.place
    omega
  · have p4 := c2.place
    omega
theorem RCH.tk {g : Nat → Int} : ∀ {k : Nat} {t : Int} {j e : Nat} {v : Int} {a : Nat → Int}, RCH g k t j e v a → (∃ i : Nat, TK g i t j e v) ∧ k ≤ j
  | 0, _, _, _, _, _, x => ⟨⟨0, x.1⟩, Nat.zero_le _⟩
  | k + 1, _, _, _, _, _, x => by
    obtain ⟨t0, j0, e0, v0, a0, x1, -, x3⟩ := x
    obtain ⟨⟨i, q⟩, hk⟩ := RCH.tk x1
    obtain ⟨y0, t1, j1, e1, v1, c, y3, y4⟩ := x3
    refine ⟨⟨e1, y4⟩, ?_⟩
    have o0 := q.on (Or.inl y0)
    have p4 := y4.place
    have le : e0 ≤ j1 := by
      rcases c with ⟨-, -, c⟩ | ⟨-, c⟩
      · exact c.on
      · exact c.on
    have o1 : j1 < e1 := by
      rcases c with ⟨-, -, -, u1, i1, f1, w1, -, -, -, u2, i2, f2, w2, h2, c⟩ | ⟨-, u1, i1, f1, w1, r1, -, -, -, -, -, -, u2, i2, f2, w2, r2, -, -, -, -, u3, i3, f3, w3, -, c⟩
      · rcases c with ⟨-, -, h3⟩ | ⟨-, -, -, h3, -⟩
        · exact h3.on (Or.inr (Or.inr y3))
        · exact h3.on (Or.inr (Or.inr y3))
      · rcases c with ⟨-, -, -, -, -, h3, -⟩ | ⟨-, -, -, h3, -⟩ | ⟨-, h3, -⟩
        · exact h3.on (Or.inr (Or.inr y3))
        · exact h3.on (Or.inr (Or.inr y3))
        · exact h3.on (Or.inr (Or.inr y3))
    omega
/-- a token stands at a sign of the tape -/
theorem TK.sign {g : Nat → Int} {i : Nat} {t : Int} {j e : Nat} {v : Int} (h : TK g i t j e v) (h0 : t ≠ 0) : g j ≠ -1 := by
  rcases h.2 with ⟨_, q, _⟩ | ⟨q, _, _⟩ | ⟨q, _⟩ | ⟨q, _⟩
  · exact absurd q h0
  · omega
  · exact q
  · unfold ltr dgt at q; omega
theorem RCH.lt {f : Nat → Int32} {z : Int} {k : Nat} {t : Int} {j e : Nat} {v : Int} {a : Nat → Int} (h : RCH (bg f z) k t j e v a) (h0 : t ≠ 0) : (k : Int) < z := by
  obtain ⟨⟨i, q⟩, hk⟩ := h.tk
  have := bg_lt (q.sign h0)
  omega
/-- weights of ways that are told -/
def BW (a : Nat → Int) : Prop := ∀ p : Nat, (p : Int) < a 0 → ∀ i : Nat, (i : Int) < a (25 + p) → 0 ≤ a (73 + 3 * p + i) ∧ a (73 + 3 * p + i) ≤ 3
theorem BW.addN {a a' : Nat → Int} {k v y : Int} (h : BW a) (q : AddN a a' k v y) : BW a' := by
  obtain ⟨q0, q1, q2, q3, q4, q5, q6⟩ := q
  intro p hp i hi
  by_cases z : (p : Int) < a 0
  · have s := q1 p z
    have hi' : (i : Int) < a (25 + p) := by rw [s.2.2.1]; exact hi
    rw [← (s.2.2.2.2.2 i hi').2]; exact h p z i hi'
  · have : p = (a 0).toNat := by omega
    subst this
    rw [q4] at hi; omega
theorem BW.addW {a a' : Nat → Int} {r q w : Int} (h : BW a) (h0 : 0 ≤ w) (h1 : w ≤ 3) (x : AddW a a' r q w) : BW a' := by
  obtain ⟨x0, x1, x2, x3, x4, x5, x6, x7, x8, x9, x10, x11, x12⟩ := x
  intro p hp i hi
  by_cases z : (p : Int) = r
  · have : p = r.toNat := by omega
    subst this
    rw [x9] at hi
    by_cases u : (i : Int) < a (25 + r.toNat)
    · rw [(x10 i u).2]; exact h _ (by omega) i u
    · have : i = (a (25 + r.toNat)).toNat := by omega
      subst this
      rw [x12]; omega
  · have s := x4 p (by omega) z
    have hi' : (i : Int) < a (25 + p) := by rw [s.2.2.1]; exact hi
    rw [← (s.2.2.2.2.2 i hi').2]; exact h p (by omega) i hi'
theorem BW.line {g : Nat → Int} {t : Int} {j e : Nat} {v : Int} {a : Nat → Int} {t' : Int} {j' e' : Nat} {v' : Int} {a' : Nat → Int} (h : BW a) (q : LOk g t j e v a t' j' e' v' a') : BW a' := by
  obtain ⟨-, t1, j1, e1, v1, c, -, -⟩ := q
  rcases c with ⟨-, -, -, u1, i1, f1, w1, -, -, -, u2, i2, f2, w2, -, c⟩ | ⟨-, u1, i1, f1, w1, r1, -, -, -, -, -, -, u2, i2, f2, w2, r2, -, -, -, -, u3, i3, f3, w3, -, c⟩
  · rcases c with ⟨-, c, -⟩ | ⟨-, -, -, -, c⟩
    · exact h.addN c
    · exact h.addN c
  · rcases c with ⟨-, -, c3, c4, -, -, c⟩ | ⟨-, -, -, -, c⟩ | ⟨-, -, c⟩
    · exact h.addW (by omega) c4 c
    · exact h.addW (by decide) (by decide) c
    · exact h.addW (by decide) (by decide) c
theorem RCH.bw {g : Nat → Int} : ∀ {k : Nat} {t : Int} {j e : Nat} {v : Int} {a : Nat → Int}, RCH g k t j e v a → BW a
  | 0, _, _, _, _, _, x => fun p hp => by have := x.2; omega
  | _ + 1, _, _, _, _, _, x => by
    obtain ⟨_, _, _, _, _, x1, -, x3⟩ := x
    exact (RCH.bw x1).line x3
/-! the reference's row of numbers -/
theorem tr_nat (x : Int32) : x.toNatClampNeg = x.toInt.toNat := rfl
/-- ranges, place by place -/
def GR (f : Nat → Int32) : Prop := (0 ≤ (f 0).toInt ∧ (f 0).toInt ≤ 12) ∧ (∀ k : Nat, k < 12 → (0 ≤ (f (1 + k)).toInt ∧ (f (1 + k)).toInt ≤ 3) ∧ (0 ≤ (f (13 + k)).toInt ∧ (f (13 + k)).toInt ≤ 9) ∧ (0 ≤ (f (25 + k)).toInt ∧ (f (25 + k)).toInt ≤ 3) ∧ (-1 ≤ (f (109 + k)).toInt ∧ (f (109 + k)).toInt ≤ 2)) ∧ ∀ j : Nat, j < 36 → (0 ≤ (f (37 + j)).toInt ∧ (f (37 + j)).toInt ≤ 11) ∧ (0 ≤ (f (73 + j)).toInt ∧ (f (73 + j)).toInt ≤ 3)
section GRs
variable {f : Nat → Int32} {x : Int32}
theorem gr_nodes (h : GR f) (hx : 0 ≤ x.toInt ∧ x.toInt ≤ 0) : 0 ≤ (f x.toNatClampNeg).toInt ∧ (f x.toNatClampNeg).toInt ≤ 12 := by
  have e : x.toNatClampNeg = 0 := by rw [tr_nat]; omega
  rw [e]; exact h.1
theorem gr_kind (h : GR f) (hx : 1 ≤ x.toInt ∧ x.toInt ≤ 12) : 0 ≤ (f x.toNatClampNeg).toInt ∧ (f x.toNatClampNeg).toInt ≤ 3 := by
  have e : x.toNatClampNeg = 1 + (x.toInt.toNat - 1) := by rw [tr_nat]; omega
  rw [e]; exact (h.2.1 _ (by omega)).1
theorem gr_pay (h : GR f) (hx : 13 ≤ x.toInt ∧ x.toInt ≤ 24) : 0 ≤ (f x.toNatClampNeg).toInt ∧ (f x.toNatClampNeg).toInt ≤ 9 := by
  have e : x.toNatClampNeg = 13 + (x.toInt.toNat - 13) := by rw [tr_nat]; omega
  rw [e]; exact (h.2.1 _ (by omega)).2.1
theorem gr_ways (h : GR f) (hx : 25 ≤ x.toInt ∧ x.toInt ≤ 36) : 0 ≤ (f x.toNatClampNeg).toInt ∧ (f x.toNatClampNeg).toInt ≤ 3 := by
  have e : x.toNatClampNeg = 25 + (x.toInt.toNat - 25) := by rw [tr_nat]; omega
  rw [e]; exact (h.2.1 _ (by omega)).2.2.1
theorem gr_held (h : GR f) (hx : 109 ≤ x.toInt ∧ x.toInt ≤ 120) : -1 ≤ (f x.toNatClampNeg).toInt ∧ (f x.toNatClampNeg).toInt ≤ 2 := by
  have e : x.toNatClampNeg = 109 + (x.toInt.toNat - 109) := by rw [tr_nat]; omega
  rw [e]; exact (h.2.1 _ (by omega)).2.2.2
theorem gr_to (h : GR f) (hx : 37 ≤ x.toInt ∧ x.toInt ≤ 72) : 0 ≤ (f x.toNatClampNeg).toInt ∧ (f x.toNatClampNeg).toInt ≤ 11 := by
  have e : x.toNatClampNeg = 37 + (x.toInt.toNat - 37) := by rw [tr_nat]; omega
  rw [e]; exact (h.2.2 _ (by omega)).1
theorem gr_heavy (h : GR f) (hx : 73 ≤ x.toInt ∧ x.toInt ≤ 108) : 0 ≤ (f x.toNatClampNeg).toInt ∧ (f x.toNatClampNeg).toInt ≤ 3 := by
  have e : x.toNatClampNeg = 73 + (x.toInt.toNat - 73) := by rw [tr_nat]; omega
  rw [e]; exact (h.2.2 _ (by omega)).2
end GRs
/-- the weights of a node's first ways, together -/
def gw (f : Nat → Int32) (k : Nat) : Nat → Int
  | 0 => 0
  | i + 1 => gw f k i + (f (73 + 3 * k + i)).toInt
/-- how many of the first nodes are of a kind -/
def gc (f : Nat → Int32) (d : Int) : Nat → Int
  | 0 => 0
  | n + 1 => gc f d n + (if (f (1 + n)).toInt = d then 1 else 0)
theorem gw_cong {f g : Nat → Int32} {k : Nat} : ∀ n : Nat, (∀ i : Nat, i < n → g (73 + 3 * k + i) = f (73 + 3 * k + i)) → gw g k n = gw f k n
  | 0, _ => rfl
  | n + 1, h => by
    show gw g k n + _ = gw f k n + _
    rw [gw_cong n (fun i hi => h i (by omega)), h n (by omega)]
theorem gc_cong {f g : Nat → Int32} {d : Int} : ∀ n : Nat, (∀ i : Nat, i < n → g (1 + i) = f (1 + i)) → gc g d n = gc f d n
  | 0, _ => rfl
  | n + 1, h => by
    show gc g d n + _ = gc f d n + _
    rw [gc_cong n (fun i hi => h i (by omega)), h n (by omega)]
theorem gc_nonneg (f : Nat → Int32) (d : Int) : ∀ n : Nat, 0 ≤ gc f d n ∧ gc f d n ≤ n
  | 0 => by simp [gc]
  | n + 1 => by
    have h := gc_nonneg f d n
    show 0 ≤ gc f d n + _ ∧ gc f d n + _ ≤ _
    split <;> omega
/-- a row while it is read -/
def GP (f : Nat → Int32) : Prop := GR f ∧ (∀ k : Nat, k < 12 → (f 0).toInt ≤ k → (f (1 + k)).toInt = 0 ∧ (f (25 + k)).toInt = 0) ∧ (∀ k : Nat, k < 12 → (f (1 + k)).toInt = 0 → (f (25 + k)).toInt = 0) ∧ (∀ k i : Nat, k < 12 → (i : Int) < (f (25 + k)).toInt → (f (37 + 3 * k + i)).toInt < (f 0).toInt ∧ 1 ≤ (f (73 + 3 * k + i)).toInt) ∧ (∀ k : Nat, k < 12 → (f (1 + k)).toInt = 3 → gw f k (f (25 + k)).toInt.toNat ≤ 4) ∧ (∀ k : Nat, k < 12 → ¬ (f (1 + k)).toInt = 0 → (f (109 + k)).toInt < (f (25 + k)).toInt) ∧ gc f 0 (f 0).toInt.toNat ≤ 4 ∧ (f 0).toInt - gc f 0 (f 0).toInt.toNat ≤ 8 ∧ gc f 3 (f 0).toInt.toNat ≤ 5
/-- a row that was read: every node that isn't an end has a way -/
def GS (f : Nat → Int32) : Prop := GP f ∧ ∀ k : Nat, k < 12 → ¬ (f (1 + k)).toInt = 0 → 1 ≤ (f (25 + k)).toInt
theorem GS.r {f : Nat → Int32} (h : GS f) : GR f := h.1.1
theorem gp_zero {f : Nat → Int32} (h : ∀ i : Nat, i < 193 → (i < 109 ∨ 121 ≤ i) → f i = 0) (hh : ∀ k : Nat, k < 12 → f (109 + k) = (-1) ∨ f (109 + k) = 0) : GP f := by
  have z : (0 : Int32).toInt = 0 := by decide
  have z1 : (-1 : Int32).toInt = -1 := by decide
  have e0 := h 0 (by omega) (by omega)
  have ek : ∀ k : Nat, k < 12 → f (1 + k) = 0 := fun k hk => h _ (by omega) (by omega)
  have ew : ∀ k : Nat, k < 12 → f (25 + k) = 0 := fun k hk => h _ (by omega) (by omega)
  refine ⟨⟨by rw [e0, z]; omega, fun k hk => ⟨by rw [ek k hk, z]; omega, by rw [h (13 + k) (by omega) (by omega), z]; omega, by rw [ew k hk, z]; omega, by rcases hh k hk with e | e <;> rw [e] <;> first | rw [z1]; omega | rw [z]; omega⟩, fun j hj => ⟨by rw [h (37 + j) (by omega) (by omega), z]; omega, by rw [h (73 + j) (by omega) (by omega), z]; omega⟩⟩, fun k hk _ => ⟨by rw [ek k hk, z], by rw [ew k hk, z]⟩, fun k hk _ => by rw [ew k hk, z], fun k i hk hi => ?_, fun k hk e => ?_, fun k hk e => ?_, ?_, ?_, ?_⟩
  · rw [ew k hk, z] at hi; omega
  · rw [ek k hk, z] at e; omega
  · rw [ek k hk, z] at e; omega
  · rw [e0, z]; simp [gc]
  · rw [e0, z]; simp [gc]
  · rw [e0, z]; simp [gc]
theorem gs_zero : GS (fun _ => 0) := ⟨gp_zero (fun _ _ _ => rfl) (fun _ _ => Or.inr rfl), fun k hk e => by simp at e⟩
theorem gp_cong {f g : Nat → Int32} (h : GP f) (h0 : g 0 = f 0) (hk : ∀ k : Nat, k < 12 → g (1 + k) = f (1 + k)) (hw : ∀ k : Nat, k < 12 → g (25 + k) = f (25 + k)) (ht : ∀ j : Nat, j < 36 → g (37 + j) = f (37 + j)) (hh : ∀ j : Nat, j < 36 → g (73 + j) = f (73 + j)) (hp : ∀ k : Nat, k < 12 → 0 ≤ (g (13 + k)).toInt ∧ (g (13 + k)).toInt ≤ 9) (hd : ∀ k : Nat, k < 12 → (-1 ≤ (g (109 + k)).toInt ∧ (g (109 + k)).toInt ≤ 2) ∧ (¬ (f (1 + k)).toInt = 0 → (g (109 + k)).toInt < (f (25 + k)).toInt)) : GP g := by
  obtain ⟨hR, a1, a2, a3, a4, a5, a6, a7, a8⟩ := h
  have n12 : (f 0).toInt.toNat ≤ 12 := by have := hR.1; omega
  have w3 : ∀ k : Nat, k < 12 → (f (25 + k)).toInt.toNat ≤ 3 := fun k q => by have := (hR.2.1 k q).2.2.1; omega
  have cc : ∀ d : Int, gc g d (f 0).toInt.toNat = gc f d (f 0).toInt.toNat := fun d => gc_cong _ (fun i hi => hk i (by omega))
  refine ⟨⟨by rw [h0]; exact hR.1, fun k q => ⟨by rw [hk k q]; exact (hR.2.1 k q).1, hp k q, by rw [hw k q]; exact (hR.2.1 k q).2.2.1, (hd k q).1⟩, fun j q => ⟨by rw [ht j q]; exact (hR.2.2 j q).1, by rw [hh j q]; exact (hR.2.2 j q).2⟩⟩, fun k q => by rw [h0, hk k q, hw k q]; exact a1 k q, fun k q => by rw [hk k q, hw k q]; exact a2 k q, fun k i q => ?_, fun k q => ?_, fun k q => by rw [hk k q, hw k q]; exact (hd k q).2, ?_, ?_, ?_⟩
  · rw [hw k q, h0]
    intro hi
    have := (hR.2.1 k q).2.2.1
    rw [show 37 + 3 * k + i = 37 + (3 * k + i) by omega, show 73 + 3 * k + i = 73 + (3 * k + i) by omega, ht _ (by omega), hh _ (by omega), ← Nat.add_assoc, ← Nat.add_assoc]
    exact a3 k i q hi
  · rw [hk k q, hw k q]
    intro e
    rw [gw_cong (f := f) _ (fun i hi => by rw [show 73 + 3 * k + i = 73 + (3 * k + i) by omega]; exact hh _ (by have := w3 k q; omega))]
    exact a4 k q e
  · rw [h0, cc]; exact a6
  · rw [h0, cc]; exact a7
  · rw [h0, cc]; exact a8
theorem upd_at (f : Nat → Int32) (k : Nat) (x : Int32) : upd f k x k = x := if_pos rfl
theorem upd_ne (f : Nat → Int32) {k j : Nat} (x : Int32) (h : j ≠ k) : upd f k x j = f j := if_neg h
theorem gs_held {f : Nat → Int32} (h : GS f) {a k : Nat} {x : Int32} (ha : a = 109 + k) (hk : k < 12) (hx : -1 ≤ x.toInt ∧ x.toInt ≤ 2) (hw : x.toInt < (f (25 + k)).toInt ∨ x.toInt = -1) : GS (upd f a x) := by
  subst ha
  have o : ∀ j : Nat, j ≠ 109 + k → upd f (109 + k) x j = f j := fun j hj => upd_ne f x hj
  have hR := h.r
  refine ⟨gp_cong h.1 (o _ (by omega)) (fun k q => o _ (by omega)) (fun k q => o _ (by omega)) (fun k q => o _ (by omega)) (fun k q => o _ (by omega)) (fun k q => by rw [o _ (by omega)]; exact (hR.2.1 k q).2.1) (fun j q => ?_), fun j q => by rw [o _ (by omega), o _ (by omega)]; exact h.2 j q⟩
  by_cases e : j = k
  · subst e
    rw [upd_at]
    refine ⟨hx, fun e => ?_⟩
    have := h.2 j q e
    omega
  · rw [o _ (by omega)]
    exact ⟨(hR.2.1 j q).2.2.2, h.1.2.2.2.2.2.1 j q⟩
theorem gs_pay {f : Nat → Int32} (h : GS f) {a k : Nat} {x : Int32} (ha : a = 13 + k) (hk : k < 12) (hx : 0 ≤ x.toInt ∧ x.toInt ≤ 9) : GS (upd f a x) := by
  subst ha
  have o : ∀ j : Nat, j ≠ 13 + k → upd f (13 + k) x j = f j := fun j hj => upd_ne f x hj
  have hR := h.r
  refine ⟨gp_cong h.1 (o _ (by omega)) (fun k q => o _ (by omega)) (fun k q => o _ (by omega)) (fun k q => o _ (by omega)) (fun k q => o _ (by omega)) (fun j q => ?_) (fun j q => by rw [o _ (by omega)]; exact ⟨(hR.2.1 j q).2.2.2, h.1.2.2.2.2.2.1 j q⟩), fun j q => by rw [o _ (by omega), o _ (by omega)]; exact h.2 j q⟩
  by_cases e : j = k
  · subst e; rw [upd_at]; exact hx
  · rw [o _ (by omega)]; exact (hR.2.1 j q).2.1
theorem gw_upd {f : Nat → Int32} {k i : Nat} {x : Int32} : ∀ n : Nat, gw (upd f (73 + 3 * k + i) x) k n = gw f k n + (if i < n then x.toInt - (f (73 + 3 * k + i)).toInt else 0)
  | 0 => by simp [gw]
  | n + 1 => by
    show gw _ k n + _ = gw f k n + _ + _
    rw [gw_upd n]
    by_cases e : n = i
    · subst e
      rw [upd_at, if_neg (by omega), if_pos (by omega)]
      omega
    · rw [upd_ne _ _ (by omega)]
      by_cases e1 : i < n
      · rw [if_pos e1, if_pos (by omega)]; omega
      · rw [if_neg e1, if_neg (by omega)]; omega
theorem gw_nonneg {f : Nat → Int32} {k : Nat} : ∀ n : Nat, (∀ i : Nat, i < n → 0 ≤ (f (73 + 3 * k + i)).toInt) → 0 ≤ gw f k n
  | 0, _ => by simp [gw]
  | n + 1, h => by
    have := gw_nonneg n (fun i hi => h i (by omega))
    have := h n (by omega)
    show 0 ≤ gw f k n + _
    omega
theorem gs_heavy {f : Nat → Int32} (h : GS f) {a k i : Nat} {x : Int32} (ha : a = 73 + 3 * k + i) (hk : k < 12) (hi : i < 3) (hx : 1 ≤ x.toInt ∧ x.toInt ≤ 3) (hs : (i : Int) < (f (25 + k)).toInt) (h4 : gw f k (f (25 + k)).toInt.toNat - (f (73 + 3 * k + i)).toInt + x.toInt ≤ 4) : GS (upd f a x) := by
  subst ha
  have o : ∀ j : Nat, j ≠ 73 + 3 * k + i → upd f (73 + 3 * k + i) x j = f j := fun j hj => upd_ne f x hj
  obtain ⟨⟨hR, a1, a2, a3, a4, a5, a6, a7, a8⟩, a9⟩ := h
  have n12 : (f 0).toInt.toNat ≤ 12 := by have := hR.1; omega
  have cc : ∀ d : Int, gc (upd f (73 + 3 * k + i) x) d (f 0).toInt.toNat = gc f d (f 0).toInt.toNat := fun d => gc_cong _ (fun j hj => o _ (by omega))
  refine ⟨⟨⟨by rw [o _ (by omega)]; exact hR.1, fun j q => ⟨by rw [o _ (by omega)]; exact (hR.2.1 j q).1, by rw [o _ (by omega)]; exact (hR.2.1 j q).2.1, by rw [o _ (by omega)]; exact (hR.2.1 j q).2.2.1, by rw [o _ (by omega)]; exact (hR.2.1 j q).2.2.2⟩, fun j q => ⟨by rw [o _ (by omega)]; exact (hR.2.2 j q).1, ?_⟩⟩, fun j q => by rw [o _ (by omega), o _ (by omega), o _ (by omega)]; exact a1 j q, fun j q => by rw [o _ (by omega), o _ (by omega)]; exact a2 j q, fun j b q => ?_, fun j q => ?_, fun j q => by rw [o _ (by omega), o _ (by omega), o _ (by omega)]; exact a5 j q, by rw [o _ (by omega), cc]; exact a6, by rw [o _ (by omega), cc]; exact a7, by rw [o _ (by omega), cc]; exact a8⟩, fun j q => by rw [o _ (by omega), o _ (by omega)]; exact a9 j q⟩
  · by_cases e : 73 + j = 73 + 3 * k + i
    · rw [e, upd_at]; omega
    · rw [o _ e]; exact (hR.2.2 j q).2
  · rw [o (25 + j) (by omega), o 0 (by omega)]
    intro hb
    have w3 := (hR.2.1 j q).2.2.1
    rw [o (37 + 3 * j + b) (by omega)]
    by_cases e : 73 + 3 * j + b = 73 + 3 * k + i
    · rw [e, upd_at]; exact ⟨(a3 j b q hb).1, by omega⟩
    · rw [o _ e]; exact a3 j b q hb
  · rw [o (1 + j) (by omega), o (25 + j) (by omega)]
    intro e
    by_cases q2 : j = k
    · subst q2
      rw [gw_upd, if_pos (by omega)]
      omega
    · rw [gw_cong (f := f) _ (fun b hb => o _ (by have := (hR.2.1 j q).2.2.1; omega))]
      exact a4 j q e
theorem tr_addX {x y : Int32} {a b c d : Int} (hx : a ≤ x.toInt ∧ x.toInt ≤ b) (hy : c ≤ y.toInt ∧ y.toInt ≤ d) (h1 : -2147483648 ≤ a + c) (h2 : b + d ≤ 2147483647) : (x + y).toInt = x.toInt + y.toInt := by
  rw [Int32.toInt_add]
  exact tr_bmod (by omega) (by omega)
theorem tr_subX {x y : Int32} {a b c d : Int} (hx : a ≤ x.toInt ∧ x.toInt ≤ b) (hy : c ≤ y.toInt ∧ y.toInt ≤ d) (h1 : -2147483648 ≤ a - d) (h2 : b - c ≤ 2147483647) : (x - y).toInt = x.toInt - y.toInt := by
  rw [Int32.toInt_sub]
  exact tr_bmod (by omega) (by omega)
theorem tr_mulX {x y : Int32} {a b c d : Int} (hx : a ≤ x.toInt ∧ x.toInt ≤ b) (hy : c ≤ y.toInt ∧ y.toInt ≤ d) (h1 : 0 ≤ a ∧ 0 ≤ c) (h2 : b * d ≤ 2147483647) : (x * y).toInt = x.toInt * y.toInt := by
  have m1 : x.toInt * y.toInt ≤ b * d := Int.mul_le_mul hx.2 hy.2 (by omega) (by omega)
  have m0 : 0 ≤ x.toInt * y.toInt := Int.mul_nonneg (by omega) (by omega)
  rw [Int32.toInt_mul]
  exact tr_bmod (by omega) (by omega)
theorem gp_way {f : Nat → Int32} (h : GP f) {a b c K V : Nat} {t w x : Int32} (ha : a = 37 + 3 * K + V) (hb : b = 73 + 3 * K + V) (hc : c = 25 + K) (hK : K < 12) (hk : ¬ (f (1 + K)).toInt = 0) (hV : (f (25 + K)).toInt = (V : Int)) (hV3 : V < 3) (ht : 0 ≤ t.toInt ∧ t.toInt < (f 0).toInt) (hw : 1 ≤ w.toInt ∧ w.toInt ≤ 3) (h4 : (f (1 + K)).toInt = 3 → gw f K V + w.toInt ≤ 4) (hx : x.toInt = (V : Int) + 1) : GP (upd (upd (upd f a t) b w) c x) := by
  subst ha hb hc
  obtain ⟨g, hg⟩ : ∃ g, g = upd (upd (upd f (37 + 3 * K + V) t) (73 + 3 * K + V) w) (25 + K) x := ⟨_, rfl⟩
  rw [← hg]
  obtain ⟨hR, a1, a2, a3, a4, a5, a6, a7, a8⟩ := h
  have o : ∀ j : Nat, j ≠ 37 + 3 * K + V → j ≠ 73 + 3 * K + V → j ≠ 25 + K → g j = f j := fun j h1 h2 h3 => by rw [hg, upd_ne _ _ h3, upd_ne _ _ h2, upd_ne _ _ h1]
  have et : g (37 + 3 * K + V) = t := by rw [hg, upd_ne _ _ (by omega), upd_ne _ _ (by omega), upd_at]
  have ew : g (73 + 3 * K + V) = w := by rw [hg, upd_ne _ _ (by omega), upd_at]
  have ex : g (25 + K) = x := by rw [hg, upd_at]
  have n12 := hR.1
  have e0 : g 0 = f 0 := o _ (by omega) (by omega) (by omega)
  have ek : ∀ j : Nat, j < 12 → g (1 + j) = f (1 + j) := fun j q => o _ (by omega) (by omega) (by omega)
  have cc : ∀ d : Int, gc g d (f 0).toInt.toNat = gc f d (f 0).toInt.toNat := fun d => gc_cong _ (fun j hj => ek j (by omega))
  have hKn : (K : Int) < (f 0).toInt := by
    by_cases q : (f 0).toInt ≤ K
    · exact absurd (a1 K hK q).1 hk
    · omega
  have gwo : ∀ j n : Nat, j < 12 → j ≠ K → n ≤ 3 → gw g j n = gw f j n := fun j n q e hn => gw_cong _ (fun i hi => o _ (by omega) (by omega) (by omega))
  refine ⟨⟨by rw [e0]; exact hR.1, fun j q => ⟨by rw [ek j q]; exact (hR.2.1 j q).1, by rw [o _ (by omega) (by omega) (by omega)]; exact (hR.2.1 j q).2.1, ?_, by rw [o _ (by omega) (by omega) (by omega)]; exact (hR.2.1 j q).2.2.2⟩, fun j q => ⟨?_, ?_⟩⟩, fun j q hq => ⟨by rw [ek j q]; rw [e0] at hq; exact (a1 j q hq).1, ?_⟩, fun j q hq => ?_, fun j i q hi => ?_, fun j q hq => ?_, fun j q hq => ?_, by rw [e0, cc]; exact a6, by rw [e0, cc]; exact a7, by rw [e0, cc]; exact a8⟩
  · by_cases e : j = K
    · subst e; rw [ex]; omega
    · rw [o _ (by omega) (by omega) (by omega)]; exact (hR.2.1 j q).2.2.1
  · by_cases e : 37 + j = 37 + 3 * K + V
    · rw [e, et]; omega
    · rw [o _ e (by omega) (by omega)]; exact (hR.2.2 j q).1
  · by_cases e : 73 + j = 73 + 3 * K + V
    · rw [e, ew]; omega
    · rw [o _ (by omega) e (by omega)]; exact (hR.2.2 j q).2
  · rw [e0] at hq
    rw [o _ (by omega) (by omega) (by omega)]; exact (a1 j q hq).2
  · rw [ek j q] at hq
    by_cases e : j = K
    · subst e; exact absurd hq hk
    · rw [o _ (by omega) (by omega) (by omega)]; exact a2 j q hq
  · rw [e0]
    by_cases e : j = K
    · subst e
      rw [ex] at hi
      by_cases e2 : i = V
      · subst e2; rw [et, ew]; omega
      · rw [o _ (by omega) (by omega) (by omega), o _ (by omega) (by omega) (by omega)]; exact a3 j i q (by omega)
    · rw [o (25 + j) (by omega) (by omega) (by omega)] at hi
      have := (hR.2.1 j q).2.2.1
      rw [o _ (by omega) (by omega) (by omega), o _ (by omega) (by omega) (by omega)]; exact a3 j i q hi
  · rw [ek j q] at hq
    by_cases e : j = K
    · subst e
      rw [ex, hx, show ((V : Int) + 1).toNat = V + 1 by omega]
      show gw g j V + (g (73 + 3 * j + V)).toInt ≤ 4
      rw [ew, gw_cong (f := f) V (fun i hi => o _ (by omega) (by omega) (by omega))]
      exact h4 hq
    · have := (hR.2.1 j q).2.2.1
      rw [o (25 + j) (by omega) (by omega) (by omega), gwo j _ q e (by omega)]; exact a4 j q hq
  · rw [ek j q] at hq
    rw [o (109 + j) (by omega) (by omega) (by omega)]
    by_cases e : j = K
    · subst e; rw [ex]; have := a5 j q hq; omega
    · rw [o (25 + j) (by omega) (by omega) (by omega)]; exact a5 j q hq
theorem gp_node {f g : Nat → Int32} (h : GP f) {n : Nat} (hn : (f 0).toInt = (n : Int)) (h0 : (g 0).toInt = (n : Int) + 1) (hk : ∀ k : Nat, k < 12 → k ≠ n → g (1 + k) = f (1 + k)) (hkn : 0 ≤ (g (1 + n)).toInt ∧ (g (1 + n)).toInt ≤ 3) (hw : ∀ k : Nat, k < 12 → g (25 + k) = f (25 + k)) (ht : ∀ j : Nat, j < 36 → g (37 + j) = f (37 + j)) (hh : ∀ j : Nat, j < 36 → g (73 + j) = f (73 + j)) (hp : ∀ k : Nat, k < 12 → 0 ≤ (g (13 + k)).toInt ∧ (g (13 + k)).toInt ≤ 9) (hd : ∀ k : Nat, k < 12 → k ≠ n → g (109 + k) = f (109 + k)) (hdn : (g (109 + n)).toInt = -1)
    (c0 : (g (1 + n)).toInt = 0 → ¬ gc f 0 n = 4) (c1 : ¬ (g (1 + n)).toInt = 0 → ¬ (n : Int) - gc f 0 n = 8) (c3 : (g (1 + n)).toInt = 3 → ¬ gc f 3 n = 5) : n < 12 ∧ GP g := by
  obtain ⟨hR, a1, a2, a3, a4, a5, a6, a7, a8⟩ := h
  have en : (f 0).toInt.toNat = n := by omega
  rw [en] at a6 a7 a8
  have n12 : n < 12 := by
    by_cases q : (g (1 + n)).toInt = 0
    · have := c0 q; omega
    · have := c1 q; omega
  have en1 : (g 0).toInt.toNat = n + 1 := by omega
  have w3 : ∀ k : Nat, k < 12 → (f (25 + k)).toInt.toNat ≤ 3 := fun k q => by have := (hR.2.1 k q).2.2.1; omega
  have cc : ∀ d : Int, gc g d (n + 1) = gc f d n + (if (g (1 + n)).toInt = d then 1 else 0) := fun d => by
    show gc g d n + _ = _
    rw [gc_cong (f := f) n (fun i hi => hk i (by omega) (by omega))]
  have wn : (f (25 + n)).toInt = 0 := (a1 n n12 (by omega)).2
  refine ⟨n12, ⟨by omega, fun k q => ⟨?_, hp k q, by rw [hw k q]; exact (hR.2.1 k q).2.2.1, ?_⟩, fun j q => ⟨by rw [ht j q]; exact (hR.2.2 j q).1, by rw [hh j q]; exact (hR.2.2 j q).2⟩⟩, fun k q hq => ?_, fun k q hq => ?_, fun k i q hi => ?_, fun k q hq => ?_, fun k q hq => ?_, ?_, ?_, ?_⟩
  · by_cases e : k = n
    · subst e; exact hkn
    · rw [hk k q e]; exact (hR.2.1 k q).1
  · by_cases e : k = n
    · subst e; omega
    · rw [hd k q e]; exact (hR.2.1 k q).2.2.2
  · rw [hw k q, hk k q (by omega)]; exact a1 k q (by omega)
  · by_cases e : k = n
    · subst e; rw [hw k q]; exact wn
    · rw [hk k q e] at hq; rw [hw k q]; exact a2 k q hq
  · rw [hw k q] at hi
    have := w3 k q
    have e1 : g (37 + 3 * k + i) = f (37 + 3 * k + i) := by rw [show 37 + 3 * k + i = 37 + (3 * k + i) by omega]; exact ht _ (by omega)
    have e2 : g (73 + 3 * k + i) = f (73 + 3 * k + i) := by rw [show 73 + 3 * k + i = 73 + (3 * k + i) by omega]; exact hh _ (by omega)
    rw [e1, e2]
    have := a3 k i q hi
    omega
  · by_cases e : k = n
    · subst e; rw [hw k q, wn]; simp [gw]
    · rw [hk k q e] at hq
      rw [hw k q, gw_cong (f := f) _ (fun i hi => by rw [show 73 + 3 * k + i = 73 + (3 * k + i) by omega]; exact hh _ (by have := w3 k q; omega))]
      exact a4 k q hq
  · by_cases e : k = n
    · subst e; rw [hw k q, wn]; omega
    · rw [hk k q e] at hq; rw [hw k q, hd k q e]; exact a5 k q hq
  · rw [en1, cc]
    by_cases q : (g (1 + n)).toInt = 0
    · rw [if_pos q]; have := c0 q; omega
    · rw [if_neg q]; omega
  · rw [en1, cc]
    by_cases q : (g (1 + n)).toInt = 0
    · rw [if_pos q]; omega
    · rw [if_neg q]; have := c1 q; omega
  · rw [en1, cc]
    by_cases q : (g (1 + n)).toInt = 3
    · rw [if_pos q]; have := c3 q; omega
    · rw [if_neg q]; omega
/-- the five words, in a static row that nobody writes -/
def ZK (kn : Nat) (kf : Nat → Int32) (A : Nat → Prop) (U : State) (H : Heap) : Prop := va_Z "ChanceRingsModel" "KNOWN" "[B" (.ref kn) A U H ∧ va_T .byte kn 30 (fun j => .int (kf j)) A U H
theorem ZK.moved {kn : Nat} {kf : Nat → Int32} {A : Nat → Prop} {u U : State} {H : Heap} (hvm : u.vm.Alike U.vm) (h : ZK kn kf A u H) : ZK kn kf A U H := ⟨va_Z.moved hvm h.1, va_T.moved hvm h.2⟩
theorem ZK.kept {kn : Nat} {kf : Nat → Int32} {A B : Nat → Prop} {s : State} {H0 H : Heap} {locs : List Loc} (h : ZK kn kf A s H0) (hS : va_S A H0 H locs) (hB : ∀ q, B q → A q) : ZK kn kf B s H := ⟨(h.1.kept hS.2.1).narrow hB, (h.2.kept hS.2.1).narrow hB⟩
theorem tz_blQK {D : va_G} {av : List Value} {w : va_W} {tys : List (ClassId × FieldType)} {sz : Nat} {A : Nat → Prop} {kn : Nat} {kf : Nat → Int32} : FrameBlind (va_Pc av (fun U => U.heap.size = sz ∧ va_P D vwCl w U.heap ∧ va_K D vwCl tys U ∧ va_D (fun _ => True) w ∧ ZK kn kf A U U.heap)) := fun a U g mk q => by
  obtain ⟨q0, q1, qP, qK, qD, qZ⟩ := q
  exact ⟨q0, q1, qP, va_K.moved (u := U) (U := U.calling g mk a) (Vm.Alike.refl U.vm) qK, qD, ZK.moved (u := U) (U := U.calling g mk a) (Vm.Alike.refl U.vm) qZ⟩
theorem tz_preQK {D : va_G} {s : State} {H : Heap} {w : va_W} {tys : List (ClassId × FieldType)} {av : List Value} {A B : Nat → Prop} {kn : Nat} {kf : Nat → Int32} (hP : va_P D vwCl w H) (hK : va_K D vwCl tys s) (hD : va_D A w) (hZ : ZK kn kf B s H) : ∀ U : State, U.heap = H → s.WarmedH U.vm → va_Pc av (fun U => U.heap.size = H.size ∧ va_P D vwCl w U.heap ∧ va_K D vwCl tys U ∧ va_D (fun _ => True) w ∧ ZK kn kf B U U.heap) av.toArray U := fun U hU hW => ⟨rfl, by rw [hU], by rw [hU]; exact hP, va_K.moved hW.alike hK, hD.weaken (fun _ _ _ _ => trivial), by rw [hU]; exact hZ.moved hW.alike⟩
theorem tz_blSK {D : va_G} {av : List Value} {w : va_W} {tys : List (ClassId × FieldType)} {A : Nat → Prop} {kn : Nat} {kf : Nat → Int32} : FrameBlind (va_Pc av (fun U => va_P D vwCl w U.heap ∧ va_K D vwCl tys U ∧ ZK kn kf A U U.heap)) := fun a U g mk q => by
  obtain ⟨q0, qP, qK, qZ⟩ := q
  exact ⟨q0, qP, va_K.moved (u := U) (U := U.calling g mk a) (Vm.Alike.refl U.vm) qK, ZK.moved (u := U) (U := U.calling g mk a) (Vm.Alike.refl U.vm) qZ⟩
theorem tz_preSK {D : va_G} {s : State} {H : Heap} {w : va_W} {tys : List (ClassId × FieldType)} {av : List Value} {A : Nat → Prop} {kn : Nat} {kf : Nat → Int32} (hP : va_P D vwCl w H) (hK : va_K D vwCl tys s) (hZ : ZK kn kf A s H) : ∀ U : State, U.heap = H → s.WarmedH U.vm → va_Pc av (fun U => va_P D vwCl w U.heap ∧ va_K D vwCl tys U ∧ ZK kn kf A U U.heap) av.toArray U := fun U hU hW => ⟨rfl, by rw [hU]; exact hP, va_K.moved hW.alike hK, by rw [hU]; exact hZ.moved hW.alike⟩
/-- the byte ahead: -1 behind the last -/
def pkb (f : Nat → Int32) (p z : Int32) : Int := if p.toInt < z.toInt then (f p.toNatClampNeg &&& 255).toInt else -1
theorem pkb_in {f : Nat → Int32} {p z : Int32} (h : p.toInt < z.toInt) : (f p.toNatClampNeg &&& 255).toInt = pkb f p z := (if_pos h).symm
theorem pkb_out {f : Nat → Int32} {p z : Int32} (h : ¬ p.toInt < z.toInt) : (-1 : Int) = pkb f p z := (if_neg h).symm
theorem tr_and255 (x : Int32) : 0 ≤ (x &&& 255).toInt ∧ (x &&& 255).toInt ≤ 255 := by
  have h1 : (x &&& 255).toBitVec = x.toBitVec &&& 255#32 := rfl
  have h2 : (x &&& 255).toInt = ((x &&& 255).toBitVec).toInt := rfl
  rw [h2, h1]
  have h3 : (x.toBitVec &&& 255#32).toNat ≤ 255 := by
    rw [BitVec.toNat_and]
    exact Nat.and_le_right
  rw [BitVec.toInt_eq_toNat_cond]
  split <;> omega
/-- the five words' number, or -1: anything else -/
theorem gp_done {f : Nat → Int32} (h : GP f) (hw : ∀ k : Nat, (k : Int) < (f 0).toInt → ¬ (f (1 + k)).toInt = 0 → ¬ (f (25 + k)).toInt = 0) : GS f := by
  refine ⟨h, fun k hk e => ?_⟩
  have h1 := (h.1.2.1 k hk).2.2.1
  by_cases q : (f 0).toInt ≤ k
  · exact absurd (h.2.1 k hk q).1 e
  · have := hw k (by omega) e
    omega
theorem gc_step {f : Nat → Int32} {d v : Int32} {n : Int} {i : Nat} (hn : n = gc f d.toInt i) (hv : v = f (1 + i)) : (v = d → n + 1 = gc f d.toInt (i + 1)) ∧ (¬ v = d → n + 0 = gc f d.toInt (i + 1)) := by
  subst hn hv
  constructor
  · intro e
    show _ = gc f d.toInt i + _
    rw [if_pos (by rw [e])]
  · intro e
    show _ = gc f d.toInt i + _
    rw [if_neg (fun q => e (Int32.toInt_inj.mp q))]
theorem gc_next {f : Nat → Int32} {d n v : Int32} {d' t : Int} {i j : Nat} (hn : n.toInt = gc f d.toInt i) (hv : v = f (1 + i)) (hj : j = i + 1) : (v.toInt = d.toInt → t = n.toInt + 1 → t = gc f d.toInt j) ∧ (¬ v.toInt = d.toInt → t = n.toInt + 0 → t = gc f d.toInt j) := by
  subst hj hv
  constructor
  · intro e h
    show _ = gc f d.toInt i + _
    rw [if_pos e, h, hn]
  · intro e h
    show _ = gc f d.toInt i + _
    rw [if_neg e, h, hn]
theorem gw_next {f : Nat → Int32} {n v : Int32} {t : Int} {k i j : Nat} (hn : n.toInt = gw f k i) (hv : v = f (73 + 3 * k + i)) (hj : j = i + 1) (h : t = n.toInt + v.toInt) : t = gw f k j := by
  subst hj hv
  show _ = gw f k i + _
  rw [h, hn]
theorem upd_below {f F G : Nat → Int32} {B a : Nat} {x : Int32} (h : ∀ j : Nat, j < B → F j = f j) (hG : G = upd F a x) (ha : B ≤ a) : ∀ j : Nat, j < B → G j = f j := fun j hj => by
  rw [hG, upd_ne _ _ (by omega)]; exact h j hj
theorem gp_node2 {f F g : Nat → Int32} (h : GP f) (hF : ∀ j : Nat, j < 121 → F j = f j) {n a b : Nat} {x y w : Int32} (ha : a = 1 + n) (hb : b = 109 + n) (hg : g = upd (upd (upd F a x) b y) 0 w) (hn : (f 0).toInt = (n : Int)) (hn12 : n < 12) (hx : 0 ≤ x.toInt ∧ x.toInt ≤ 3) (hy : y.toInt = -1) (hw : w.toInt = (n : Int) + 1) (c0 : x.toInt = 0 → ¬ gc f 0 n = 4) (c1 : ¬ x.toInt = 0 → ¬ (n : Int) - gc f 0 n = 8) (c3 : x.toInt = 3 → ¬ gc f 3 n = 5) : GP g := by
  subst ha hb
  have o : ∀ j : Nat, j < 121 → j ≠ 1 + n → j ≠ 109 + n → j ≠ 0 → g j = f j := fun j h0 h1 h2 h3 => by rw [hg, upd_ne _ _ h3, upd_ne _ _ h2, upd_ne _ _ h1]; exact hF j h0
  have e1 : g (1 + n) = x := by rw [hg, upd_ne _ _ (by omega), upd_ne _ _ (by omega), upd_at]
  have e2 : g (109 + n) = y := by rw [hg, upd_ne _ _ (by omega), upd_at]
  have e0 : g 0 = w := by rw [hg, upd_at]
  exact (gp_node h hn (by rw [e0]; exact hw) (fun k q e => o _ (by omega) (by omega) (by omega) (by omega)) (by rw [e1]; exact hx) (fun k q => o _ (by omega) (by omega) (by omega) (by omega)) (fun k q => o _ (by omega) (by omega) (by omega) (by omega)) (fun k q => o _ (by omega) (by omega) (by omega) (by omega)) (fun k q => by rw [o _ (by omega) (by omega) (by omega) (by omega)]; exact (h.1.2.1 k q).2.1) (fun k q e => o _ (by omega) (by omega) (by omega) (by omega)) (by rw [e2]; exact hy) (by rw [e1]; exact c0) (by rw [e1]; exact c1) (by rw [e1]; exact c3)).2
theorem gp_node3 {f F g : Nat → Int32} (h : GP f) (hF : ∀ j : Nat, j < 121 → F j = f j) {n a b c : Nat} {x y w v : Int32} (ha : a = 1 + n) (hb : b = 109 + n) (hc : c = 13 + n) (hg : g = upd (upd (upd (upd F a x) b y) c v) 0 w) (hn : (f 0).toInt = (n : Int)) (hn12 : n < 12) (hx : 0 ≤ x.toInt ∧ x.toInt ≤ 3) (hy : y.toInt = -1) (hw : w.toInt = (n : Int) + 1) (hv : 0 ≤ v.toInt ∧ v.toInt ≤ 9) (c0 : x.toInt = 0 → ¬ gc f 0 n = 4) (c1 : ¬ x.toInt = 0 → ¬ (n : Int) - gc f 0 n = 8) (c3 : x.toInt = 3 → ¬ gc f 3 n = 5) : GP g := by
  subst ha hb hc
  have o : ∀ j : Nat, j < 121 → j ≠ 1 + n → j ≠ 109 + n → j ≠ 13 + n → j ≠ 0 → g j = f j := fun j h0 h1 h2 h4 h3 => by rw [hg, upd_ne _ _ h3, upd_ne _ _ h4, upd_ne _ _ h2, upd_ne _ _ h1]; exact hF j h0
  have e1 : g (1 + n) = x := by rw [hg, upd_ne _ _ (by omega), upd_ne _ _ (by omega), upd_ne _ _ (by omega), upd_at]
  have e2 : g (109 + n) = y := by rw [hg, upd_ne _ _ (by omega), upd_ne _ _ (by omega), upd_at]
  have e3 : g (13 + n) = v := by rw [hg, upd_ne _ _ (by omega), upd_at]
  have e0 : g 0 = w := by rw [hg, upd_at]
  exact (gp_node h hn (by rw [e0]; exact hw) (fun k q e => o _ (by omega) (by omega) (by omega) (by omega) (by omega)) (by rw [e1]; exact hx) (fun k q => o _ (by omega) (by omega) (by omega) (by omega) (by omega)) (fun k q => o _ (by omega) (by omega) (by omega) (by omega) (by omega)) (fun k q => o _ (by omega) (by omega) (by omega) (by omega) (by omega)) (fun k q => by
    by_cases e : k = n
    · subst e; rw [e3]; exact hv
    · rw [o _ (by omega) (by omega) (by omega) (by omega) (by omega)]; exact (h.1.2.1 k q).2.1) (fun k q e => o _ (by omega) (by omega) (by omega) (by omega) (by omega)) (by rw [e2]; exact hy) (by rw [e1]; exact c0) (by rw [e1]; exact c1) (by rw [e1]; exact c3)).2
/-- a name's letters and the rest: a row goes on as it stood -/
theorem upd_fill {F G : Nat → Int32} {v x : Int32} {i a : Nat} (h : ∀ j : Nat, j < i → F j = v) (hG : G = upd F a x) (ha : a = i) (hx : x = v) : ∀ j : Nat, j < i + 1 → G j = v := fun j hj => by
  subst ha hx
  rw [hG]
  by_cases e : j = a
  · subst e; rw [upd_at]
  · rw [upd_ne _ _ e]; exact h j (by omega)
theorem va_cpy_step {f h F : Nat → Int32} {sp dp n : Nat} (hF : F = va_cpy f h sp dp n) {a : Nat} {v : Int32} (ha : a = dp + n) (hv : v = f (sp + n)) : upd F a v = va_cpy f h sp dp (n + 1) := by
  subst hF ha hv
  funext j
  unfold va_cpy
  by_cases e : j = dp + n
  · subst e
    rw [upd_at, if_pos (by omega), show sp + (dp + n - dp) = sp + n by omega]
  · rw [upd_ne _ _ e]
    by_cases q : dp ≤ j ∧ j < dp + n
    · rw [if_pos q, if_pos (by omega)]
    · rw [if_neg q, if_neg (by omega)]
theorem va_cpy_zero (f h : Nat → Int32) (sp dp : Nat) : h = va_cpy f h sp dp 0 := by
  funext j
  unfold va_cpy
  rw [if_neg (by omega)]
theorem gs_cong {f g : Nat → Int32} (h : GS f) (e : ∀ j : Nat, j < 193 → g j = f j) : GS g := by
  refine ⟨gp_cong h.1 (e _ (by omega)) (fun k q => e _ (by omega)) (fun k q => e _ (by omega)) (fun k q => e _ (by omega)) (fun k q => e _ (by omega)) (fun k q => by rw [e _ (by omega)]; exact (h.r.2.1 k q).2.1) (fun k q => by rw [e _ (by omega)]; exact ⟨(h.r.2.1 k q).2.2.2, h.1.2.2.2.2.2.1 k q⟩), fun k q => ?_⟩
  rw [e _ (by omega), e _ (by omega)]
  exact h.2 k q
/-- the slot of a row of rows -/
def sl (f : Nat → Int32) (a : Nat) : Nat → Int32 := fun i => f (a + i)
theorem gs_cpy_in {f h g : Nat → Int32} {sp dp : Nat} (hf : GS (sl f sp)) (hg : g = va_cpy f h sp dp 193) : GS (sl g dp) := gs_cong hf (fun j q => by
  subst hg
  show va_cpy f h sp dp 193 (dp + j) = f (sp + j)
  unfold va_cpy
  rw [if_pos (by omega), show dp + j - dp = j by omega])
theorem gs_cpy_out {f h g : Nat → Int32} {sp dp a : Nat} (hf : GS (sl h a)) (hg : g = va_cpy f h sp dp 193) (hd : a + 193 ≤ dp ∨ dp + 193 ≤ a) : GS (sl g a) := gs_cong hf (fun j q => by
  subst hg
  show va_cpy f h sp dp 193 (a + j) = h (a + j)
  unfold va_cpy
  rw [if_neg (by omega)])
theorem sl_zero (f : Nat → Int32) : sl f 0 = f := funext (fun i => by show f (0 + i) = f i; rw [Nat.zero_add])
/-- a fact that stands by till it is called for -/
def Hide (p : Prop) : Prop := p
theorem Hide.get {p : Prop} (h : Hide p) : p := h
/-- a token while it is read: so many bytes, the number, how many of them letters -/
def NX (n num sm : Int) : Prop := 0 ≤ sm ∧ sm ≤ n ∧ 0 ≤ num ∧ num ≤ 814 ∧ (n = 0 → num = 0) ∧ (n = 1 → num ≤ 74) ∧ (sm = 0 → num ≤ 99 ∧ (n = 1 → num ≤ 9))
theorem NX_zero {n num sm : Int} (h1 : n = 0) (h2 : num = 0) (h3 : sm = 0) : NX n num sm := by subst h1 h2 h3; unfold NX; omega
theorem NX_rng {n num sm : Int} (h : NX n num sm) : 0 ≤ num ∧ num ≤ 814 := ⟨h.2.2.1, h.2.2.2.1⟩
theorem NX_sm {n num sm : Int} (h : NX n num sm) : 0 ≤ sm ∧ sm ≤ n := ⟨h.1, h.2.1⟩
theorem NX_end {n num sm : Int} (h : NX n num sm) (e : sm = 0) : num ≤ 99 := (h.2.2.2.2.2.2 e).1
theorem NX_go {n num sm n' num' sm' c : Int} (h : NX n num sm) (hn : n' = n + 1) (hc : (97 ≤ c ∧ c ≤ 122 ∧ sm' = sm + 1) ∨ (48 ≤ c ∧ c ≤ 57 ∧ sm' = sm)) (hu : (n < 2 ∧ num' = 10 * num + c - 48) ∨ (2 ≤ n ∧ num' = num)) : NX n' num' sm' := by
  unfold NX at *
  rcases hc with hc | hc <;> rcases hu with hu | hu <;> omega
theorem pkb_cg {f : Nat → Int32} {p q z : Int32} (h : p.toInt = q.toInt) : pkb f p z = pkb f q z := by rw [Int32.toInt_inj.mp h]
/-! the class's network as a row of numbers -/
def absC (nd : Int32) (kd' py nm wy hd tg wt : Nat → Int32) : Nat → Int := fun j => if j = 0 then nd.toInt else if j < 13 then (kd' (j - 1)).toInt else if j < 25 then (py (j - 13)).toInt else if j < 37 then (wy (j - 25)).toInt else if j < 73 then (tg (j - 37)).toInt else if j < 109 then (wt (j - 73)).toInt else if j < 121 then (hd (j - 109)).toInt else (nm (j - 121)).toInt
theorem absC_0 {nd : Int32} {k y n w h t x : Nat → Int32} : absC nd k y n w h t x 0 = nd.toInt := rfl
theorem absC_k {nd : Int32} {k y n w h t x : Nat → Int32} {p : Nat} (hp : p < 12) : absC nd k y n w h t x (1 + p) = (k p).toInt := by
  unfold absC
  rw [if_neg (by omega), if_pos (by omega), show 1 + p - 1 = p by omega]
theorem absC_y {nd : Int32} {k y n w h t x : Nat → Int32} {p : Nat} (hp : p < 12) : absC nd k y n w h t x (13 + p) = (y p).toInt := by
  unfold absC
  rw [if_neg (by omega), if_neg (by omega), if_pos (by omega), show 13 + p - 13 = p by omega]
theorem absC_w {nd : Int32} {k y n w h t x : Nat → Int32} {p : Nat} (hp : p < 12) : absC nd k y n w h t x (25 + p) = (w p).toInt := by
  unfold absC
  rw [if_neg (by omega), if_neg (by omega), if_neg (by omega), if_pos (by omega), show 25 + p - 25 = p by omega]
theorem absC_t {nd : Int32} {k y n w h t x : Nat → Int32} {p i : Nat} (hp : p < 12) (hi : i < 3) : absC nd k y n w h t x (37 + 3 * p + i) = (t (3 * p + i)).toInt := by
  unfold absC
  rw [if_neg (by omega), if_neg (by omega), if_neg (by omega), if_neg (by omega), if_pos (by omega), show 37 + 3 * p + i - 37 = 3 * p + i by omega]
theorem absC_x {nd : Int32} {k y n w h t x : Nat → Int32} {p i : Nat} (hp : p < 12) (hi : i < 3) : absC nd k y n w h t x (73 + 3 * p + i) = (x (3 * p + i)).toInt := by
  unfold absC
  rw [if_neg (by omega), if_neg (by omega), if_neg (by omega), if_neg (by omega), if_neg (by omega), if_pos (by omega), show 73 + 3 * p + i - 73 = 3 * p + i by omega]
theorem absC_h {nd : Int32} {k y n w h t x : Nat → Int32} {p : Nat} (hp : p < 12) : absC nd k y n w h t x (109 + p) = (h p).toInt := by
  unfold absC
  rw [if_neg (by omega), if_neg (by omega), if_neg (by omega), if_neg (by omega), if_neg (by omega), if_neg (by omega), if_pos (by omega), show 109 + p - 109 = p by omega]
theorem absC_n {nd : Int32} {k y n w h t x : Nat → Int32} (p : Nat) : absC nd k y n w h t x (121 + p) = (n p).toInt := by
  unfold absC
  rw [if_neg (by omega), if_neg (by omega), if_neg (by omega), if_neg (by omega), if_neg (by omega), if_neg (by omega), if_neg (by omega), show 121 + p - 121 = p by omega]
/-- a node that is found in the row of names -/
theorem absC_fd {nd : Int32} {k y n w h t x : Nat → Int32} {v r : Int} (q : FN nd.toInt (fun p => (n p).toInt) v r) : FDn (absC nd k y n w h t x) v r := by
  have e : (fun p => absC nd k y n w h t x (121 + p)) = fun p => (n p).toInt := funext (fun p => absC_n p)
  unfold FDn
  rw [e]; exact q
theorem absC_cn {nd : Int32} {k y n w h t x : Nat → Int32} {z : Int} {m : Nat} (hm : m ≤ 12) : cn (absC nd k y n w h t x) z m = cnf (fun p => (k p).toInt) z m := cnf_congr (fun p hp => absC_k (by omega))
theorem absC_ws {nd : Int32} {k y n w h t x : Nat → Int32} {p m : Nat} (hp : p < 12) (hm : m ≤ 3) : wsum (absC nd k y n w h t x) p m = wsf (fun i => (x (3 * p + i)).toInt) m := wsf_congr (fun i hi => absC_x hp (by omega))
theorem absC_addN {nd nd' c v z a0 am : Int32} {c9 y9 : Int} {k y n w h t x k' y' n' w' h' : Nat → Int32} (h0 : 0 ≤ nd.toInt) (h1 : nd.toInt < 12) (e0 : nd'.toInt = nd.toInt + 1) (ek : k' = upd k nd.toNatClampNeg c) (ey : y' = upd y nd.toNatClampNeg z) (en : n' = upd n nd.toNatClampNeg v) (ew : w' = upd w nd.toNatClampNeg a0) (eh : h' = upd h nd.toNatClampNeg am) (ha : a0.toInt = 0) (hm : am.toInt = -1) (hw : ∀ p : Nat, 0 ≤ (w p).toInt ∧ (w p).toInt ≤ 3) (hc : c.toInt = c9) (hz : z.toInt = y9) : AddN (absC nd k y n w h t x) (absC nd' k' y' n' w' h' t x) c9 v.toInt y9 := by
  have hN : nd.toNatClampNeg = nd.toInt.toNat := rfl
  have hb : nd.toInt.toNat < 12 := by omega
  rw [hN] at ek ey en ew eh
  refine ⟨e0, fun p hp => ?_, ?_, ?_, ?_, ?_, ?_⟩
  · have hp' : (p : Int) < nd.toInt := hp
    have hp2 : p < 12 := by omega
    have ne : p ≠ nd.toInt.toNat := by omega
    refine ⟨?_, ?_, ?_, ?_, ?_, fun i hi => ?_⟩
    · rw [absC_k hp2, absC_k hp2, ek, upd_ne _ _ ne]
    · rw [absC_y hp2, absC_y hp2, ey, upd_ne _ _ ne]
    · rw [absC_w hp2, absC_w hp2, ew, upd_ne _ _ ne]
    · rw [absC_h hp2, absC_h hp2, eh, upd_ne _ _ ne]
    · rw [absC_n, absC_n, en, upd_ne _ _ ne]
    · rw [absC_w hp2] at hi
      have hi2 : i < 3 := by have := (hw p).2; omega
      exact ⟨by rw [absC_t hp2 hi2, absC_t hp2 hi2], by rw [absC_x hp2 hi2, absC_x hp2 hi2]⟩
  · rw [absC_0, absC_k hb, ek, upd_at, hc]
  · rw [absC_0, absC_y hb, ey, upd_at, hz]
  · rw [absC_0, absC_w hb, ew, upd_at, ha]
  · rw [absC_0, absC_h hb, eh, upd_at, hm]
  · rw [absC_0, absC_n, en, upd_at]
theorem absC_addW {nd r q v wv : Int32} {v9 : Int} {i1 : Nat} {k y n w h t x t' x' w' : Nat → Int32} (h1 : nd.toInt ≤ 12) (r0 : 0 ≤ r.toInt) (r1 : r.toInt < nd.toInt) (w0 : 0 ≤ (w r.toInt.toNat).toInt) (w1 : (w r.toInt.toNat).toInt < 3) (hi1 : i1 = 3 * r.toInt.toNat + (w r.toInt.toNat).toInt.toNat) (et : t' = upd t i1 q) (ex : x' = upd x i1 v) (ew : w' = upd w r.toInt.toNat wv) (hv : wv.toInt = (w r.toInt.toNat).toInt + 1) (hw : ∀ p : Nat, 0 ≤ (w p).toInt ∧ (w p).toInt ≤ 3) (hv9 : v.toInt = v9) : AddW (absC nd k y n w h t x) (absC nd k y n w' h t' x') r.toInt q.toInt v9 := by
  have hb : r.toInt.toNat < 12 := by omega
  refine ⟨by rw [absC_0, absC_0], r0, by rw [absC_0]; exact r1, ?_, fun p hp hne => ?_, ?_, ?_, ?_, ?_, ?_, fun i hi => ?_, ?_, ?_⟩
  · rw [absC_w hb]; exact w0
  · have hp' : (p : Int) < nd.toInt := hp
    have hp2 : p < 12 := by omega
    have ne : p ≠ r.toInt.toNat := by omega
    refine ⟨by rw [absC_k hp2, absC_k hp2], by rw [absC_y hp2, absC_y hp2], by rw [absC_w hp2, absC_w hp2, ew, upd_ne _ _ ne], by rw [absC_h hp2, absC_h hp2], by rw [absC_n, absC_n], fun i hi => ?_⟩
    rw [absC_w hp2] at hi
    have hi2 : i < 3 := by have := (hw p).2; omega
    have ni : 3 * p + i ≠ i1 := by omega
    exact ⟨by rw [absC_t hp2 hi2, absC_t hp2 hi2, et, upd_ne _ _ ni], by rw [absC_x hp2 hi2, absC_x hp2 hi2, ex, upd_ne _ _ ni]⟩
  · rw [absC_k hb, absC_k hb]
  · rw [absC_y hb, absC_y hb]
  · rw [absC_h hb, absC_h hb]
  · rw [absC_n, absC_n]
  · rw [absC_w hb, absC_w hb, ew, upd_at, hv]
  · rw [absC_w hb] at hi
    have hi2 : i < 3 := by omega
    have ni : 3 * r.toInt.toNat + i ≠ i1 := by omega
    exact ⟨by rw [absC_t hb hi2, absC_t hb hi2, et, upd_ne _ _ ni], by rw [absC_x hb hi2, absC_x hb hi2, ex, upd_ne _ _ ni]⟩
  · rw [absC_w hb, absC_t hb (by omega), et, ← hi1, upd_at]
  · rw [absC_w hb, absC_x hb (by omega), ex, ← hi1, upd_at, hv9]
def LKc (nd : Int) (k w : Nat → Int32) : Prop := ∃ p : Nat, (p : Int) < nd ∧ (k p).toInt ≠ 0 ∧ (w p).toInt = 0
/-- how many nodes there can be -/
def BDn (a : Nat → Int) : Prop := 0 ≤ a 0 ∧ cn a 0 (a 0).toNat ≤ 4 ∧ a 0 - cn a 0 (a 0).toNat ≤ 8 ∧ ∀ p : Nat, (p : Int) < a 0 → 0 ≤ a (25 + p) ∧ a (25 + p) ≤ 3
theorem cn_succ (a : Nat → Int) (k : Int) (n : Nat) : cn a k (n + 1) = cn a k n + if a (1 + n) = k then 1 else 0 := rfl
theorem BDn.addN {a a' : Nat → Int} {k v y : Int} (h : BDn a) (nf : ¬ FULL a k) (q : AddN a a' k v y) : BDn a' := by
  obtain ⟨q0, q1, q2, q3, q4, q5, q6⟩ := q
  obtain ⟨b0, b1, b2, b3⟩ := h
  have e : (a' 0).toNat = (a 0).toNat + 1 := by omega
  have c : cn a' 0 (a 0).toNat = cn a 0 (a 0).toNat := cn_congr (fun p hp => (q1 p (by omega)).1.symm)
  have nf' : ¬ (k = 0 ∧ 4 ≤ cn a 0 (a 0).toNat) ∧ ¬ (k ≠ 0 ∧ 8 ≤ a 0 - cn a 0 (a 0).toNat) := ⟨fun z => nf (Or.inl z), fun z => nf (Or.inr ⟨z.1, Or.inl z.2⟩)⟩
  refine ⟨by omega, ?_, ?_, fun p hp => ?_⟩
  · rw [e, cn_succ, c, q2]
    by_cases z : k = 0
    · rw [if_pos z]; omega
    · rw [if_neg z]; omega
  · rw [e, cn_succ, c, q2]
    by_cases z : k = 0
    · rw [if_pos z]; omega
    · rw [if_neg z]; omega
  · by_cases z : (p : Int) < a 0
    · have s := (q1 p z).2.2.1
      rw [← s]; exact b3 p z
    · have : p = (a 0).toNat := by omega
      subst this
      rw [q4]; omega
theorem BDn.addW {a a' : Nat → Int} {r q w : Int} (h : BDn a) (hr : a (25 + r.toNat) < 3) (x : AddW a a' r q w) : BDn a' := by
  obtain ⟨x0, x1, x2, x3, x4, x5, x6, x7, x8, x9, x10, x11, x12⟩ := x
  obtain ⟨b0, b1, b2, b3⟩ := h
  have c : cn a' 0 (a 0).toNat = cn a 0 (a 0).toNat := cn_congr (fun p hp => by
    by_cases z : (p : Int) = r
    · have : p = r.toNat := by omega
      subst this; exact x5
    · exact (x4 p (by omega) z).1.symm)
  refine ⟨by omega, by rw [x0, c]; exact b1, by rw [x0, c]; exact b2, fun p hp => ?_⟩
  by_cases z : (p : Int) = r
  · have : p = r.toNat := by omega
    subst this
    rw [x9]; omega
  · have s := (x4 p (by omega) z).2.2.1
    rw [← s]; exact b3 p (by omega)
theorem BDn.line {g : Nat → Int} {t : Int} {j e : Nat} {v : Int} {a : Nat → Int} {t' : Int} {j' e' : Nat} {v' : Int} {a' : Nat → Int} (h : BDn a) (q : LOk g t j e v a t' j' e' v' a') : BDn a' := by
  obtain ⟨-, t1, j1, e1, v1, c, -, -⟩ := q
  rcases c with ⟨-, -, nf, u1, i1, f1, w1, -, -, -, u2, i2, f2, w2, -, c⟩ | ⟨-, u1, i1, f1, w1, r1, -, -, -, -, -, hw3, u2, i2, f2, w2, r2, -, -, -, -, u3, i3, f3, w3, -, c⟩
  · rcases c with ⟨-, c, -⟩ | ⟨k0, -, -, -, c⟩
    · exact h.addN nf c
    · rw [k0] at nf; exact h.addN nf c
  · rcases c with ⟨-, -, -, -, -, -, c⟩ | ⟨-, -, -, -, c⟩ | ⟨-, -, c⟩
    · exact h.addW hw3 c
    · exact h.addW hw3 c
    · exact h.addW hw3 c
theorem RCH.bd {g : Nat → Int} : ∀ {k : Nat} {t : Int} {j e : Nat} {v : Int} {a : Nat → Int}, RCH g k t j e v a → BDn a
  | 0, _, _, _, _, a, x => by
    have h0 := x.2
    refine ⟨by omega, ?_, ?_, fun p hp => by omega⟩
    · rw [h0]; show (0 : Int) ≤ 4; decide
    · rw [h0]; show (0 : Int) - 0 ≤ 8; decide
  | _ + 1, _, _, _, _, _, x => by
    obtain ⟨_, _, _, _, _, x1, -, x3⟩ := x
    exact (RCH.bd x1).line x3
/-- the five words' numbers in the class -/
def KWs (f : Nat → Int32) : Prop := (f 0).toInt = 4027 ∧ (f 1).toInt = 9528 ∧ (f 2).toInt = 9734 ∧ (f 3).toInt = 47328224
def kd3 (v : Int) : Int := if v = 4027 then 0 else if v = 9528 then 1 else if v = 9734 then 2 else if v = 47328224 then 3 else -1
theorem kd3_rng (v : Int) : -1 ≤ kd3 v ∧ kd3 v ≤ 3 := by
  unfold kd3; repeat' split
  all_goals omega
theorem kd_kd3 (v : Int) (h : kd3 v ≠ -1) : kd v = kd3 v := by
  unfold kd3 at h ⊢; unfold kd
  repeat' split
  all_goals first | rfl | omega | (exfalso; simp_all)
theorem kd_way {v : Int} (h : v = 16819) : kd v = 4 := by subst h; decide
theorem kd_none {v : Int} (h : kd3 v = -1) (h2 : v ≠ 16819) : kd v = -1 := by
  unfold kd3 at h; unfold kd
  repeat' split
  all_goals first | rfl | omega | (exfalso; simp_all)
theorem nmc_no3 {t v : Int} (h : kd3 v ≠ -1) : ¬ NMC t v := fun q => by
  have e := kd_kd3 v h
  have := kd3_rng v
  have := q.2
  omega
theorem nmc_noW {t v : Int} (h : v = 16819) : ¬ NMC t v := fun q => by
  have e := kd_way h
  have := q.2
  omega
theorem BDn.lt {a : Nat → Int} {k : Int} (h : BDn a) (nf : ¬ FULL a k) : a 0 ≤ 11 := by
  obtain ⟨b0, b1, b2, b3⟩ := h
  have nf' : ¬ (k = 0 ∧ 4 ≤ cn a 0 (a 0).toNat) ∧ ¬ (k ≠ 0 ∧ 8 ≤ a 0 - cn a 0 (a 0).toNat) := ⟨fun z => nf (Or.inl z), fun z => nf (Or.inr ⟨z.1, Or.inl z.2⟩)⟩
  by_cases z : k = 0
  · omega
  · omega
def FLk (nd : Int) (k : Nat → Int32) (c : Int) : Prop := (c = 0 ∧ 4 ≤ cnf (fun p => (k p).toInt) 0 nd.toNat) ∨ (c ≠ 0 ∧ (8 ≤ nd - cnf (fun p => (k p).toInt) 0 nd.toNat ∨ (c = 3 ∧ 5 ≤ cnf (fun p => (k p).toInt) 3 nd.toNat)))
theorem absC_full {nd : Int32} {k y n w h t x : Nat → Int32} {c : Int} (h1 : nd.toInt ≤ 12) : FLk nd.toInt k c ↔ FULL (absC nd k y n w h t x) c := by
  have e : ∀ z : Int, cn (absC nd k y n w h t x) z nd.toInt.toNat = cnf (fun p => (k p).toInt) z nd.toInt.toNat := fun z => absC_cn (by omega)
  unfold FLk FULL
  rw [absC_0, e 0, e 3]
theorem absC_lack {nd : Int32} {k y n w h t x : Nat → Int32} (h1 : nd.toInt ≤ 12) : LKc nd.toInt k w ↔ LACK (absC nd k y n w h t x) := by
  constructor
  · rintro ⟨p, a, b, c⟩
    exact ⟨p, a, by rw [absC_k (by omega)]; exact b, by rw [absC_w (by omega)]; exact c⟩
  · rintro ⟨p, a, b, c⟩
    have a' : (p : Int) < nd.toInt := a
    exact ⟨p, a, by rw [absC_k (by omega)] at b; exact b, by rw [absC_w (by omega)] at c; exact c⟩
theorem absC_hwr {nd r : Int32} {k y n w h t x : Nat → Int32} (hb : BW (absC nd k y n w h t x)) (h1 : nd.toInt ≤ 12) (r0 : 0 ≤ r.toInt) (r1 : r.toInt < nd.toInt) (hw : ∀ p : Nat, 0 ≤ (w p).toInt ∧ (w p).toInt ≤ 3) : ∀ i : Nat, (i : Int) < (w r.toInt.toNat).toInt → 0 ≤ (x (3 * r.toInt.toNat + i)).toInt ∧ (x (3 * r.toInt.toNat + i)).toInt ≤ 3 := fun i hi => by
  have q := hb r.toInt.toNat (by rw [absC_0]; omega) i (by rw [absC_w (by omega)]; exact hi)
  have hi3 : i < 3 := by have := (hw r.toInt.toNat).2; omega
  rw [absC_x (by omega) hi3] at q; exact q
