/-! a line, from its first token on, which is already read; the whole tape -/
def LOk (g : Nat → Int) (t : Int) (j e : Nat) (v : Int) (a : Nat → Int) (t' : Int) (j' e' : Nat) (v' : Int) (a' : Nat → Int) : Prop :=
  t = 1 ∧ ∃ (t1 : Int) (j1 e1 : Nat) (v1 : Int), ((0 ≤ kd v ∧ kd v ≤ 3 ∧ NOk g e a (kd v) a' t1 j1 e1 v1) ∨ (kd v = 4 ∧ WyOk g e a a' t1 j1 e1 v1)) ∧ t1 = 3 ∧ TK g e1 t' j' e' v'
def LFl (g : Nat → Int) (t : Int) (j e : Nat) (v : Int) (a : Nat → Int) (P : Int) : Prop :=
  ((t ≠ 1 ∨ kd v = -1) ∧ P = j) ∨ (t = 1 ∧ ((0 ≤ kd v ∧ kd v ≤ 3 ∧ (NFl g j e a (kd v) P ∨ ∃ (a' : Nat → Int) (t1 : Int) (j1 e1 : Nat) (v1 : Int), NOk g e a (kd v) a' t1 j1 e1 v1 ∧ t1 ≠ 3 ∧ P = j1)) ∨ (kd v = 4 ∧ (WFl g e a P ∨ ∃ (a' : Nat → Int) (t1 : Int) (j1 e1 : Nat) (v1 : Int), WyOk g e a a' t1 j1 e1 v1 ∧ t1 ≠ 3 ∧ P = j1))))
/-- two views of one token -/
def TEq (t : Int) (j e : Nat) (v : Int) (t' : Int) (j' e' : Nat) (v' : Int) : Prop := j = j' ∧ t = t' ∧ (t ≠ 4 → e = e') ∧ (t = 1 ∨ t = 2 → v = v')
theorem LOk.det {g : Nat → Int} {t s : Int} {j i e d : Nat} {v u : Int} {a b : Nat → Int} {t' s' : Int} {j' i' e' d' : Nat} {v' u' : Int} {a' b' : Nat → Int} (hT : TEq t j e v s i d u) (h : AEq a b) (x : LOk g t j e v a t' j' e' v' a') (y : LOk g s i d u b s' i' d' u' b') : AEq a' b' ∧ TEq t' j' e' v' s' i' d' u' := by
  obtain ⟨x0, t1, j1, e1, v1, xa, xb, xc⟩ := x
  obtain ⟨y0, s1, i1, d1, u1, ya, yb, yc⟩ := y
  obtain ⟨h1, h2, h3, h4⟩ := hT
  have h3 := h3 (by omega)
  have h4 := h4 (Or.inl x0)
  subst h1; subst h2; subst h3; subst h4
  have key : AEq a' b' ∧ j1 = i1 ∧ t1 = s1 ∧ (t1 ≠ 4 → e1 = d1) ∧ (t1 = 1 ∨ t1 = 2 → v1 = u1) := by
    rcases xa with ⟨k0, k1, xn⟩ | ⟨k0, xw⟩
    · rcases ya with ⟨-, -, yn⟩ | ⟨k2, -⟩
      · exact xn.det h yn
      · omega
    · rcases ya with ⟨-, k2, yn⟩ | ⟨-, yw⟩
      · omega
      · exact xw.det h yw
  have he := key.2.2.2.1 (by omega)
  subst he
  exact ⟨key.1, xc.det yc⟩
theorem LOk.no {g : Nat → Int} {t s : Int} {j i e d : Nat} {v u : Int} {a b : Nat → Int} {t' : Int} {j' e' : Nat} {v' : Int} {a' : Nat → Int} {P : Int} (hT : TEq t j e v s i d u) (h : AEq a b) (x : LOk g t j e v a t' j' e' v' a') (y : LFl g s i d u b P) : False := by
  obtain ⟨x0, t1, j1, e1, v1, xa, xb, xc⟩ := x
  obtain ⟨h1, h2, h3, h4⟩ := hT
  have h3 := h3 (by omega)
  have h4 := h4 (Or.inl x0)
  subst h1; subst h2; subst h3; subst h4
  rcases y with ⟨y0, -⟩ | ⟨-, y⟩
  · rcases y0 with y0 | y0
    · exact y0 x0
    · rcases xa with ⟨k0, k1, xn⟩ | ⟨k0, xw⟩
      · omega
      · omega
  · rcases xa with ⟨k0, k1, xn⟩ | ⟨k0, xw⟩
    · rcases y with ⟨-, -, y⟩ | ⟨k2, -⟩
      · rcases y with y | ⟨b', s1, i1, d1, u1, yn, y3, -⟩
        · exact xn.no h y
        · have q := xn.det h yn
          exact y3 (q.2.2.1.symm.trans xb)
      · omega
    · rcases y with ⟨-, k2, -⟩ | ⟨-, y⟩
      · omega
      · rcases y with y | ⟨b', s1, i1, d1, u1, yn, y3, -⟩
        · exact (xw.no h y).1 xb
        · have q := xw.det h yn
          exact y3 (q.2.2.1.symm.trans xb)
theorem LFl.det {g : Nat → Int} {t s : Int} {j i e d : Nat} {v u : Int} {a b : Nat → Int} {P P' : Int} (hT : TEq t j e v s i d u) (h : AEq a b) (x : LFl g t j e v a P) (y : LFl g s i d u b P') : P = P' := by
  obtain ⟨h1, h2, h3, h4⟩ := hT
  subst h1; subst h2
  by_cases t1 : t = 1
  · have h3 := h3 (by omega)
    have h4 := h4 (Or.inl t1)
    subst h3; subst h4
    rcases x with ⟨x0, xp⟩ | ⟨-, x⟩
    · rcases y with ⟨-, yp⟩ | ⟨-, y⟩
      · rw [xp, yp]
      · rcases x0 with x0 | x0
        · exact absurd t1 x0
        · rcases y with ⟨k0, -, -⟩ | ⟨k0, -⟩
          · omega
          · omega
    · rcases y with ⟨y0, yp⟩ | ⟨-, y⟩
      · rcases y0 with y0 | y0
        · exact absurd t1 y0
        · rcases x with ⟨k0, -, -⟩ | ⟨k0, -⟩
          · omega
          · omega
      · rcases x with ⟨k0, k1, x⟩ | ⟨k0, x⟩
        · rcases y with ⟨-, -, y⟩ | ⟨k2, -⟩
          · rcases x with x | ⟨a', t1, j1, e1, v1, xn, x3, xp⟩
            · rcases y with y | ⟨b', s1, i1, d1, u1, yn, y3, yp⟩
              · exact x.det h y
              · exact (yn.no h.symm x).elim
            · rcases y with y | ⟨b', s1, i1, d1, u1, yn, y3, yp⟩
              · exact (xn.no h y).elim
              · rw [xp, yp, (xn.det h yn).2.1]
          · omega
        · rcases y with ⟨-, k2, -⟩ | ⟨-, y⟩
          · omega
          · rcases x with x | ⟨a', t1, j1, e1, v1, xn, x3, xp⟩
            · rcases y with y | ⟨b', s1, i1, d1, u1, yn, y3, yp⟩
              · exact x.det h y
              · rw [(yn.no h.symm x).2, yp]
            · rcases y with y | ⟨b', s1, i1, d1, u1, yn, y3, yp⟩
              · rw [(xn.no h y).2, xp]
              · rw [xp, yp, (xn.det h yn).2.1]
  · rcases x with ⟨-, xp⟩ | ⟨x, -⟩
    · rcases y with ⟨-, yp⟩ | ⟨y, -⟩
      · rw [xp, yp]
      · exact absurd y t1
    · exact absurd x t1
/-- behind k lines: the token that is read, the network that is told -/
def RCH (g : Nat → Int) : Nat → Int → Nat → Nat → Int → (Nat → Int) → Prop
  | 0, t, j, e, v, a => TK g 0 t j e v ∧ a 0 = 0
  | k + 1, t, j, e, v, a => ∃ (t0 : Int) (j0 e0 : Nat) (v0 : Int) (a0 : Nat → Int), RCH g k t0 j0 e0 v0 a0 ∧ t0 ≠ 0 ∧ LOk g t0 j0 e0 v0 a0 t j e v a
theorem RCH.det {g : Nat → Int} : ∀ {k : Nat} {t s : Int} {j i e d : Nat} {v u : Int} {a b : Nat → Int}, RCH g k t j e v a → RCH g k s i d u b → AEq a b ∧ TEq t j e v s i d u
  | 0, _, _, _, _, _, _, _, _, _, _, x, y => ⟨⟨x.2.trans y.2.symm, fun p hp => by have := x.2; omega⟩, x.1.det y.1⟩
  | k + 1, _, _, _, _, _, _, _, _, _, _, x, y => by
    obtain ⟨t0, j0, e0, v0, a0, x1, x2, x3⟩ := x
    obtain ⟨s0, i0, d0, u0, b0, y1, y2, y3⟩ := y
    obtain ⟨q1, q2⟩ := RCH.det x1 y1
    exact x3.det q2 q1 y3
/-- reading stops there, by the text's end or by a fault -/
def STP (g : Nat → Int) (t : Int) (j e : Nat) (v : Int) (a : Nat → Int) : Prop := t = 0 ∨ ∃ P : Int, LFl g t j e v a P
theorem RCH.before {g : Nat → Int} {k : Nat} {t : Int} {j e : Nat} {v : Int} {a : Nat → Int} : ∀ {n : Nat} {s : Int} {i d : Nat} {u : Int} {b : Nat → Int}, RCH g (k + 1 + n) s i d u b → ∃ (t0 : Int) (j0 e0 : Nat) (v0 : Int) (a0 : Nat → Int) (t1 : Int) (j1 e1 : Nat) (v1 : Int) (a1 : Nat → Int), RCH g k t0 j0 e0 v0 a0 ∧ t0 ≠ 0 ∧ LOk g t0 j0 e0 v0 a0 t1 j1 e1 v1 a1
  | 0, s, i, d, u, b, y => by
    obtain ⟨t0, j0, e0, v0, a0, x1, x2, x3⟩ := y
    exact ⟨t0, j0, e0, v0, a0, s, i, d, u, b, x1, x2, x3⟩
  | n + 1, _, _, _, _, _, y => by
    obtain ⟨s0, i0, d0, u0, b0, y1, y2, y3⟩ := y
    exact RCH.before (t := t) (j := j) (e := e) (v := v) (a := a) y1
theorem RCH.stop {g : Nat → Int} {k n : Nat} {t s : Int} {j i e d : Nat} {v u : Int} {a b : Nat → Int} (x : RCH g k t j e v a) (hx : STP g t j e v a) (y : RCH g n s i d u b) (h : k < n) : False := by
  obtain ⟨c, rfl⟩ : ∃ c, n = k + 1 + c := ⟨n - (k + 1), by omega⟩
  obtain ⟨t0, j0, e0, v0, a0, t1, j1, e1, v1, a1, z1, z2, z3⟩ := RCH.before (t := t) (j := j) (e := e) (v := v) (a := a) y
  obtain ⟨q1, q2⟩ := RCH.det z1 x
  rcases hx with hx | ⟨P, hx⟩
  · exact z2 (q2.2.1.trans hx)
  · exact z3.no q2 q1 hx
def LACK (a : Nat → Int) : Prop := ∃ p : Nat, (p : Int) < a 0 ∧ a (1 + p) ≠ 0 ∧ a (25 + p) = 0
theorem LACK.tr {a b : Nat → Int} (h : AEq a b) (q : LACK a) : LACK b := by
  obtain ⟨p, h1, h2, h3⟩ := q
  have s := h.2 p h1
  exact ⟨p, by rw [← h.1]; exact h1, fun z => h2 (s.1.trans z), s.2.2.1.symm.trans h3⟩
/-- the tape tells no game: the first fault is at P; it tells this one -/
def RFl (g : Nat → Int) (z P : Int) : Prop := (400 < z ∧ P = 400) ∨ (z ≤ 400 ∧ ∃ (k : Nat) (t : Int) (j e : Nat) (v : Int) (a : Nat → Int), RCH g k t j e v a ∧ ((t ≠ 0 ∧ LFl g t j e v a P) ∨ (t = 0 ∧ LACK a ∧ P = z)))
def ROk (g : Nat → Int) (z : Int) (a : Nat → Int) : Prop := z ≤ 400 ∧ ∃ (k : Nat) (t : Int) (j e : Nat) (v : Int), RCH g k t j e v a ∧ t = 0 ∧ ¬ LACK a
theorem rch_same {g : Nat → Int} {k n : Nat} {t s : Int} {j i e d : Nat} {v u : Int} {a b : Nat → Int} (x : RCH g k t j e v a) (hx : STP g t j e v a) (y : RCH g n s i d u b) (hy : STP g s i d u b) : AEq a b ∧ TEq t j e v s i d u := by
  rcases Nat.lt_trichotomy k n with q | q | q
  · exact (x.stop hx y q).elim
  · subst q; exact x.det y
  · exact (y.stop hy x q).elim
theorem RFl.det {g : Nat → Int} {z P P' : Int} (x : RFl g z P) (y : RFl g z P') : P = P' := by
  rcases x with ⟨x0, xp⟩ | ⟨x0, k, t, j, e, v, a, xr, xc⟩
  · rcases y with ⟨-, yp⟩ | ⟨y0, -⟩
    · rw [xp, yp]
    · omega
  · rcases y with ⟨y0, -⟩ | ⟨-, n, s, i, d, u, b, yr, yc⟩
    · omega
    · have hx : STP g t j e v a := by
        rcases xc with ⟨-, xc⟩ | ⟨xc, -⟩
        · exact Or.inr ⟨_, xc⟩
        · exact Or.inl xc
      have hy : STP g s i d u b := by
        rcases yc with ⟨-, yc⟩ | ⟨yc, -⟩
        · exact Or.inr ⟨_, yc⟩
        · exact Or.inl yc
      obtain ⟨q1, q2⟩ := rch_same xr hx yr hy
      rcases xc with ⟨x1, xc⟩ | ⟨x1, -, xp⟩
      · rcases yc with ⟨-, yc⟩ | ⟨y1, -⟩
        · exact xc.det q2 q1 yc
        · exact absurd (q2.2.1.trans y1) x1
      · rcases yc with ⟨y1, -⟩ | ⟨-, -, yp⟩
        · exact absurd (q2.2.1.symm.trans x1) y1
        · rw [xp, yp]
theorem ROk.no {g : Nat → Int} {z P : Int} {a : Nat → Int} (x : ROk g z a) (y : RFl g z P) : False := by
  obtain ⟨x0, k, t, j, e, v, xr, x1, x2⟩ := x
  rcases y with ⟨y0, -⟩ | ⟨-, n, s, i, d, u, b, yr, yc⟩
  · omega
  · have hy : STP g s i d u b := by
      rcases yc with ⟨-, yc⟩ | ⟨yc, -⟩
      · exact Or.inr ⟨_, yc⟩
      · exact Or.inl yc
    obtain ⟨q1, q2⟩ := rch_same xr (Or.inl x1) yr hy
    rcases yc with ⟨y1, -⟩ | ⟨-, yc, -⟩
    · exact y1 (q2.2.1.symm.trans x1)
    · exact x2 (yc.tr q1.symm)
theorem ROk.det {g : Nat → Int} {z : Int} {a b : Nat → Int} (x : ROk g z a) (y : ROk g z b) : AEq a b := by
  obtain ⟨x0, k, t, j, e, v, xr, x1, x2⟩ := x
  obtain ⟨y0, n, s, i, d, u, yr, y1, y2⟩ := y
  exact (rch_same xr (Or.inl x1) yr (Or.inl y1)).1
