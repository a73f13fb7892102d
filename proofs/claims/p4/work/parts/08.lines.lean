/-! a network as a row of numbers: 0 how many nodes; 1+p kind, 13+p pay, 25+p ways, 37+3p+i where way i leads, 73+3p+i its weight, 109+p held, 121+p the name's number -/
def SameAt (a b : Nat → Int) (p : Nat) : Prop := a (1 + p) = b (1 + p) ∧ a (13 + p) = b (13 + p) ∧ a (25 + p) = b (25 + p) ∧ a (109 + p) = b (109 + p) ∧ a (121 + p) = b (121 + p) ∧ ∀ i : Nat, (i : Int) < a (25 + p) → a (37 + 3 * p + i) = b (37 + 3 * p + i) ∧ a (73 + 3 * p + i) = b (73 + 3 * p + i)
def AEq (a b : Nat → Int) : Prop := a 0 = b 0 ∧ ∀ p : Nat, (p : Int) < a 0 → SameAt a b p
theorem SameAt.symm {a b : Nat → Int} {p : Nat} (h : SameAt a b p) : SameAt b a p := ⟨h.1.symm, h.2.1.symm, h.2.2.1.symm, h.2.2.2.1.symm, h.2.2.2.2.1.symm, fun i hi => ⟨(h.2.2.2.2.2 i (by rw [h.2.2.1]; exact hi)).1.symm, (h.2.2.2.2.2 i (by rw [h.2.2.1]; exact hi)).2.symm⟩⟩
theorem SameAt.trans {a b c : Nat → Int} {p : Nat} (h : SameAt a b p) (k : SameAt b c p) : SameAt a c p := ⟨h.1.trans k.1, h.2.1.trans k.2.1, h.2.2.1.trans k.2.2.1, h.2.2.2.1.trans k.2.2.2.1, h.2.2.2.2.1.trans k.2.2.2.2.1, fun i hi => ⟨(h.2.2.2.2.2 i hi).1.trans (k.2.2.2.2.2 i (by rw [← h.2.2.1]; exact hi)).1, (h.2.2.2.2.2 i hi).2.trans (k.2.2.2.2.2 i (by rw [← h.2.2.1]; exact hi)).2⟩⟩
theorem AEq.symm {a b : Nat → Int} (h : AEq a b) : AEq b a := ⟨h.1.symm, fun p hp => (h.2 p (by rw [h.1]; exact hp)).symm⟩
theorem AEq.trans {a b c : Nat → Int} (h : AEq a b) (k : AEq b c) : AEq a c := ⟨h.1.trans k.1, fun p hp => (h.2 p hp).trans (k.2 p (by rw [← h.1]; exact hp))⟩
theorem AEq.rfl' (a : Nat → Int) : AEq a a := ⟨rfl, fun _ _ => ⟨rfl, rfl, rfl, rfl, rfl, fun _ _ => ⟨rfl, rfl⟩⟩⟩
/-- how many of the first n are of a kind; the sum of the first m -/
def cnf (h : Nat → Int) (k : Int) : Nat → Int
  | 0 => 0
  | n + 1 => cnf h k n + if h n = k then 1 else 0
def wsf (h : Nat → Int) : Nat → Int
  | 0 => 0
  | m + 1 => wsf h m + h m
theorem cnf_congr {h q : Nat → Int} {k : Int} : ∀ {n : Nat}, (∀ p : Nat, p < n → h p = q p) → cnf h k n = cnf q k n
  | 0, _ => rfl
  | n + 1, e => by
    show cnf h k n + _ = cnf q k n + _
    rw [cnf_congr (n := n) (fun p hp => e p (Nat.lt_succ_of_lt hp)), e n (Nat.lt_succ_self n)]
theorem wsf_congr {h q : Nat → Int} : ∀ {m : Nat}, (∀ i : Nat, i < m → h i = q i) → wsf h m = wsf q m
  | 0, _ => rfl
  | m + 1, e => by
    show wsf h m + _ = wsf q m + _
    rw [wsf_congr (m := m) (fun i hi => e i (Nat.lt_succ_of_lt hi)), e m (Nat.lt_succ_self m)]
theorem cnf_rng (h : Nat → Int) (k : Int) : ∀ n : Nat, 0 ≤ cnf h k n ∧ cnf h k n ≤ n
  | 0 => ⟨Int.le_refl 0, Int.le_refl 0⟩
  | n + 1 => by
    have q := cnf_rng h k n
    have e : cnf h k (n + 1) = cnf h k n + if h n = k then 1 else 0 := rfl
    rw [e]
    by_cases z : h n = k
    · rw [if_pos z]; omega
    · rw [if_neg z]; omega
def cn (a : Nat → Int) (k : Int) (n : Nat) : Int := cnf (fun p => a (1 + p)) k n
def wsum (a : Nat → Int) (p m : Nat) : Int := wsf (fun i => a (73 + 3 * p + i)) m
theorem cn_congr {a b : Nat → Int} {k : Int} {n : Nat} (h : ∀ p : Nat, p < n → a (1 + p) = b (1 + p)) : cn a k n = cn b k n := cnf_congr h
theorem wsum_congr {a b : Nat → Int} {p m : Nat} (h : ∀ i : Nat, i < m → a (73 + 3 * p + i) = b (73 + 3 * p + i)) : wsum a p m = wsum b p m := wsf_congr h
def FULL (a : Nat → Int) (k : Int) : Prop := (k = 0 ∧ 4 ≤ cn a 0 (a 0).toNat) ∨ (k ≠ 0 ∧ (8 ≤ a 0 - cn a 0 (a 0).toNat ∨ (k = 3 ∧ 5 ≤ cn a 3 (a 0).toNat)))
theorem FULL.tr {a b : Nat → Int} {k : Int} (h : AEq a b) (q : FULL a k) : FULL b k := by
  have c : ∀ z : Int, cn a z (a 0).toNat = cn b z (b 0).toNat := fun z => by
    rw [← h.1]; exact cn_congr (fun p hp => (h.2 p (by omega)).1)
  unfold FULL at q ⊢
  rw [c 0, c 3, h.1] at q; exact q
/-- which of the five words: end, max, min, chance 0 to 3, way 4 -/
def kd (v : Int) : Int := if v = 4027 then 0 else if v = 9528 then 1 else if v = 9734 then 2 else if v = 47328224 then 3 else if v = 16819 then 4 else -1
theorem kd_rng (v : Int) : -1 ≤ kd v ∧ kd v ≤ 4 := by
  unfold kd; repeat' split
  all_goals omega
def NMC (t v : Int) : Prop := t = 1 ∧ kd v = -1
/-- the first of n whose number is v; none: -1 -/
def FN (n : Int) (h : Nat → Int) (v r : Int) : Prop := (0 ≤ r ∧ r < n ∧ h r.toNat = v ∧ ∀ p : Nat, (p : Int) < r → h p ≠ v) ∨ (r = -1 ∧ ∀ p : Nat, (p : Int) < n → h p ≠ v)
def FDn (a : Nat → Int) (v r : Int) : Prop := FN (a 0) (fun p => a (121 + p)) v r
theorem FDn.det {a b : Nat → Int} {v r r' : Int} (h : AEq a b) (q : FDn a v r) (q' : FDn b v r') : r = r' := by
  have nm : ∀ p : Nat, (p : Int) < a 0 → a (121 + p) = b (121 + p) := fun p hp => (h.2 p hp).2.2.2.2.1
  have h0 := h.1
  rcases q with ⟨q1, q2, q3, q4⟩ | ⟨q1, q2⟩
  · rcases q' with ⟨w1, w2, w3, w4⟩ | ⟨w1, w2⟩
    · rcases Int.lt_trichotomy r r' with z | z | z
      · exact absurd ((nm r.toNat (by omega)).symm.trans q3) (w4 r.toNat (by omega))
      · exact z
      · exact absurd ((nm r'.toNat (by omega)).trans w3) (q4 r'.toNat (by omega))
    · exact absurd ((nm r.toNat (by omega)).symm.trans q3) (w2 r.toNat (by omega))
  · rcases q' with ⟨w1, w2, w3, w4⟩ | ⟨w1, w2⟩
    · exact absurd ((nm r'.toNat (by omega)).trans w3) (q2 r'.toNat (by omega))
    · omega
def AddN (a a' : Nat → Int) (k v y : Int) : Prop := a' 0 = a 0 + 1 ∧ (∀ p : Nat, (p : Int) < a 0 → SameAt a a' p) ∧ a' (1 + (a 0).toNat) = k ∧ a' (13 + (a 0).toNat) = y ∧ a' (25 + (a 0).toNat) = 0 ∧ a' (109 + (a 0).toNat) = -1 ∧ a' (121 + (a 0).toNat) = v
theorem AddN.det {a a' b b' : Nat → Int} {k v y : Int} (h : AEq a b) (q : AddN a a' k v y) (q' : AddN b b' k v y) : AEq a' b' := by
  obtain ⟨q0, q1, q2, q3, q4, q5, q6⟩ := q
  obtain ⟨w0, w1, w2, w3, w4, w5, w6⟩ := q'
  refine ⟨by rw [q0, w0, h.1], fun p hp => ?_⟩
  by_cases z : (p : Int) < a 0
  · exact ((q1 p z).symm.trans (h.2 p z)).trans (w1 p (by rw [← h.1]; exact z))
  · have e : p = (a 0).toNat := by omega
    have e' : (b 0).toNat = (a 0).toNat := by rw [h.1]
    rw [e'] at w2 w3 w4 w5 w6
    subst e
    exact ⟨q2.trans w2.symm, q3.trans w3.symm, q4.trans w4.symm, q5.trans w5.symm, q6.trans w6.symm, fun i hi => by omega⟩
def AddW (a a' : Nat → Int) (r q w : Int) : Prop := a' 0 = a 0 ∧ 0 ≤ r ∧ r < a 0 ∧ 0 ≤ a (25 + r.toNat) ∧ (∀ p : Nat, (p : Int) < a 0 → (p : Int) ≠ r → SameAt a a' p) ∧ a' (1 + r.toNat) = a (1 + r.toNat) ∧ a' (13 + r.toNat) = a (13 + r.toNat) ∧ a' (109 + r.toNat) = a (109 + r.toNat) ∧ a' (121 + r.toNat) = a (121 + r.toNat) ∧ a' (25 + r.toNat) = a (25 + r.toNat) + 1 ∧ (∀ i : Nat, (i : Int) < a (25 + r.toNat) → a' (37 + 3 * r.toNat + i) = a (37 + 3 * r.toNat + i) ∧ a' (73 + 3 * r.toNat + i) = a (73 + 3 * r.toNat + i)) ∧ a' (37 + 3 * r.toNat + (a (25 + r.toNat)).toNat) = q ∧ a' (73 + 3 * r.toNat + (a (25 + r.toNat)).toNat) = w
theorem AddW.det {a a' b b' : Nat → Int} {r q w : Int} (h : AEq a b) (x : AddW a a' r q w) (y : AddW b b' r q w) : AEq a' b' := by
  obtain ⟨x0, x1, x2, x3, x4, x5, x6, x7, x8, x9, x10, x11, x12⟩ := x
  obtain ⟨y0, y1, y2, y3, y4, y5, y6, y7, y8, y9, y10, y11, y12⟩ := y
  refine ⟨by rw [x0, y0, h.1], fun p hp => ?_⟩
  have hp' : (p : Int) < a 0 := by rw [← x0]; exact hp
  have hs := h.2 p hp'
  by_cases z : (p : Int) = r
  · have e : p = r.toNat := by omega
    subst e
    have hw : a (25 + r.toNat) = b (25 + r.toNat) := hs.2.2.1
    refine ⟨by rw [x5, y5]; exact hs.1, by rw [x6, y6]; exact hs.2.1, by rw [x9, y9, hw], by rw [x7, y7]; exact hs.2.2.2.1, by rw [x8, y8]; exact hs.2.2.2.2.1, fun i hi => ?_⟩
    rw [x9] at hi
    by_cases u : (i : Int) < a (25 + r.toNat)
    · have g1 := x10 i u
      have g2 := y10 i (by rw [← hw]; exact u)
      have g3 := hs.2.2.2.2.2 i u
      exact ⟨(g1.1.trans g3.1).trans g2.1.symm, (g1.2.trans g3.2).trans g2.2.symm⟩
    · have e : i = (a (25 + r.toNat)).toNat := by omega
      rw [← hw] at y11 y12
      subst e
      exact ⟨x11.trans y11.symm, x12.trans y12.symm⟩
  · exact ((x4 p hp' z).symm.trans hs).trans (y4 p (by rw [← h.1]; exact hp') z)
/-- a line that tells a node, from behind its first word: it is told as it should be, or there is a fault at P -/
def NOk (g : Nat → Int) (e : Nat) (a : Nat → Int) (k : Int) (a' : Nat → Int) (t' : Int) (j' e' : Nat) (v' : Int) : Prop :=
  ¬ FULL a k ∧ ∃ (t1 : Int) (j1 e1 : Nat) (v1 : Int), TK g e t1 j1 e1 v1 ∧ NMC t1 v1 ∧ (∀ p : Nat, (p : Int) < a 0 → a (121 + p) ≠ v1) ∧ ∃ (t2 : Int) (j2 e2 : Nat) (v2 : Int), TK g e1 t2 j2 e2 v2 ∧ ((k ≠ 0 ∧ AddN a a' k v1 0 ∧ TK g e1 t' j' e' v') ∨ (k = 0 ∧ t2 = 2 ∧ v2 ≤ 9 ∧ TK g e2 t' j' e' v' ∧ AddN a a' 0 v1 v2))
def NFl (g : Nat → Int) (pl e : Nat) (a : Nat → Int) (k P : Int) : Prop :=
  (FULL a k ∧ P = pl) ∨ (¬ FULL a k ∧ ∃ (t1 : Int) (j1 e1 : Nat) (v1 : Int), TK g e t1 j1 e1 v1 ∧ ((¬ NMC t1 v1 ∧ P = j1) ∨ (NMC t1 v1 ∧ (∃ p : Nat, (p : Int) < a 0 ∧ a (121 + p) = v1) ∧ P = j1) ∨ (NMC t1 v1 ∧ (∀ p : Nat, (p : Int) < a 0 → a (121 + p) ≠ v1) ∧ k = 0 ∧ ∃ (t2 : Int) (j2 e2 : Nat) (v2 : Int), TK g e1 t2 j2 e2 v2 ∧ (t2 ≠ 2 ∨ 9 < v2) ∧ P = j2)))
/-- one token, read twice -/
theorem TK.det1 {g : Nat → Int} {i : Nat} {t t' : Int} {j j' e e' : Nat} {v v' : Int} (h : TK g i t j e v) (h' : TK g i t' j' e' v') (ht : t = 1 ∨ t = 2) : t' = t ∧ j' = j ∧ e' = e ∧ v' = v := by
  obtain ⟨a, b, c, d⟩ := h.det h'
  exact ⟨b.symm, a.symm, (c (by omega)).symm, (d ht).symm⟩
theorem NMC.tr {g : Nat → Int} {i : Nat} {t t' : Int} {j j' e e' : Nat} {v v' : Int} (h : TK g i t j e v) (h' : TK g i t' j' e' v') (q : NMC t v) : NMC t' v' := by
  obtain ⟨x1, x2, x3, x4⟩ := h.det1 h' (Or.inl q.1)
  subst x1; subst x4; exact q
theorem NOk.det {g : Nat → Int} {e : Nat} {a b : Nat → Int} {k : Int} {a' b' : Nat → Int} {t t' : Int} {j j' e1 e2 : Nat} {v v' : Int} (h : AEq a b) (x : NOk g e a k a' t j e1 v) (y : NOk g e b k b' t' j' e2 v') : AEq a' b' ∧ j = j' ∧ t = t' ∧ (t ≠ 4 → e1 = e2) ∧ (t = 1 ∨ t = 2 → v = v') := by
  obtain ⟨x0, t1, j1, f1, v1, xa, xb, xc, t2, j2, f2, v2, xd, xe⟩ := x
  obtain ⟨y0, s1, i1, d1, u1, ya, yb, yc, s2, i2, d2, u2, yd, ye⟩ := y
  obtain ⟨z1, z2, z3, z4⟩ := xa.det1 ya (Or.inl xb.1)
  subst z1; subst z2; subst z3; subst z4
  rcases xe with ⟨k1, xn, xt⟩ | ⟨k1, xt2, xv, xt, xn⟩
  · rcases ye with ⟨k2, yn, yt⟩ | ⟨k2, yt2, yv, yt, yn⟩
    · exact ⟨xn.det h yn, xt.det yt⟩
    · exact absurd k2 k1
  · rcases ye with ⟨k2, yn, yt⟩ | ⟨k2, yt2, yv, yt, yn⟩
    · exact absurd k1 k2
    · obtain ⟨z1, z2, z3, z4⟩ := xd.det1 yd (Or.inr xt2)
      subst z1; subst z2; subst z3; subst z4
      exact ⟨xn.det h yn, xt.det yt⟩
theorem NOk.no {g : Nat → Int} {pl e : Nat} {a b : Nat → Int} {k P : Int} {a' : Nat → Int} {t : Int} {j e1 : Nat} {v : Int} (h : AEq a b) (x : NOk g e a k a' t j e1 v) (y : NFl g pl e b k P) : False := by
  obtain ⟨x0, t1, j1, f1, v1, xa, xb, xc, t2, j2, f2, v2, xd, xe⟩ := x
  rcases y with ⟨y0, -⟩ | ⟨y0, s1, i1, d1, u1, ya, yb⟩
  · exact x0 (y0.tr h.symm)
  · obtain ⟨z1, z2, z3, z4⟩ := xa.det1 ya (Or.inl xb.1)
    subst z1; subst z2; subst z3; subst z4
    rcases yb with ⟨yb, -⟩ | ⟨-, ⟨p, hp, hq⟩, -⟩ | ⟨-, -, k0, s2, i2, d2, u2, yc, yd, -⟩
    · exact yb xb
    · exact xc p (by rw [h.1]; exact hp) (((h.2 p (by rw [h.1]; exact hp)).2.2.2.2.1).trans hq)
    · rcases xe with ⟨k1, -, -⟩ | ⟨-, xt2, xv, -, -⟩
      · exact k1 k0
      · obtain ⟨z1, z2, z3, z4⟩ := xd.det1 yc (Or.inr xt2)
        subst z1; subst z4
        rcases yd with yd | yd
        · exact yd xt2
        · omega
theorem NFl.det {g : Nat → Int} {pl e : Nat} {a b : Nat → Int} {k P P' : Int} (h : AEq a b) (x : NFl g pl e a k P) (y : NFl g pl e b k P') : P = P' := by
  rcases x with ⟨x0, xp⟩ | ⟨x0, t1, j1, f1, v1, xa, xb⟩
  · rcases y with ⟨y0, yp⟩ | ⟨y0, -⟩
    · rw [xp, yp]
    · exact absurd (x0.tr h) y0
  · rcases y with ⟨y0, yp⟩ | ⟨y0, s1, i1, d1, u1, ya, yb⟩
    · exact absurd (y0.tr h.symm) x0
    · have hj := (xa.det ya).1
      have nm : ∀ p : Nat, (p : Int) < a 0 → a (121 + p) = b (121 + p) := fun p hp => (h.2 p hp).2.2.2.2.1
      rcases xb with ⟨xb, xp⟩ | ⟨xn, ⟨p, hp, hq⟩, xp⟩ | ⟨xn, xf, k0, t2, j2, f2, v2, xd, xe, xp⟩
      · rcases yb with ⟨yb, yp⟩ | ⟨yn, -, yp⟩ | ⟨yn, yf, k1, s2, i2, d2, u2, yd, ye, yp⟩
        · rw [xp, yp, hj]
        · rw [xp, yp, hj]
        · exact absurd (yn.tr ya xa) xb
      · obtain ⟨z1, z2, z3, z4⟩ := xa.det1 ya (Or.inl xn.1)
        subst z1; subst z2; subst z3; subst z4
        rcases yb with ⟨yb, yp⟩ | ⟨yn, -, yp⟩ | ⟨yn, yf, k1, s2, i2, d2, u2, yd, ye, yp⟩
        · rw [xp, yp]
        · rw [xp, yp]
        · exact absurd ((nm p hp).symm.trans hq) (yf p (by rw [← h.1]; exact hp))
      · obtain ⟨z1, z2, z3, z4⟩ := xa.det1 ya (Or.inl xn.1)
        subst z1; subst z2; subst z3; subst z4
        rcases yb with ⟨yb, yp⟩ | ⟨yn, ⟨p, hp, hq⟩, yp⟩ | ⟨yn, yf, k1, s2, i2, d2, u2, yd, ye, yp⟩
        · exact absurd xn yb
        · exact absurd ((nm p (by rw [h.1]; exact hp)).trans hq) (xf p (by rw [h.1]; exact hp))
        · rw [xp, yp, (xd.det yd).1]
/-- a line that tells a way, from behind its first word -/
def WyOk (g : Nat → Int) (e : Nat) (a a' : Nat → Int) (t' : Int) (j' e' : Nat) (v' : Int) : Prop :=
  ∃ (t1 : Int) (j1 e1 : Nat) (v1 r1 : Int), TK g e t1 j1 e1 v1 ∧ NMC t1 v1 ∧ FDn a v1 r1 ∧ 0 ≤ r1 ∧ a (1 + r1.toNat) ≠ 0 ∧ a (25 + r1.toNat) < 3 ∧
  ∃ (t2 : Int) (j2 e2 : Nat) (v2 r2 : Int), TK g e1 t2 j2 e2 v2 ∧ NMC t2 v2 ∧ FDn a v2 r2 ∧ 0 ≤ r2 ∧
  ∃ (t3 : Int) (j3 e3 : Nat) (v3 : Int), TK g e2 t3 j3 e3 v3 ∧
    ((a (1 + r1.toNat) = 3 ∧ t3 = 2 ∧ 1 ≤ v3 ∧ v3 ≤ 3 ∧ wsum a r1.toNat (a (25 + r1.toNat)).toNat + v3 ≤ 4 ∧ TK g e3 t' j' e' v' ∧ AddW a a' r1 r2 v3) ∨
     (a (1 + r1.toNat) = 3 ∧ t3 ≠ 2 ∧ wsum a r1.toNat (a (25 + r1.toNat)).toNat < 4 ∧ TK g e2 t' j' e' v' ∧ AddW a a' r1 r2 1) ∨
     (a (1 + r1.toNat) ≠ 3 ∧ TK g e2 t' j' e' v' ∧ AddW a a' r1 r2 1))
def WFl (g : Nat → Int) (e : Nat) (a : Nat → Int) (P : Int) : Prop :=
  ∃ (t1 : Int) (j1 e1 : Nat) (v1 : Int), TK g e t1 j1 e1 v1 ∧ ((¬ NMC t1 v1 ∧ P = j1) ∨ (NMC t1 v1 ∧ ∃ r1 : Int, FDn a v1 r1 ∧ (((r1 < 0 ∨ a (1 + r1.toNat) = 0 ∨ 3 ≤ a (25 + r1.toNat)) ∧ P = j1) ∨ (0 ≤ r1 ∧ a (1 + r1.toNat) ≠ 0 ∧ a (25 + r1.toNat) < 3 ∧
  ∃ (t2 : Int) (j2 e2 : Nat) (v2 : Int), TK g e1 t2 j2 e2 v2 ∧ ((¬ NMC t2 v2 ∧ P = j2) ∨ (NMC t2 v2 ∧ ∃ r2 : Int, FDn a v2 r2 ∧ ((r2 < 0 ∧ P = j2) ∨ (0 ≤ r2 ∧
  ∃ (t3 : Int) (j3 e3 : Nat) (v3 : Int), TK g e2 t3 j3 e3 v3 ∧
    ((a (1 + r1.toNat) = 3 ∧ t3 = 2 ∧ ¬ (1 ≤ v3 ∧ v3 ≤ 3 ∧ wsum a r1.toNat (a (25 + r1.toNat)).toNat + v3 ≤ 4) ∧ P = j3) ∨
     (a (1 + r1.toNat) = 3 ∧ t3 ≠ 2 ∧ 4 ≤ wsum a r1.toNat (a (25 + r1.toNat)).toNat ∧ P = j2) ∨
     (a (1 + r1.toNat) ≠ 3 ∧ t3 = 2 ∧ P = j3))))))))))
theorem ae_row {a b : Nat → Int} {r : Int} (h : AEq a b) (h0 : 0 ≤ r) (h1 : r < a 0) : a (1 + r.toNat) = b (1 + r.toNat) ∧ a (25 + r.toNat) = b (25 + r.toNat) ∧ wsum a r.toNat (a (25 + r.toNat)).toNat = wsum b r.toNat (b (25 + r.toNat)).toNat := by
  have q := h.2 r.toNat (by omega)
  refine ⟨q.1, q.2.2.1, ?_⟩
  rw [← q.2.2.1]
  exact wsum_congr (fun i hi => (q.2.2.2.2.2 i (by omega)).2)
theorem FDn.lt {a : Nat → Int} {v r : Int} (h : FDn a v r) (h0 : 0 ≤ r) : r < a 0 := by
  rcases h with ⟨_, h, _⟩ | ⟨h, _⟩
  · exact h
  · omega
theorem WyOk.det {g : Nat → Int} {e : Nat} {a b a' b' : Nat → Int} {t t' : Int} {j j' f f' : Nat} {v v' : Int} (h : AEq a b) (x : WyOk g e a a' t j f v) (y : WyOk g e b b' t' j' f' v') : AEq a' b' ∧ j = j' ∧ t = t' ∧ (t ≠ 4 → f = f') ∧ (t = 1 ∨ t = 2 → v = v') := by
  obtain ⟨t1, j1, e1, v1, r1, xa, xb, xc, xd, xe, xf, t2, j2, e2, v2, r2, xg, xh, xi, xj, t3, j3, e3, v3, xk, xl⟩ := x
  obtain ⟨s1, i1, d1, u1, q1, ya, yb, yc, yd, ye, yf, s2, i2, d2, u2, q2, yg, yh, yi, yj, s3, i3, d3, u3, yk, yl⟩ := y
  obtain ⟨z1, z2, z3, z4⟩ := xa.det1 ya (Or.inl xb.1)
  subst z1; subst z2; subst z3; subst z4
  obtain ⟨z1, z2, z3, z4⟩ := xg.det1 yg (Or.inl xh.1)
  subst z1; subst z2; subst z3; subst z4
  obtain rfl := xc.det h yc
  obtain rfl := xi.det h yi
  obtain ⟨w1, w2, w3⟩ := ae_row h xd (xc.lt xd)
  rw [← w1, ← w3] at yl
  rcases xl with ⟨c1, c2, c3, c4, c5, c6, c7⟩ | ⟨c1, c2, c3, c4, c5⟩ | ⟨c1, c2, c3⟩
  · obtain ⟨z1, z2, z3, z4⟩ := xk.det1 yk (Or.inr c2)
    subst z1; subst z2; subst z3; subst z4
    rcases yl with ⟨b1, b2, b3, b4, b5, b6, b7⟩ | ⟨b1, b2, b3, b4, b5⟩ | ⟨b1, b2, b3⟩
    · exact ⟨c7.det h b7, c6.det b6⟩
    · exact absurd c2 b2
    · exact absurd c1 b1
  · rcases yl with ⟨b1, b2, b3, b4, b5, b6, b7⟩ | ⟨b1, b2, b3, b4, b5⟩ | ⟨b1, b2, b3⟩
    · exact absurd ((xk.det yk).2.1.trans b2) c2
    · exact ⟨c5.det h b5, c4.det b4⟩
    · exact absurd c1 b1
  · rcases yl with ⟨b1, b2, b3, b4, b5, b6, b7⟩ | ⟨b1, b2, b3, b4, b5⟩ | ⟨b1, b2, b3⟩
    · exact absurd b1 c1
    · exact absurd b1 c1
    · exact ⟨c3.det h b3, c2.det b2⟩
/-- told well, but a sign too much: then there is a fault all the same -/
theorem WyOk.no {g : Nat → Int} {e : Nat} {a b a' : Nat → Int} {t P : Int} {j f : Nat} {v : Int} (h : AEq a b) (x : WyOk g e a a' t j f v) (y : WFl g e b P) : t ≠ 3 ∧ P = j := by
  obtain ⟨t1, j1, e1, v1, r1, xa, xb, xc, xd, xe, xf, t2, j2, e2, v2, r2, xg, xh, xi, xj, t3, j3, e3, v3, xk, xl⟩ := x
  obtain ⟨s1, i1, d1, u1, ya, yb⟩ := y
  obtain ⟨z1, z2, z3, z4⟩ := xa.det1 ya (Or.inl xb.1)
  subst z1; subst z2; subst z3; subst z4
  obtain ⟨w1, w2, w3⟩ := ae_row h xd (xc.lt xd)
  rcases yb with ⟨yb, -⟩ | ⟨-, q1, yc, yd⟩
  · exact absurd xb yb
  obtain rfl := xc.det h yc
  rw [← w1, ← w3, ← w2] at yd
  rcases yd with ⟨yd, -⟩ | ⟨-, -, -, s2, i2, d2, u2, yg, yh⟩
  · rcases yd with yd | yd | yd
    · omega
    · exact absurd yd xe
    · omega
  obtain ⟨z1, z2, z3, z4⟩ := xg.det1 yg (Or.inl xh.1)
  subst z1; subst z2; subst z3; subst z4
  rcases yh with ⟨yh, -⟩ | ⟨-, q2, yi, yj⟩
  · exact absurd xh yh
  obtain rfl := xi.det h yi
  rcases yj with ⟨yj, -⟩ | ⟨-, s3, i3, d3, u3, yk, yl⟩
  · omega
  rcases yl with ⟨b1, b2, b3, b4⟩ | ⟨b1, b2, b3, b4⟩ | ⟨b1, b2, b4⟩
  · rcases xl with ⟨c1, c2, c3, c4, c5, c6, c7⟩ | ⟨c1, c2, c3, c4, c5⟩ | ⟨c1, c2, c3⟩
    · obtain ⟨z1, z2, z3, z4⟩ := xk.det1 yk (Or.inr c2)
      subst z4
      exact absurd ⟨c3, c4, c5⟩ b3
    · exact absurd ((xk.det yk).2.1.trans b2) c2
    · exact absurd b1 c1
  · rcases xl with ⟨c1, c2, c3, c4, c5, c6, c7⟩ | ⟨c1, c2, c3, c4, c5⟩ | ⟨c1, c2, c3⟩
    · exact absurd ((xk.det yk).2.1.symm.trans c2) b2
    · omega
    · exact absurd b1 c1
  · rcases xl with ⟨c1, c2, c3, c4, c5, c6, c7⟩ | ⟨c1, c2, c3, c4, c5⟩ | ⟨c1, c2, c3⟩
    · exact absurd c1 b1
    · exact absurd c1 b1
    · have q := c2.det yk
      exact ⟨by omega, by rw [b4, q.1]⟩
theorem WFl.det {g : Nat → Int} {e : Nat} {a b : Nat → Int} {P P' : Int} (h : AEq a b) (x : WFl g e a P) (y : WFl g e b P') : P = P' := by
  obtain ⟨t1, j1, e1, v1, xa, xb⟩ := x
  obtain ⟨s1, i1, d1, u1, ya, yb⟩ := y
  have hj := (xa.det ya).1
  rcases xb with ⟨xb, xp⟩ | ⟨xn, r1, xc, xd⟩
  · rcases yb with ⟨yb, yp⟩ | ⟨yn, q1, yc, yd⟩
    · rw [xp, yp, hj]
    · exact absurd (yn.tr ya xa) xb
  rcases yb with ⟨yb, yp⟩ | ⟨yn, q1, yc, yd⟩
  · exact absurd (xn.tr xa ya) yb
  obtain ⟨z1, z2, z3, z4⟩ := xa.det1 ya (Or.inl xn.1)
  subst z1; subst z2; subst z3; subst z4
  obtain rfl := xc.det h yc
  rcases xd with ⟨xd, xp⟩ | ⟨xd, xe, xf, t2, j2, e2, v2, xg, xh⟩
  · rcases yd with ⟨yd, yp⟩ | ⟨yd, ye, yf, s2, i2, d2, u2, yg, yh⟩
    · rw [xp, yp]
    · obtain ⟨w1, w2, w3⟩ := ae_row h yd (by rw [h.1]; exact yc.lt yd)
      rcases xd with xd | xd | xd
      · omega
      · exact absurd (w1.symm.trans xd) ye
      · omega
  obtain ⟨w1, w2, w3⟩ := ae_row h xd (xc.lt xd)
  rcases yd with ⟨yd, yp⟩ | ⟨yd, ye, yf, s2, i2, d2, u2, yg, yh⟩
  · rcases yd with yd | yd | yd
    · omega
    · exact absurd (w1.trans yd) xe
    · omega
  have hj2 := (xg.det yg).1
  rcases xh with ⟨xh, xp⟩ | ⟨xn2, r2, xi, xj⟩
  · rcases yh with ⟨yh, yp⟩ | ⟨yn2, q2, yi, yj⟩
    · rw [xp, yp, hj2]
    · exact absurd (yn2.tr yg xg) xh
  rcases yh with ⟨yh, yp⟩ | ⟨yn2, q2, yi, yj⟩
  · exact absurd (xn2.tr xg yg) yh
  obtain ⟨z1, z2, z3, z4⟩ := xg.det1 yg (Or.inl xn2.1)
  subst z1; subst z2; subst z3; subst z4
  obtain rfl := xi.det h yi
  rcases xj with ⟨xj, xp⟩ | ⟨xj, t3, j3, e3, v3, xk, xl⟩
  · rcases yj with ⟨yj, yp⟩ | ⟨yj, s3, i3, d3, u3, yk, yl⟩
    · rw [xp, yp]
    · omega
  rcases yj with ⟨yj, yp⟩ | ⟨yj, s3, i3, d3, u3, yk, yl⟩
  · omega
  have k := xk.det yk
  rcases xl with ⟨c1, c2, c3, c4⟩ | ⟨c1, c2, c3, c4⟩ | ⟨c1, c2, c4⟩
  · rcases yl with ⟨b1, b2, b3, b4⟩ | ⟨b1, b2, b3, b4⟩ | ⟨b1, b2, b4⟩
    · rw [c4, b4, k.1]
    · exact absurd (k.2.1.symm.trans c2) b2
    · rw [c4, b4, k.1]
  · rcases yl with ⟨b1, b2, b3, b4⟩ | ⟨b1, b2, b3, b4⟩ | ⟨b1, b2, b4⟩
    · exact absurd (k.2.1.trans b2) c2
    · rw [c4, b4]
    · exact absurd (k.2.1.trans b2) c2
  · rcases yl with ⟨b1, b2, b3, b4⟩ | ⟨b1, b2, b3, b4⟩ | ⟨b1, b2, b4⟩
    · rw [c4, b4, k.1]
    · exact absurd (k.2.1.symm.trans c2) b2
    · rw [c4, b4, k.1]
