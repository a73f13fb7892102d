/-! a network as a row of numbers: 0 how many nodes; 1+p kind, 13+p pay, 25+p ways, 37+3p+i where way i leads, 73+3p+i its weight, 109+p held, 121+p the name's number -/
def SameAt (a b : Nat → Int) (p : Nat) : Prop := a (1 + p) = b (1 + p) ∧ a (13 + p) = b (13 + p) ∧ a (25 + p) = b (25 + p) ∧ a (109 + p) = b (109 + p) ∧ a (121 + p) = b (121 + p) ∧ ∀ i : Nat, (i : Int) < a (25 + p) → a (37 + 3 * p + i) = b (37 + 3 * p + i) ∧ a (73 + 3 * p + i) = b (73 + 3 * p + i)
def AEq (a b : Nat → Int) : Prop := a 0 = b 0 ∧ ∀ p : Nat, (p : Int) < a 0 → SameAt a b p
theorem SameAt.symm {a b : Nat → Int} {p : Nat} (h : SameAt a b p) : SameAt b a p := ⟨h.1.symm, h.2.1.symm, h.2.2.1.symm, h.2.2.2.1.symm, h.2.2.2.2.1.symm, fun i hi => ⟨(h.2.2.2.2.2 i (by rw [h.2.2.1]; exact hi)).1.symm, (h.2.2.2.2.2 i (by rw [h.2.2.1]; exact hi)).2.symm⟩⟩
theorem SameAt.trans {a b c : Nat → Int} {p : Nat} (h : SameAt a b p) (k : SameAt b c p) : SameAt a c p := ⟨h.1.trans k.1, h.2.1.trans k.2.1, h.2.2.1.trans k.2.2.1, h.2.2.2.1.trans k.2.2.2.1, h.2.2.2.2.1.trans k.2.2.2.2.1, fun i hi => ⟨(h.2.2.2.2.2 i hi).1.trans (k.2.2.2.2.2 i (by rw [← h.2.2.1]; exact hi)).1, (h.2.2.2.2.2 i hi).2.trans (k.2.2.2.2.2 i (by rw [← h.2.2.1]; exact hi)).2⟩⟩
theorem AEq.symm {a b : Nat → Int} (h : AEq a b) : AEq b a := ⟨h.1.symm, fun p hp => (h.2 p (by rw [h.1]; exact hp)).symm⟩
theorem AEq.trans {a b c : Nat → Int} (h : AEq a b) (k : AEq b c) : AEq a c := ⟨h.1.trans k.1, fun p hp => (h.2 p hp).trans (k.2 p (by rw [← h.1]; exact hp))⟩
theorem AEq.rfl' (a : Nat → Int) : AEq a a := ⟨rfl, fun _ _ => ⟨rfl, rfl, rfl, rfl, rfl, fun _ _ => ⟨rfl, rfl⟩⟩⟩
/-- how many of the first n are of a kind; the sum of the first m -/
def cnf (h : Nat → Int) (k : Int) : Nat → Int
  | 0 => 0
  | n + 1 => cnf h k n + if h n = k then 1 else 0
def wsf (h : Nat → Int) : Nat → Int
  | 0 => 0
  | m + 1 => wsf h m + h m
theorem cnf_congr {h q : Nat → Int} {k : Int} : ∀ {n : Nat}, (∀ p : Nat, p < n → h p = q p) → cnf h k n = cnf q k n
  | 0, _ => rfl
  | n + 1, e => by
    show cnf h k n + _ = cnf q k n + _
    rw [cnf_congr (n := n) (fun p hp => e p (Nat.lt_succ_of_lt hp)), e n (Nat.lt_succ_self n)]
theorem wsf_congr {h q : Nat → Int} : ∀ {m : Nat}, (∀ i : Nat, i < m → h i = q i) → wsf h m = wsf q m
  | 0, _ => rfl
  | m + 1, e => by
    show wsf h m + _ = wsf q m + _
    rw [wsf_congr (m := m) (fun i hi => e i (Nat.lt_succ_of_lt hi)), e m (Nat.lt_succ_self m)]
theorem cnf_rng (h : Nat → Int) (k : Int) : ∀ n : Nat, 0 ≤ cnf h k n ∧ cnf h k n ≤ n
  | 0 => ⟨Int.le_refl 0, Int.le_refl 0⟩
  | n + 1 => by
    have q := cnf_rng h k n
    have e : cnf h k (n + 1) = cnf h k n + if h n = k then 1 else 0 := rfl
    rw [e]
    by_cases z : h n = k
    · rw [if_pos z]; omega
    · rw [if_neg z]; omega
def cn (a : Nat → Int) (k : Int) (n : Nat) : Int := cnf (fun p => a (1 + p)) k n
def wsum (a : Nat → Int) (p m : Nat) : Int := wsf (fun i => a (73 + 3 * p + i)) m
theorem cn_congr {a b : Nat → Int} {k : Int} {n : Nat} (h : ∀ p : Nat, p < n → a (1 + p) = b (1 + p)) : cn a k n = cn b k n := cnf_congr h
theorem wsum_congr {a b : Nat → Int} {p m : Nat} (h : ∀ i : Nat, i < m → a (73 + 3 * p + i) = b (73 + 3 * p + i)) : wsum a p m = wsum b p m := wsf_congr h
def FULL (a : Nat → Int) (k : Int) : Prop := (k = 0 ∧ 4 ≤ cn a 0 (a 0).toNat) ∨ (k ≠ 0 ∧ (8 ≤ a 0 - cn a 0 (a 0).toNat ∨ (k = 3 ∧ 5 ≤ cn a 3 (a 0).toNat)))
theorem FULL.tr {a b : Nat → Int} {k : Int} (h : AEq a b) (q : FULL a k) : FULL b k := by
  have c : ∀ z : Int, cn a z (a 0).toNat = cn b z (b 0).toNat := fun z => by
    rw [← h.1]; exact cn_congr (fun p hp => (h.2 p (by omega)).1)
  unfold FULL at q ⊢
  rw [c 0, c 3, h.1] at q; exact q
/-- which of the five words: end, max, min, chance 0 to 3, way 4 -/
def kd (v : Int) : Int := if v = 4027 then 0 else if v = 9528 then 1 else if v = 9734 then 2 else if v = 47328224 then 3 else if v = 16819 then 4 else -1
theorem kd_rng (v : Int) : -1 ≤ kd v ∧ kd v ≤ 4 := by
  unfold kd; repeat' split
  all_goals omega
def NMC (t v : Int) : Prop := t = 1 ∧ kd v = -1
/-- the first of n whose number is v; none: -1 -/
def FN (n : Int) (h : Nat → Int) (v r : Int) : Prop := (0 ≤ r ∧ r < n ∧ h r.toNat = v ∧ ∀ p : Nat, (p : Int) < r → h p ≠ v) ∨ (r = -1 ∧ ∀ p : Nat, (p : Int) < n → h p ≠ v)
def FDn (a : Nat → Int) (v r : Int) : Prop := FN (a 0) (fun p => a (121 + p)) v r
theorem FDn.det {a b : Nat → Int} {v r r' : Int} (h : AEq a b) (q : FDn a v r) (q' : FDn b v r') : r = r' := by
  have nm : ∀ p : Nat, (p : Int) < a 0 → a (121 + p) = b (121 + p) := fun p hp => (h.2 p hp).2.2.2.2.1
  have h0 := h.1
  rcases q with ⟨q1, q2, q3, q4⟩ | ⟨q1, q2⟩
  · rcases q' with ⟨w1, w2, w3, w4⟩ | ⟨w1, w2⟩
    · rcases Int.lt_trichotomy r r' with z | z | z
      · exact absurd ((nm r.toNat (by omega)).symm.trans q3) (w4 r.toNat (by omega))
      · exact z
      · exact absurd ((nm r'.toNat (by omega)).trans w3) (q4 r'.toNat (by omega))
    · exact absurd ((nm r.toNat (by omega)).symm.trans q3) (w2 r.toNat (by omega))
  · rcases q' with ⟨w1, w2, w3, w4⟩ | ⟨w1, w2⟩
    · exact absurd ((nm r'.toNat (by omega)).trans w3) (q2 r'.toNat (by omega))
    · omega
def AddN (a a' : Nat → Int) (k v y : Int) : Prop := a' 0 = a 0 + 1 ∧ (∀ p : Nat, (p : Int) < a 0 → SameAt a a' p) ∧ a' (1 + (a 0).toNat) = k ∧ a' (13 + (a 0).toNat) = y ∧ a' (25 + (a 0).toNat) = 0 ∧ a' (109 + (a 0).toNat) = -1 ∧ a' (121 + (a 0).toNat) = v
theorem AddN.det {a a' b b' : Nat → Int} {k v y : Int} (h : AEq a b) (q : AddN a a' k v y) (q' : AddN b b' k v y) : AEq a' b' := by
  obtain ⟨q0, q1, q2, q3, q4, q5, q6⟩ := q
  obtain ⟨w0, w1, w2, w3, w4, w5, w6⟩ := q'
  refine ⟨by rw [q0, w0, h.1], fun p hp => ?_⟩
  by_cases z : (p : Int) < a 0
  · exact ((q1 p z).symm.trans (h.2 p z)).trans (w1 p (by rw [← h.1]; exact z))
  · have e : p = (a 0).toNat := by omega
    have e' : (b 0).toNat = (a 0).toNat := by rw [h.1]
    rw [e'] at w2 w3 w4 w5 w6
    subst e
    exact ⟨q2.trans w2.symm, q3.trans w3.symm, q4.trans w4.symm, q5.trans w5.symm, q6.trans w6.symm, fun i hi => by omega⟩
def AddW (a a' : Nat → Int) (r q w : Int) : Prop := a' 0 = a 0 ∧ 0 ≤ r ∧ r < a 0 ∧ 0 ≤ a (25 + r.toNat) ∧ (∀ p : Nat, (p : Int) < a 0 → (p : Int) ≠ r → SameAt a a' p) ∧ a' (1 + r.toNat) = a (1 + r.toNat) ∧ a' (13 + r.toNat) = a (13 + r.toNat) ∧ a' (109 + r.toNat) = a (109 + r.toNat) ∧ a' (121 + r.toNat) = a (121 + r.toNat) ∧ a' (25 + r.toNat) = a (25 + r.toNat) + 1 ∧ (∀ i : Nat, (i : Int) < a (25 + r.toNat) → a' (37 + 3 * r.toNat + i) = a (37 + 3 * r.toNat + i) ∧ a' (73 + 3 * r.toNat + i) = a (73 + 3 * r.toNat + i)) ∧ a' (37 + 3 * r.toNat + (a (25 + r.toNat)).toNat) = q ∧ a' (73 + 3 * r.toNat + (a (25 + r.toNat)).toNat) = w
theorem AddW.det {a a' b b' : Nat → Int} {r q w : Int} (h : AEq a b) (x : AddW a a' r q w) (y : AddW b b' r q w) : AEq a' b' := by
  obtain ⟨x0, x1, x2, x3, x4, x5, x6, x7, x8, x9, x10, x11, x12⟩ := x
  obtain ⟨y0, y1, y2, y3, y4, y5, y6, y7, y8, y9, y10, y11, y12⟩ := y
  refine ⟨by rw [x0, y0, h.1], fun p hp => ?_⟩
  have hp' : (p : Int) < a 0 := by rw [← x0]; exact hp
  have hs := h.2 p hp'
  by_cases z : (p : Int) = r
  · have e : p = r.toNat := by omega
    subst e
    have hw : a (25 + r.toNat) = b (25 + r.toNat) := hs.2.2.1
    refine ⟨by rw [x5, y5]; exact hs.1, by rw [x6, y6]; exact hs.2.1, by rw [x9, y9, hw], by rw [x7, y7]; exact hs.2.2.2.1, by rw [x8, y8]; exact hs.2.2.2.2.1, fun i hi => ?_⟩
    rw [x9] at hi
    by_cases u : (i : Int) < a (25 + r.toNat)
    · have g1 := x10 i u
      have g2 := y10 i (by rw [← hw]; exact u)
      have g3 := hs.2.2.2.2.2 i u
      exact ⟨(g1.1.trans g3.1).trans g2.1.symm, (g1.2.trans g3.2).trans g2.2.symm⟩
    · have e : i = (a (25 + r.toNat)).toNat := by omega
      rw [← hw] at y11 y12
      subst e
      exact ⟨x11.trans y11.symm, x12.trans y12.symm⟩
  · exact ((x4 p hp' z).symm.trans hs).trans (y4 p (by rw [← h.1]; exact hp') z)
/-- a line that tells a node, from behind its first word: it is told as it should be, or there is a fault at P -/
def NOk (g : Nat → Int) (e : Nat) (a : Nat → Int) (k : Int) (a' : Nat → Int) (t' : Int) (j' e' : Nat) (v' : Int) : Prop :=
  ¬ FULL a k ∧ ∃ (t1 : Int) (j1 e1 : Nat) (v1 : Int), TK g e t1 j1 e1 v1 ∧ NMC t1 v1 ∧ (∀ p : Nat, (p : Int) < a 0 → a (121 + p) ≠ v1) ∧ ∃ (t2 : Int) (j2 e2 : Nat) (v2 : Int), TK g e1 t2 j2 e2 v2 ∧ ((k ≠ 0 ∧ AddN a a' k v1 0 ∧ TK g e1 t' j' e' v') ∨ (k = 0 ∧ t2 = 2 ∧ v2 ≤ 9 ∧ TK g e2 t' j' e' v' ∧ AddN a a' 0 v1 v2))
def NFl (g : Nat → Int) (pl e : Nat) (a : Nat → Int) (k P : Int) : Prop :=
  (FULL a k ∧ P = pl) ∨ (¬ FULL a k ∧ ∃ (t1 : Int) (j1 e1 : Nat) (v1 : Int), TK g e t1 j1 e1 v1 ∧ ((¬ NMC t1 v1 ∧ P = j1) ∨ (NMC t1 v1 ∧ (∃ p : Nat, (p : Int) < a 0 ∧ a (121 + p) = v1) ∧ P = j1) ∨ (NMC t1 v1 ∧ (∀ p : Nat, (p : Int) < a 0 → a (121 + p) ≠ v1) ∧ k = 0 ∧ ∃ (t2 : Int) (j2 e2 : Nat) (v2 : Int), TK g e1 t2 j2 e2 v2 ∧ (t2 ≠ 2 ∨ 9 < v2) ∧ P = j2)))
/-- one token, read twice -/
theorem TK.det1 {g : Nat → Int} {i : Nat} {t t' : Int} {j j' e e' : Nat} {v v' : Int} (h : TK g i t j e v) (h' : TK g i t' j' e' v') (ht : t = 1 ∨ t = 2) : t' = t ∧ j' = j ∧ e' = e ∧ v' = v := by
  obtain ⟨a, b, c, d⟩ := h.det h'
  exact ⟨b.symm, a.symm, (c (by omega)).symm, (d ht).symm⟩
theorem NMC.tr {g : Nat → Int} {i : Nat} {t t' : Int} {j j' e e' : Nat} {v v' : Int} (h : TK g i t j e v) (h' : TK g i t' j' e' v') (q : NMC t v) : NMC t' v' := by
  obtain ⟨x1, x2, x3, x4⟩ := h.det1 h' (Or.inl q.1)
  subst x1; subst x4; exact q
theorem NOk.det {g : Nat → Int} {e : Nat} {a b : Nat → Int} {k : Int} {a' b' : Nat → Int} {t t' : Int} {j j' e1 e2 : Nat} {v v' : Int} (h : AEq a b) (x : NOk g e a k a' t j e1 v) (y : NOk g e b k b' t' j' e2 v') : AEq a' b' ∧ j = j' ∧ t = t' ∧ (t ≠ 4 → e1 = e2) ∧ (t = 1 ∨ t = 2 → v = v') := by
  obtain ⟨x0, t1, j1, f1, v1, xa, xb, xc, t2, j2, f2, v2, xd, xe⟩ := x
  obtain ⟨y0, s1, i1, d1, u1, ya, yb, yc, s2, i2, d2, u2, yd, ye⟩ := y
  obtain ⟨z1, z2, z3, z4⟩ := xa.det1 ya (Or.inl xb.1)
  subst z1; subst z2; subst z3; subst z4
  rcases xe with ⟨k1, xn, xt⟩ | ⟨k1, xt2, xv, xt, xn⟩
  · rcases ye with ⟨k2, yn, yt⟩ | ⟨k2, yt2, yv, yt, yn⟩
    · exact ⟨xn.det h yn, xt.det yt⟩
    · exact absurd k2 k1
  · rcases ye with ⟨k2, yn, yt⟩ | ⟨k2, yt2, yv, yt, yn⟩
    · exact absurd k1 k2
    · obtain ⟨z1, z2, z3, z4⟩ := xd.det1 yd (Or.inr xt2)
      subst z1; subst z2; subst z3; subst z4
      exact ⟨xn.det h yn, xt.det yt⟩
theorem NOk.no {g : Nat → Int} {pl e : Nat} {a b : Nat → Int} {k P : Int} {a' : Nat → Int} {t : Int} {j e1 : Nat} {v : Int} (h : AEq a b) (x : NOk g e a k a' t j e1 v) (y : NFl g pl e b k P) : False := by
  obtain ⟨x0, t1, j1, f1, v1, xa, xb, xc, t2, j2, f2, v2, xd, xe⟩ := x
  rcases y with ⟨y0, -⟩ | ⟨y0, s1, i1, d1, u1, ya, yb⟩
  · exact x0 (y0.tr h.symm)
  · obtain ⟨z1, z2, z3, z4⟩ := xa.det1 ya (Or.inl xb.1)
    subst z1; subst z2; subst z3; subst z4
    rcases yb with ⟨yb, -⟩ | ⟨-, ⟨p, hp, hq⟩, -⟩ | ⟨-, -, k0, s2, i2, d2, u2, yc, yd, -⟩
    · exact yb xb
    · exact xc p (by rw [h.1]; exact hp) (((h.2 p (by rw [h.1]; exact hp)).2.2.2.2.1).trans hq)
    · rcases xe with ⟨k1, -, -⟩ | ⟨-, xt2, xv, -, -⟩
      · exact k1 k0
      · obtain ⟨z1, z2, z3, z4⟩ := xd.det1 yc (Or.inr xt2)
        subst z1; subst z4
        rcases yd with yd | yd
        · exact yd xt2
        · omega
theorem NFl.det {g : Nat → Int} {pl e : Nat} {a b : Nat → Int} {k P P' : Int} (h : AEq a b) (x : NFl g pl e a k P) (y : NFl g pl e b k P') : P = P' := by
  rcases x with ⟨x0, xp⟩ | ⟨x0, t1, j1, f1, v1, xa, xb⟩
  · rcases y with ⟨y0, yp⟩ | ⟨y0, -⟩
    · rw [xp, yp]
    · exact absurd (x0.tr h) y0
  · rcases y with ⟨y0, yp⟩ | ⟨y0, s1, i1, d1, u1, ya, yb⟩
    · exact absurd (y0.tr h.symm) x0
    · have hj := (xa.det ya).1
      have nm : ∀ p : Nat, (p : Int) < a 0 → a (121 + p) = b (121 + p) := fun p hp => (h.2 p hp).2.2.2.2.1
      rcases xb with ⟨xb, xp⟩ | ⟨xn, ⟨p, hp, hq⟩, xp⟩ | ⟨xn, xf, k0, t2, j2, f2, v2, xd, xe, xp⟩
      · rcases yb with ⟨yb, yp⟩ | ⟨yn, -, yp⟩ | ⟨yn, yf, k1, s2, i2, d2, u2, yd, ye, yp⟩
        · rw [xp, yp, hj]
        · rw [xp, yp, hj]
        · exact absurd (yn.tr ya xa) xb
      · obtain ⟨z1, z2, z3, z4⟩ := xa.det1 ya (Or.inl xn.1)
        subst z1; subst z2; subst z3; subst z4
        rcases yb with ⟨yb, yp⟩ | ⟨yn, -, yp⟩ | ⟨yn, yf, k1, s2, i2, d2, u2, yd, ye, yp⟩
        · rw [xp, yp]
        · rw [xp, yp]
        · exact absurd ((nm p hp).symm.trans hq) (yf p (by rw [← h.1]; exact hp))
      · obtain ⟨z1, z2, z3, z4⟩ := xa.det1 ya (Or.inl xn.1)
        subst z1; subst z2; subst z3; subst z4
        rcases yb with ⟨yb, yp⟩ | ⟨yn, ⟨p, hp, hq⟩, yp⟩ | ⟨yn, yf, k1, s2, i2, d2, u2, yd, ye, yp⟩
        · exact absurd xn yb
        · exact absurd ((nm p (by rw [h.1]; exact hp)).trans hq) (xf p (by rw [h.1]; exact hp))
        · rw [xp, yp, (xd.det yd).1]
/-- a line that tells a way, from behind its first word -/
def WyOk (g : Nat → Int) (e : Nat) (a a' : Nat → Int) (t' : Int) (j' e' : Nat) (v' : Int) : Prop :=
  ∃ (t1 : Int) (j1 e1 : Nat) (v1 r1 : Int), TK g e t1 j1 e1 v1 ∧ NMC t1 v1 ∧ FDn a v1 r1 ∧ 0 ≤ r1 ∧ a (1 + r1.toNat) ≠ 0 ∧ a (25 + r1.toNat) < 3 ∧
  ∃ (t2 : Int) (j2 e2 : Nat) (v2 r2 : Int), TK g e1 t2 j2 e2 v2 ∧ NMC t2 v2 ∧ FDn a v2 r2 ∧ 0 ≤ r2 ∧
  ∃ (t3 : Int) (j3 e3 : Nat) (v3 : Int), TK g e2 t3 j3 e3 v3 ∧
    ((a (1 + r1.toNat) = 3 ∧ t3 = 2 ∧ 1 ≤ v3 ∧ v3 ≤ 3 ∧ wsum a r1.toNat (a (25 + r1.toNat)).toNat + v3 ≤ 4 ∧ TK g e3 t' j' e' v' ∧ AddW a a' r1 r2 v3) ∨
     (a (1 + r1.toNat) = 3 ∧ t3 ≠ 2 ∧ wsum a r1.toNat (a (25 + r1.toNat)).toNat < 4 ∧ TK g e2 t' j' e' v' ∧ AddW a a' r1 r2 1) ∨
     (a (1 + r1.toNat) ≠ 3 ∧ TK g e2 t' j' e' v' ∧ AddW a a' r1 r2 1))
def WFl (g : Nat → Int) (e : Nat) (a : Nat → Int) (P : Int) : Prop :=
  ∃ (t1 : Int) (j1 e1 : Nat) (v1 : Int), TK g e t1 j1 e1 v1 ∧ ((¬ NMC t1 v1 ∧ P = j1) ∨ (NMC t1 v1 ∧ ∃ r1 : Int, FDn a v1 r1 ∧ (((r1 < 0 ∨ a (1 + r1.toNat) = 0 ∨ 3 ≤ a (25 + r1.toNat)) ∧ P = j1) ∨ (0 ≤ r1 ∧ a (1 + r1.toNat) ≠ 0 ∧ a (25 + r1.toNat) < 3 ∧
  ∃ (t2 : Int) (j2 e2 : Nat) (v2 : Int), TK g e1 t2 j2 e2 v2 ∧ ((¬ NMC t2 v2 ∧ P = j2) ∨ (NMC t2 v2 ∧ ∃ r2 : Int, FDn a v2 r2 ∧ ((r2 < 0 ∧ P = j2) ∨ (0 ≤ r2 ∧
  ∃ (t3 : Int) (j3 e3 : Nat) (v3 : Int), TK g e2 t3 j3 e3 v3 ∧
    ((a (1 + r1.toNat) = 3 ∧ t3 = 2 ∧ ¬ (1 ≤ v3 ∧ v3 ≤ 3 ∧ wsum a r1.toNat (a (25 + r1.toNat)).toNat + v3 ≤ 4) ∧ P = j3) ∨
     (a (1 + r1.toNat) = 3 ∧ t3 ≠ 2 ∧ 4 ≤ wsum a r1.toNat (a (25 + r1.toNat)).toNat ∧ P = j2) ∨
     (a (1 + r1.toNat) ≠ 3 ∧ t3 = 2 ∧ P = j3))))))))))
theorem ae_row {a b : Nat → Int} {r : Int} (h : AEq a b) (h0 : 0 ≤ r) (h1 : r < a 0) : a (1 + r.toNat) = b (1 + r.toNat) ∧ a (25 + r.toNat) = b (25 + r.toNat) ∧ wsum a r.toNat (a (25 + r.toNat)).toNat = wsum b r.toNat (b (25 + r.toNat)).toNat := by
  have q := h.2 r.toNat (by omega)
  refine ⟨q.1, q.2.2.1, ?_⟩
  rw [← q.2.2.1]
  exact wsum_congr (fun i hi => (q.2.2.2.2.2 i (by omega)).2)
theorem FDn.lt {a : Nat → Int} {v r : Int} (h : FDn a v r) (h0 : 0 ≤ r) : r < a 0 := by
  rcases h with ⟨_, h, _⟩ | ⟨h, _⟩
  · exact h
  · omega
theorem WyOk.det {g : Nat → Int} {e : Nat} {a b a' b' : Nat → Int} {t t' : Int} {j j' f f' : Nat} {v v' : Int} (h : AEq a b) (x : WyOk g e a a' t j f v) (y : WyOk g e b b' t' j' f' v') : AEq a' b' ∧ j = j' ∧ t = t' ∧ (t ≠ 4 → f = f') ∧ (t = 1 ∨ t = 2 → v = v') := by
  obtain ⟨t1, j1, e1, v1, r1, xa, xb, xc, xd, xe, xf, t2, j2, e2, v2, r2, xg, xh, xi, xj, t3, j3, e3, v3, xk, xl⟩ := x
  obtain ⟨s1, i1, d1, u1, q1, ya, yb, yc, yd, ye, yf, s2, i2, d2, u2, q2, yg, yh, yi, yj, s3, i3, d3, u3, yk, yl⟩ := y
  obtain ⟨z1, z2, z3, z4⟩ := xa.det1 ya (Or.inl xb.1)
  subst z1; subst z2; subst z3; subst z4
  obtain ⟨z1, z2, z3, z4⟩ := xg.det1 yg (Or.inl xh.1)
  subst z1; subst z2; subst z3; subst z4
  obtain rfl := xc.det h yc
  obtain rfl := xi.det h yi
  obtain ⟨w1, w2, w3⟩ := ae_row h xd (xc.lt xd)
  rw [← w1, ← w3] at yl
  rcases xl with ⟨c1, c2, c3, c4, c5, c6, c7⟩ | ⟨c1, c2, c3, c4, c5⟩ | ⟨c1, c2, c3⟩
  · obtain ⟨z1, z2, z3, z4⟩ := xk.det1 yk (Or.inr c2)
    subst z1; subst z2; subst z3; subst z4
    rcases yl with ⟨b1, b2, b3, b4, b5, b6, b7⟩ | ⟨b1, b2, b3, b4, b5⟩ | ⟨b1, b2, b3⟩
    · exact ⟨c7.det h b7, c6.det b6⟩
    · exact absurd c2 b2
    · exact absurd c1 b1
  · rcases yl with ⟨b1, b2, b3, b4, b5, b6, b7⟩ | ⟨b1, b2, b3, b4, b5⟩ | ⟨b1, b2, b3⟩
    · exact absurd ((xk.det yk).2.1.trans b2) c2
    · exact ⟨c5.det h b5, c4.det b4⟩
    · exact absurd c1 b1
  · rcases yl with ⟨b1, b2, b3, b4, b5, b6, b7⟩ | ⟨b1, b2, b3, b4, b5⟩ | ⟨b1, b2, b3⟩
    · exact absurd b1 c1
    · exact absurd b1 c1
    · exact ⟨c3.det h b3, c2.det b2⟩
/-- told well, but a sign too much: then there is a fault all the same -/
theorem WyOk.no {g : Nat → Int} {e : Nat} {a b a' : Nat → Int} {t P : Int} {j f : Nat} {v : Int} (h : AEq a b) (x : WyOk g e a a' t j f v) (y : WFl g e b P) : t ≠ 3 ∧ P = j := by
  obtain ⟨t1, j1, e1, v1, r1, xa, xb, xc, xd, xe, xf, t2, j2, e2, v2, r2, xg, xh, xi, xj, t3, j3, e3, v3, xk, xl⟩ := x
  obtain ⟨s1, i1, d1, u1, ya, yb⟩ := y
  obtain ⟨z1, z2, z3, z4⟩ := xa.det1 ya (Or.inl xb.1)
  subst z1; subst z2; subst z3; subst z4
  obtain ⟨w1, w2, w3⟩ := ae_row h xd (xc.lt xd)
  rcases yb with ⟨yb, -⟩ | ⟨-, q1, yc, yd⟩
  · exact absurd xb yb
  obtain rfl := xc.det h yc
  rw [← w1, ← w3, ← w2] at yd
  rcases yd with ⟨yd, -⟩ | ⟨-, -, -, s2, i2, d2, u2, yg, yh⟩
  · rcases yd with yd | yd | yd
    · omega
    · exact absurd yd xe
    · omega
  obtain ⟨z1, z2, z3, z4⟩ := xg.det1 yg (Or.inl xh.1)
  subst z1; subst z2; subst z3; subst z4
  rcases yh with ⟨yh, -⟩ | ⟨-, q2, yi, yj⟩
  · exact absurd xh yh
  obtain rfl := xi.det h yi
  rcases yj with ⟨yj, -⟩ | ⟨-, s3, i3, d3, u3, yk, yl⟩
  · omega
  rcases yl with ⟨b1, b2, b3, b4⟩ | ⟨b1, b2, b3, b4⟩ | ⟨b1, b2, b4⟩
  · rcases xl with ⟨c1, c2, c3, c4, c5, c6, c7⟩ | ⟨c1, c2, c3, c4, c5⟩ | ⟨c1, c2, c3⟩
    · obtain ⟨z1, z2, z3, z4⟩ := xk.det1 yk (Or.inr c2)
      subst z4
      exact absurd ⟨c3, c4, c5⟩ b3
    · exact absurd ((xk.det yk).2.1.trans b2) c2
    · exact absurd b1 c1
  · rcases xl with ⟨c1, c2, c3, c4, c5, c6, c7⟩ | ⟨c1, c2, c3, c4, c5⟩ | ⟨c1, c2, c3⟩
    · exact absurd ((xk.det yk).2.1.symm.trans c2) b2
    · omega
    · exact absurd b1 c1
  · rcases xl with ⟨c1, c2, c3, c4, c5, c6, c7⟩ | ⟨c1, c2, c3, c4, c5⟩ | ⟨c1, c2, c3⟩
    · exact absurd c1 b1
    · exact absurd c1 b1
    · have q := c2.det yk
      exact ⟨by omega, by rw [b4, q.1]⟩
theorem WFl.det {g : Nat → Int} {e : Nat} {a b : Nat → Int} {P P' : Int} (h : AEq a b) (x : WFl g e a P) (y : WFl g e b P') : P = P' := by
  obtain ⟨t1, j1, e1, v1, xa, xb⟩ := x
  obtain ⟨s1, i1, d1, u1, ya, yb⟩ := y
  have hj := (xa.det ya).1
  rcases xb with ⟨xb, xp⟩ | ⟨xn, r1, xc, xd⟩
  · rcases yb with ⟨yb, yp⟩ | ⟨yn, q1, yc, yd⟩
    · rw [xp, yp, hj]
    · exact absurd (yn.tr ya xa) xb
  rcases yb with ⟨yb, yp⟩ | ⟨yn, q1, yc, yd⟩
  · exact absurd (xn.tr xa ya) yb
  obtain ⟨z1, z2, z3, z4⟩ := xa.det1 ya (Or.inl xn.1)
  subst z1; subst z2; subst z3; subst z4
  obtain rfl := xc.det h yc
  rcases xd with ⟨xd, xp⟩ | ⟨xd, xe, xf, t2, j2, e2, v2, xg, xh⟩
  · rcases yd with ⟨yd, yp⟩ | ⟨yd, ye, yf, s2, i2, d2, u2, yg, yh⟩
    · rw [xp, yp]
    · obtain ⟨w1, w2, w3⟩ := ae_row h yd (by rw [h.1]; exact yc.lt yd)
      rcases xd with xd | xd | xd
      · omega
      · exact absurd (w1.symm.trans xd) ye
      · omega
  obtain ⟨w1, w2, w3⟩ := ae_row h xd (xc.lt xd)
  rcases yd with ⟨yd, yp⟩ | ⟨yd, ye, yf, s2, i2, d2, u2, yg, yh⟩
  · rcases yd with yd | yd | yd
    · omega
    · exact absurd (w1.trans yd) xe
    · omega
  have hj2 := (xg.det yg).1
  rcases xh with ⟨xh, xp⟩ | ⟨xn2, r2, xi, xj⟩
  · rcases yh with ⟨yh, yp⟩ | ⟨yn2, q2, yi, yj⟩
    · rw [xp, yp, hj2]
    · exact absurd (yn2.tr yg xg) xh
  rcases yh with ⟨yh, yp⟩ | ⟨yn2, q2, yi, yj⟩
  · exact absurd (xn2.tr xg yg) yh
  obtain ⟨z1, z2, z3, z4⟩ := xg.det1 yg (Or.inl xn2.1)
  subst z1; subst z2; subst z3; subst z4
  obtain rfl := xi.det h yi
  rcases xj with ⟨xj, xp⟩ | ⟨xj, t3, j3, e3, v3, xk, xl⟩
  · rcases yj with ⟨yj, yp⟩ | ⟨yj, s3, i3, d3, u3, yk, yl⟩
    · rw [xp, yp]
    · omega
  rcases yj with ⟨yj, yp⟩ | ⟨yj, s3, i3, d3, u3, yk, yl⟩
  · omega
  have k := xk.det yk
  rcases xl with ⟨c1, c2, c3, c4⟩ | ⟨c1, c2, c3, c4⟩ | ⟨c1, c2, c4⟩
  · rcases yl with ⟨b1, b2, b3, b4⟩ | ⟨b1, b2, b3, b4⟩ | ⟨b1, b2, b4⟩
    · rw [c4, b4, k.1]
    · exact absurd (k.2.1.symm.trans c2) b2
    · rw [c4, b4, k.1]
  · rcases yl with ⟨b1, b2, b3, b4⟩ | ⟨b1, b2, b3, b4⟩ | ⟨b1, b2, b4⟩
    · exact absurd (k.2.1.trans b2) c2
    · rw [c4, b4]
    · exact absurd (k.2.1.trans b2) c2
  · rcases yl with ⟨b1, b2, b3, b4⟩ | ⟨b1, b2, b3, b4⟩ | ⟨b1, b2, b4⟩
    · rw [c4, b4, k.1]
    · exact absurd (k.2.1.symm.trans c2) b2
    · rw [c4, b4, k.1]
/-! a line, from its first token on, which is already read; the whole tape -/
def LOk (g : Nat → Int) (t : Int) (j e : Nat) (v : Int) (a : Nat → Int) (t' : Int) (j' e' : Nat) (v' : Int) (a' : Nat → Int) : Prop :=
  t = 1 ∧ ∃ (t1 : Int) (j1 e1 : Nat) (v1 : Int), ((0 ≤ kd v ∧ kd v ≤ 3 ∧ NOk g e a (kd v) a' t1 j1 e1 v1) ∨ (kd v = 4 ∧ WyOk g e a a' t1 j1 e1 v1)) ∧ t1 = 3 ∧ TK g e1 t' j' e' v'
def LFl (g : Nat → Int) (t : Int) (j e : Nat) (v : Int) (a : Nat → Int) (P : Int) : Prop :=
  ((t ≠ 1 ∨ kd v = -1) ∧ P = j) ∨ (t = 1 ∧ ((0 ≤ kd v ∧ kd v ≤ 3 ∧ (NFl g j e a (kd v) P ∨ ∃ (a' : Nat → Int) (t1 : Int) (j1 e1 : Nat) (v1 : Int), NOk g e a (kd v) a' t1 j1 e1 v1 ∧ t1 ≠ 3 ∧ P = j1)) ∨ (kd v = 4 ∧ (WFl g e a P ∨ ∃ (a' : Nat → Int) (t1 : Int) (j1 e1 : Nat) (v1 : Int), WyOk g e a a' t1 j1 e1 v1 ∧ t1 ≠ 3 ∧ P = j1))))
/-- two views of one token -/
def TEq (t : Int) (j e : Nat) (v : Int) (t' : Int) (j' e' : Nat) (v' : Int) : Prop := j = j' ∧ t = t' ∧ (t ≠ 4 → e = e') ∧ (t = 1 ∨ t = 2 → v = v')
theorem LOk.det {g : Nat → Int} {t s : Int} {j i e d : Nat} {v u : Int} {a b : Nat → Int} {t' s' : Int} {j' i' e' d' : Nat} {v' u' : Int} {a' b' : Nat → Int} (hT : TEq t j e v s i d u) (h : AEq a b) (x : LOk g t j e v a t' j' e' v' a') (y : LOk g s i d u b s' i' d' u' b') : AEq a' b' ∧ TEq t' j' e' v' s' i' d' u' := by
  obtain ⟨x0, t1, j1, e1, v1, xa, xb, xc⟩ := x
  obtain ⟨y0, s1, i1, d1, u1, ya, yb, yc⟩ := y
  obtain ⟨h1, h2, h3, h4⟩ := hT
  have h3 := h3 (by omega)
  have h4 := h4 (Or.inl x0)
  subst h1; subst h2; subst h3; subst h4
  have key : AEq a' b' ∧ j1 = i1 ∧ t1 = s1 ∧ (t1 ≠ 4 → e1 = d1) ∧ (t1 = 1 ∨ t1 = 2 → v1 = u1) := by
    rcases xa with ⟨k0, k1, xn⟩ | ⟨k0, xw⟩
    · rcases ya with ⟨-, -, yn⟩ | ⟨k2, -⟩
      · exact xn.det h yn
      · omega
    · rcases ya with ⟨-, k2, yn⟩ | ⟨-, yw⟩
      · omega
      · exact xw.det h yw
  have he := key.2.2.2.1 (by omega)
  subst he
  exact ⟨key.1, xc.det yc⟩
theorem LOk.no {g : Nat → Int} {t s : Int} {j i e d : Nat} {v u : Int} {a b : Nat → Int} {t' : Int} {j' e' : Nat} {v' : Int} {a' : Nat → Int} {P : Int} (hT : TEq t j e v s i d u) (h : AEq a b) (x : LOk g t j e v a t' j' e' v' a') (y : LFl g s i d u b P) : False := by
  obtain ⟨x0, t1, j1, e1, v1, xa, xb, xc⟩ := x
  obtain ⟨h1, h2, h3, h4⟩ := hT
  have h3 := h3 (by omega)
  have h4 := h4 (Or.inl x0)
  subst h1; subst h2; subst h3; subst h4
  rcases y with ⟨y0, -⟩ | ⟨-, y⟩
  · rcases y0 with y0 | y0
    · exact y0 x0
    · rcases xa with ⟨k0, k1, xn⟩ | ⟨k0, xw⟩
      · omega
      · omega
  · rcases xa with ⟨k0, k1, xn⟩ | ⟨k0, xw⟩
    · rcases y with ⟨-, -, y⟩ | ⟨k2, -⟩
      · rcases y with y | ⟨b', s1, i1, d1, u1, yn, y3, -⟩
        · exact xn.no h y
        · have q := xn.det h yn
          exact y3 (q.2.2.1.symm.trans xb)
      · omega
    · rcases y with ⟨-, k2, -⟩ | ⟨-, y⟩
      · omega
      · rcases y with y | ⟨b', s1, i1, d1, u1, yn, y3, -⟩
        · exact (xw.no h y).1 xb
        · have q := xw.det h yn
          exact y3 (q.2.2.1.symm.trans xb)
theorem LFl.det {g : Nat → Int} {t s : Int} {j i e d : Nat} {v u : Int} {a b : Nat → Int} {P P' : Int} (hT : TEq t j e v s i d u) (h : AEq a b) (x : LFl g t j e v a P) (y : LFl g s i d u b P') : P = P' := by
  obtain ⟨h1, h2, h3, h4⟩ := hT
  subst h1; subst h2
  by_cases t1 : t = 1
  · have h3 := h3 (by omega)
    have h4 := h4 (Or.inl t1)
    subst h3; subst h4
    rcases x with ⟨x0, xp⟩ | ⟨-, x⟩
    · rcases y with ⟨-, yp⟩ | ⟨-, y⟩
      · rw [xp, yp]
      · rcases x0 with x0 | x0
        · exact absurd t1 x0
        · rcases y with ⟨k0, -, -⟩ | ⟨k0, -⟩
          · omega
          · omega
    · rcases y with ⟨y0, yp⟩ | ⟨-, y⟩
      · rcases y0 with y0 | y0
        · exact absurd t1 y0
        · rcases x with ⟨k0, -, -⟩ | ⟨k0, -⟩
          · omega
          · omega
      · rcases x with ⟨k0, k1, x⟩ | ⟨k0, x⟩
        · rcases y with ⟨-, -, y⟩ | ⟨k2, -⟩
          · rcases x with x | ⟨a', t1, j1, e1, v1, xn, x3, xp⟩
            · rcases y with y | ⟨b', s1, i1, d1, u1, yn, y3, yp⟩
              · exact x.det h y
              · exact (yn.no h.symm x).elim
            · rcases y with y | ⟨b', s1, i1, d1, u1, yn, y3, yp⟩
              · exact (xn.no h y).elim
              · rw [xp, yp, (xn.det h yn).2.1]
          · omega
        · rcases y with ⟨-, k2, -⟩ | ⟨-, y⟩
          · omega
          · rcases x with x | ⟨a', t1, j1, e1, v1, xn, x3, xp⟩
            · rcases y with y | ⟨b', s1, i1, d1, u1, yn, y3, yp⟩
              · exact x.det h y
              · rw [(yn.no h.symm x).2, yp]
            · rcases y with y | ⟨b', s1, i1, d1, u1, yn, y3, yp⟩
              · rw [(xn.no h y).2, xp]
              · rw [xp, yp, (xn.det h yn).2.1]
  · rcases x with ⟨-, xp⟩ | ⟨x, -⟩
    · rcases y with ⟨-, yp⟩ | ⟨y, -⟩
      · rw [xp, yp]
      · exact absurd y t1
    · exact absurd x t1
/-- behind k lines: the token that is read, the network that is told -/
def RCH (g : Nat → Int) : Nat → Int → Nat → Nat → Int → (Nat → Int) → Prop
  | 0, t, j, e, v, a => TK g 0 t j e v ∧ a 0 = 0
  | k + 1, t, j, e, v, a => ∃ (t0 : Int) (j0 e0 : Nat) (v0 : Int) (a0 : Nat → Int), RCH g k t0 j0 e0 v0 a0 ∧ t0 ≠ 0 ∧ LOk g t0 j0 e0 v0 a0 t j e v a
theorem RCH.det {g : Nat → Int} : ∀ {k : Nat} {t s : Int} {j i e d : Nat} {v u : Int} {a b : Nat → Int}, RCH g k t j e v a → RCH g k s i d u b → AEq a b ∧ TEq t j e v s i d u
  | 0, _, _, _, _, _, _, _, _, _, _, x, y => ⟨⟨x.2.trans y.2.symm, fun p hp => by have := x.2; omega⟩, x.1.det y.1⟩
  | k + 1, _, _, _, _, _, _, _, _, _, _, x, y => by
    obtain ⟨t0, j0, e0, v0, a0, x1, x2, x3⟩ := x
    obtain ⟨s0, i0, d0, u0, b0, y1, y2, y3⟩ := y
    obtain ⟨q1, q2⟩ := RCH.det x1 y1
    exact x3.det q2 q1 y3
/-- reading stops there, by the text's end or by a fault -/
def STP (g : Nat → Int) (t : Int) (j e : Nat) (v : Int) (a : Nat → Int) : Prop := t = 0 ∨ ∃ P : Int, LFl g t j e v a P
theorem RCH.before {g : Nat → Int} {k : Nat} {t : Int} {j e : Nat} {v : Int} {a : Nat → Int} : ∀ {n : Nat} {s : Int} {i d : Nat} {u : Int} {b : Nat → Int}, RCH g (k + 1 + n) s i d u b → ∃ (t0 : Int) (j0 e0 : Nat) (v0 : Int) (a0 : Nat → Int) (t1 : Int) (j1 e1 : Nat) (v1 : Int) (a1 : Nat → Int), RCH g k t0 j0 e0 v0 a0 ∧ t0 ≠ 0 ∧ LOk g t0 j0 e0 v0 a0 t1 j1 e1 v1 a1
  | 0, s, i, d, u, b, y => by
    obtain ⟨t0, j0, e0, v0, a0, x1, x2, x3⟩ := y
    exact ⟨t0, j0, e0, v0, a0, s, i, d, u, b, x1, x2, x3⟩
  | n + 1, _, _, _, _, _, y => by
    obtain ⟨s0, i0, d0, u0, b0, y1, y2, y3⟩ := y
    exact RCH.before (t := t) (j := j) (e := e) (v := v) (a := a) y1
theorem RCH.stop {g : Nat → Int} {k n : Nat} {t s : Int} {j i e d : Nat} {v u : Int} {a b : Nat → Int} (x : RCH g k t j e v a) (hx : STP g t j e v a) (y : RCH g n s i d u b) (h : k < n) : False := by
  obtain ⟨c, rfl⟩ : ∃ c, n = k + 1 + c := ⟨n - (k + 1), by omega⟩
  obtain ⟨t0, j0, e0, v0, a0, t1, j1, e1, v1, a1, z1, z2, z3⟩ := RCH.before (t := t) (j := j) (e := e) (v := v) (a := a) y
  obtain ⟨q1, q2⟩ := RCH.det z1 x
  rcases hx with hx | ⟨P, hx⟩
  · exact z2 (q2.2.1.trans hx)
  · exact z3.no q2 q1 hx
def LACK (a : Nat → Int) : Prop := ∃ p : Nat, (p : Int) < a 0 ∧ a (1 + p) ≠ 0 ∧ a (25 + p) = 0
theorem LACK.tr {a b : Nat → Int} (h : AEq a b) (q : LACK a) : LACK b := by
  obtain ⟨p, h1, h2, h3⟩ := q
  have s := h.2 p h1
  exact ⟨p, by rw [← h.1]; exact h1, fun z => h2 (s.1.trans z), s.2.2.1.symm.trans h3⟩
/-- the tape tells no game: the first fault is at P; it tells this one -/
def RFl (g : Nat → Int) (z P : Int) : Prop := (400 < z ∧ P = 400) ∨ (z ≤ 400 ∧ ∃ (k : Nat) (t : Int) (j e : Nat) (v : Int) (a : Nat → Int), RCH g k t j e v a ∧ ((t ≠ 0 ∧ LFl g t j e v a P) ∨ (t = 0 ∧ LACK a ∧ P = z)))
def ROk (g : Nat → Int) (z : Int) (a : Nat → Int) : Prop := z ≤ 400 ∧ ∃ (k : Nat) (t : Int) (j e : Nat) (v : Int), RCH g k t j e v a ∧ t = 0 ∧ ¬ LACK a
theorem rch_same {g : Nat → Int} {k n : Nat} {t s : Int} {j i e d : Nat} {v u : Int} {a b : Nat → Int} (x : RCH g k t j e v a) (hx : STP g t j e v a) (y : RCH g n s i d u b) (hy : STP g s i d u b) : AEq a b ∧ TEq t j e v s i d u := by
  rcases Nat.lt_trichotomy k n with q | q | q
  · exact (x.stop hx y q).elim
  · subst q; exact x.det y
  · exact (y.stop hy x q).elim
theorem RFl.det {g : Nat → Int} {z P P' : Int} (x : RFl g z P) (y : RFl g z P') : P = P' := by
  rcases x with ⟨x0, xp⟩ | ⟨x0, k, t, j, e, v, a, xr, xc⟩
  · rcases y with ⟨-, yp⟩ | ⟨y0, -⟩
    · rw [xp, yp]
    · omega
  · rcases y with ⟨y0, -⟩ | ⟨-, n, s, i, d, u, b, yr, yc⟩
    · omega
    · have hx : STP g t j e v a := by
        rcases xc with ⟨-, xc⟩ | ⟨xc, -⟩
        · exact Or.inr ⟨_, xc⟩
        · exact Or.inl xc
      have hy : STP g s i d u b := by
        rcases yc with ⟨-, yc⟩ | ⟨yc, -⟩
        · exact Or.inr ⟨_, yc⟩
        · exact Or.inl yc
      obtain ⟨q1, q2⟩ := rch_same xr hx yr hy
      rcases xc with ⟨x1, xc⟩ | ⟨x1, -, xp⟩
      · rcases yc with ⟨-, yc⟩ | ⟨y1, -⟩
        · exact xc.det q2 q1 yc
        · exact absurd (q2.2.1.trans y1) x1
      · rcases yc with ⟨y1, -⟩ | ⟨-, -, yp⟩
        · exact absurd (q2.2.1.symm.trans x1) y1
        · rw [xp, yp]
theorem ROk.no {g : Nat → Int} {z P : Int} {a : Nat → Int} (x : ROk g z a) (y : RFl g z P) : False := by
  obtain ⟨x0, k, t, j, e, v, xr, x1, x2⟩ := x
  rcases y with ⟨y0, -⟩ | ⟨-, n, s, i, d, u, b, yr, yc⟩
  · omega
  · have hy : STP g s i d u b := by
      rcases yc with ⟨-, yc⟩ | ⟨yc, -⟩
      · exact Or.inr ⟨_, yc⟩
      · exact Or.inl yc
    obtain ⟨q1, q2⟩ := rch_same xr (Or.inl x1) yr hy
    rcases yc with ⟨y1, -⟩ | ⟨-, yc, -⟩
    · exact y1 (q2.2.1.symm.trans x1)
    · exact x2 (yc.tr q1.symm)
theorem ROk.det {g : Nat → Int} {z : Int} {a b : Nat → Int} (x : ROk g z a) (y : ROk g z b) : AEq a b := by
  obtain ⟨x0, k, t, j, e, v, xr, x1, x2⟩ := x
  obtain ⟨y0, n, s, i, d, u, yr, y1, y2⟩ := y
  exact (rch_same xr (Or.inl x1) yr (Or.inl y1)).1
-- ===== PART A: goes FIRST, ahead of the names: the tables' words, and 'selects' of the private methods out of them =====
/-- a private method of a class that the tables say can be made, by its rows of tables_1 -/
def lw_okq (q : MethodName × Nat) : Prop := (q.1.cls ≠ "java/lang/invoke/MethodHandle" ∧ q.1.cls ≠ "java/lang/invoke/VarHandle") ∧ Cond.instantiable q.1.cls q.2 ∈ tables_1 ∧ Cond.privateMethod q.1 ∈ tables_1 ∧ Cond.instanceMethod q.1 ∈ tables_1
theorem lw_p0 : lw_okq (⟨"ChanceRings$Reader", "failAt", "(II)V"⟩, 10) := ⟨⟨by decide +kernel, by decide +kernel⟩, List.mem_of_getElem? (i := 111) (by decide +kernel), List.mem_of_getElem? (i := 456) (by decide +kernel), List.mem_of_getElem? (i := 457) (by decide +kernel)⟩
theorem lw_p1 : lw_okq (⟨"ChanceRings$Reader", "advance", "()V"⟩, 10) := ⟨⟨by decide +kernel, by decide +kernel⟩, List.mem_of_getElem? (i := 111) (by decide +kernel), List.mem_of_getElem? (i := 460) (by decide +kernel), List.mem_of_getElem? (i := 461) (by decide +kernel)⟩
theorem lw_p2 : lw_okq (⟨"ChanceRings$Reader", "takeRun", "()V"⟩, 10) := ⟨⟨by decide +kernel, by decide +kernel⟩, List.mem_of_getElem? (i := 111) (by decide +kernel), List.mem_of_getElem? (i := 470) (by decide +kernel), List.mem_of_getElem? (i := 471) (by decide +kernel)⟩
theorem lw_p3 : lw_okq (⟨"ChanceRings$Reader", "readLine", "()V"⟩, 10) := ⟨⟨by decide +kernel, by decide +kernel⟩, List.mem_of_getElem? (i := 111) (by decide +kernel), List.mem_of_getElem? (i := 474) (by decide +kernel), List.mem_of_getElem? (i := 475) (by decide +kernel)⟩
theorem lw_p4 : lw_okq (⟨"ChanceRings$Reader", "kindOf", "(I)I"⟩, 10) := ⟨⟨by decide +kernel, by decide +kernel⟩, List.mem_of_getElem? (i := 111) (by decide +kernel), List.mem_of_getElem? (i := 478) (by decide +kernel), List.mem_of_getElem? (i := 479) (by decide +kernel)⟩
theorem lw_p5 : lw_okq (⟨"ChanceRings$Reader", "readNode", "(I)V"⟩, 10) := ⟨⟨by decide +kernel, by decide +kernel⟩, List.mem_of_getElem? (i := 111) (by decide +kernel), List.mem_of_getElem? (i := 482) (by decide +kernel), List.mem_of_getElem? (i := 483) (by decide +kernel)⟩
theorem lw_p6 : lw_okq (⟨"ChanceRings$Reader", "isFull", "(I)Z"⟩, 10) := ⟨⟨by decide +kernel, by decide +kernel⟩, List.mem_of_getElem? (i := 111) (by decide +kernel), List.mem_of_getElem? (i := 486) (by decide +kernel), List.mem_of_getElem? (i := 487) (by decide +kernel)⟩
theorem lw_p7 : lw_okq (⟨"ChanceRings$Reader", "fail", "(I)V"⟩, 10) := ⟨⟨by decide +kernel, by decide +kernel⟩, List.mem_of_getElem? (i := 111) (by decide +kernel), List.mem_of_getElem? (i := 494) (by decide +kernel), List.mem_of_getElem? (i := 495) (by decide +kernel)⟩
theorem lw_p8 : lw_okq (⟨"ChanceRings$Reader", "isName", "()Z"⟩, 10) := ⟨⟨by decide +kernel, by decide +kernel⟩, List.mem_of_getElem? (i := 111) (by decide +kernel), List.mem_of_getElem? (i := 498) (by decide +kernel), List.mem_of_getElem? (i := 499) (by decide +kernel)⟩
theorem lw_p9 : lw_okq (⟨"ChanceRings$Reader", "isPay", "()Z"⟩, 10) := ⟨⟨by decide +kernel, by decide +kernel⟩, List.mem_of_getElem? (i := 111) (by decide +kernel), List.mem_of_getElem? (i := 510) (by decide +kernel), List.mem_of_getElem? (i := 511) (by decide +kernel)⟩
theorem lw_p10 : lw_okq (⟨"ChanceRings$Reader", "readStart", "()I"⟩, 10) := ⟨⟨by decide +kernel, by decide +kernel⟩, List.mem_of_getElem? (i := 111) (by decide +kernel), List.mem_of_getElem? (i := 514) (by decide +kernel), List.mem_of_getElem? (i := 515) (by decide +kernel)⟩
theorem lw_p11 : lw_okq (⟨"ChanceRings$Reader", "readTarget", "(I)V"⟩, 10) := ⟨⟨by decide +kernel, by decide +kernel⟩, List.mem_of_getElem? (i := 111) (by decide +kernel), List.mem_of_getElem? (i := 518) (by decide +kernel), List.mem_of_getElem? (i := 519) (by decide +kernel)⟩
theorem lw_p12 : lw_okq (⟨"ChanceRings$Reader", "isWeightFor", "(I)Z"⟩, 10) := ⟨⟨by decide +kernel, by decide +kernel⟩, List.mem_of_getElem? (i := 111) (by decide +kernel), List.mem_of_getElem? (i := 526) (by decide +kernel), List.mem_of_getElem? (i := 527) (by decide +kernel)⟩
theorem lw_p13 : lw_okq (⟨"ChanceRings$Reader", "lacksWay", "()Z"⟩, 10) := ⟨⟨by decide +kernel, by decide +kernel⟩, List.mem_of_getElem? (i := 111) (by decide +kernel), List.mem_of_getElem? (i := 534) (by decide +kernel), List.mem_of_getElem? (i := 535) (by decide +kernel)⟩
theorem lw_p14 : lw_okq (⟨"ChanceRings", "renew", "()V"⟩, 18) := ⟨⟨by decide +kernel, by decide +kernel⟩, List.mem_of_getElem? (i := 24) (by decide +kernel), List.mem_of_getElem? (i := 545) (by decide +kernel), List.mem_of_getElem? (i := 546) (by decide +kernel)⟩
theorem lw_p15 : lw_okq (⟨"ChanceRings$Solver", "unavoidable", "([I)I"⟩, 4) := ⟨⟨by decide +kernel, by decide +kernel⟩, List.mem_of_getElem? (i := 258) (by decide +kernel), List.mem_of_getElem? (i := 582) (by decide +kernel), List.mem_of_getElem? (i := 583) (by decide +kernel)⟩
def lw_privs_1 : List (MethodName × Nat) := [(⟨"ChanceRings$Reader", "failAt", "(II)V"⟩, 10), (⟨"ChanceRings$Reader", "advance", "()V"⟩, 10), (⟨"ChanceRings$Reader", "takeRun", "()V"⟩, 10), (⟨"ChanceRings$Reader", "readLine", "()V"⟩, 10), (⟨"ChanceRings$Reader", "kindOf", "(I)I"⟩, 10), (⟨"ChanceRings$Reader", "readNode", "(I)V"⟩, 10), (⟨"ChanceRings$Reader", "isFull", "(I)Z"⟩, 10), (⟨"ChanceRings$Reader", "fail", "(I)V"⟩, 10), (⟨"ChanceRings$Reader", "isName", "()Z"⟩, 10), (⟨"ChanceRings$Reader", "isPay", "()Z"⟩, 10), (⟨"ChanceRings$Reader", "readStart", "()I"⟩, 10), (⟨"ChanceRings$Reader", "readTarget", "(I)V"⟩, 10), (⟨"ChanceRings$Reader", "isWeightFor", "(I)Z"⟩, 10), (⟨"ChanceRings$Reader", "lacksWay", "()Z"⟩, 10), (⟨"ChanceRings", "renew", "()V"⟩, 18), (⟨"ChanceRings$Solver", "unavoidable", "([I)I"⟩, 4)]
theorem lw_r1 : ∀ q ∈ lw_privs_1, lw_okq q := List.forall_mem_cons.mpr ⟨lw_p0, List.forall_mem_cons.mpr ⟨lw_p1, List.forall_mem_cons.mpr ⟨lw_p2, List.forall_mem_cons.mpr ⟨lw_p3, List.forall_mem_cons.mpr ⟨lw_p4, List.forall_mem_cons.mpr ⟨lw_p5, List.forall_mem_cons.mpr ⟨lw_p6, List.forall_mem_cons.mpr ⟨lw_p7, List.forall_mem_cons.mpr ⟨lw_p8, List.forall_mem_cons.mpr ⟨lw_p9, List.forall_mem_cons.mpr ⟨lw_p10, List.forall_mem_cons.mpr ⟨lw_p11, List.forall_mem_cons.mpr ⟨lw_p12, List.forall_mem_cons.mpr ⟨lw_p13, List.forall_mem_cons.mpr ⟨lw_p14, List.forall_mem_cons.mpr ⟨lw_p15, fun _ h => absurd h List.not_mem_nil⟩⟩⟩⟩⟩⟩⟩⟩⟩⟩⟩⟩⟩⟩⟩⟩
theorem lw_p16 : lw_okq (⟨"ChanceRings$Course", "share", "([III)I"⟩, 3) := ⟨⟨by decide +kernel, by decide +kernel⟩, List.mem_of_getElem? (i := 264) (by decide +kernel), List.mem_of_getElem? (i := 606) (by decide +kernel), List.mem_of_getElem? (i := 607) (by decide +kernel)⟩
theorem lw_p17 : lw_okq (⟨"ChanceRings$Course", "lay", "([IIII)I"⟩, 3) := ⟨⟨by decide +kernel, by decide +kernel⟩, List.mem_of_getElem? (i := 264) (by decide +kernel), List.mem_of_getElem? (i := 615) (by decide +kernel), List.mem_of_getElem? (i := 616) (by decide +kernel)⟩
theorem lw_p18 : lw_okq (⟨"ChanceRings$Course", "placeOpen", "(I)I"⟩, 3) := ⟨⟨by decide +kernel, by decide +kernel⟩, List.mem_of_getElem? (i := 264) (by decide +kernel), List.mem_of_getElem? (i := 623) (by decide +kernel), List.mem_of_getElem? (i := 624) (by decide +kernel)⟩
theorem lw_p19 : lw_okq (⟨"ChanceRings$Course", "paidNext", "([II)J"⟩, 3) := ⟨⟨by decide +kernel, by decide +kernel⟩, List.mem_of_getElem? (i := 264) (by decide +kernel), List.mem_of_getElem? (i := 628) (by decide +kernel), List.mem_of_getElem? (i := 629) (by decide +kernel)⟩
theorem lw_p20 : lw_okq (⟨"ChanceRings$Course", "finish", "(ILChanceRings$Values;)V"⟩, 3) := ⟨⟨by decide +kernel, by decide +kernel⟩, List.mem_of_getElem? (i := 264) (by decide +kernel), List.mem_of_getElem? (i := 632) (by decide +kernel), List.mem_of_getElem? (i := 633) (by decide +kernel)⟩
theorem lw_p21 : lw_okq (⟨"ChanceRings$Equations", "eliminate", "(III)V"⟩, 3) := ⟨⟨by decide +kernel, by decide +kernel⟩, List.mem_of_getElem? (i := 270) (by decide +kernel), List.mem_of_getElem? (i := 640) (by decide +kernel), List.mem_of_getElem? (i := 641) (by decide +kernel)⟩
theorem lw_p22 : lw_okq (⟨"ChanceRings$Solver", "turnOpen", "(I[ILChanceRings$Values;I)I"⟩, 4) := ⟨⟨by decide +kernel, by decide +kernel⟩, List.mem_of_getElem? (i := 258) (by decide +kernel), List.mem_of_getElem? (i := 644) (by decide +kernel), List.mem_of_getElem? (i := 645) (by decide +kernel)⟩
theorem lw_p23 : lw_okq (⟨"ChanceRings$Solver", "betterWay", "(IILChanceRings$Values;)I"⟩, 4) := ⟨⟨by decide +kernel, by decide +kernel⟩, List.mem_of_getElem? (i := 258) (by decide +kernel), List.mem_of_getElem? (i := 648) (by decide +kernel), List.mem_of_getElem? (i := 649) (by decide +kernel)⟩
theorem lw_p24 : lw_okq (⟨"ChanceRings$Solver", "keepEven", "(LChanceRings$Values;)V"⟩, 4) := ⟨⟨by decide +kernel, by decide +kernel⟩, List.mem_of_getElem? (i := 258) (by decide +kernel), List.mem_of_getElem? (i := 661) (by decide +kernel), List.mem_of_getElem? (i := 662) (by decide +kernel)⟩
theorem lw_p25 : lw_okq (⟨"ChanceRings$Solver", "goodOf", "(ILChanceRings$Values;)I"⟩, 4) := ⟨⟨by decide +kernel, by decide +kernel⟩, List.mem_of_getElem? (i := 258) (by decide +kernel), List.mem_of_getElem? (i := 669) (by decide +kernel), List.mem_of_getElem? (i := 670) (by decide +kernel)⟩
theorem lw_p26 : lw_okq (⟨"ChanceRings$Solver", "bringsAll", "(LChanceRings$Values;)Z"⟩, 4) := ⟨⟨by decide +kernel, by decide +kernel⟩, List.mem_of_getElem? (i := 258) (by decide +kernel), List.mem_of_getElem? (i := 673) (by decide +kernel), List.mem_of_getElem? (i := 674) (by decide +kernel)⟩
theorem lw_p27 : lw_okq (⟨"ChanceRings$Solver", "isBrought", "(IILChanceRings$Values;)Z"⟩, 4) := ⟨⟨by decide +kernel, by decide +kernel⟩, List.mem_of_getElem? (i := 258) (by decide +kernel), List.mem_of_getElem? (i := 677) (by decide +kernel), List.mem_of_getElem? (i := 678) (by decide +kernel)⟩
theorem lw_p28 : lw_okq (⟨"ChanceRings$Outcome", "findReach", "()V"⟩, 10) := ⟨⟨by decide +kernel, by decide +kernel⟩, List.mem_of_getElem? (i := 316) (by decide +kernel), List.mem_of_getElem? (i := 681) (by decide +kernel), List.mem_of_getElem? (i := 682) (by decide +kernel)⟩
theorem lw_p29 : lw_okq (⟨"ChanceRings$Outcome", "findRings", "()V"⟩, 10) := ⟨⟨by decide +kernel, by decide +kernel⟩, List.mem_of_getElem? (i := 316) (by decide +kernel), List.mem_of_getElem? (i := 686) (by decide +kernel), List.mem_of_getElem? (i := 687) (by decide +kernel)⟩
theorem lw_p30 : lw_okq (⟨"ChanceRings$Outcome", "comesBack", "(I)Z"⟩, 10) := ⟨⟨by decide +kernel, by decide +kernel⟩, List.mem_of_getElem? (i := 316) (by decide +kernel), List.mem_of_getElem? (i := 690) (by decide +kernel), List.mem_of_getElem? (i := 691) (by decide +kernel)⟩
theorem lw_p31 : lw_okq (⟨"ChanceRings", "knowLeft", "()V"⟩, 18) := ⟨⟨by decide +kernel, by decide +kernel⟩, List.mem_of_getElem? (i := 24) (by decide +kernel), List.mem_of_getElem? (i := 719) (by decide +kernel), List.mem_of_getElem? (i := 720) (by decide +kernel)⟩
def lw_privs_2 : List (MethodName × Nat) := [(⟨"ChanceRings$Course", "share", "([III)I"⟩, 3), (⟨"ChanceRings$Course", "lay", "([IIII)I"⟩, 3), (⟨"ChanceRings$Course", "placeOpen", "(I)I"⟩, 3), (⟨"ChanceRings$Course", "paidNext", "([II)J"⟩, 3), (⟨"ChanceRings$Course", "finish", "(ILChanceRings$Values;)V"⟩, 3), (⟨"ChanceRings$Equations", "eliminate", "(III)V"⟩, 3), (⟨"ChanceRings$Solver", "turnOpen", "(I[ILChanceRings$Values;I)I"⟩, 4), (⟨"ChanceRings$Solver", "betterWay", "(IILChanceRings$Values;)I"⟩, 4), (⟨"ChanceRings$Solver", "keepEven", "(LChanceRings$Values;)V"⟩, 4), (⟨"ChanceRings$Solver", "goodOf", "(ILChanceRings$Values;)I"⟩, 4), (⟨"ChanceRings$Solver", "bringsAll", "(LChanceRings$Values;)Z"⟩, 4), (⟨"ChanceRings$Solver", "isBrought", "(IILChanceRings$Values;)Z"⟩, 4), (⟨"ChanceRings$Outcome", "findReach", "()V"⟩, 10), (⟨"ChanceRings$Outcome", "findRings", "()V"⟩, 10), (⟨"ChanceRings$Outcome", "comesBack", "(I)Z"⟩, 10), (⟨"ChanceRings", "knowLeft", "()V"⟩, 18)]
theorem lw_r2 : ∀ q ∈ lw_privs_2, lw_okq q := List.forall_mem_cons.mpr ⟨lw_p16, List.forall_mem_cons.mpr ⟨lw_p17, List.forall_mem_cons.mpr ⟨lw_p18, List.forall_mem_cons.mpr ⟨lw_p19, List.forall_mem_cons.mpr ⟨lw_p20, List.forall_mem_cons.mpr ⟨lw_p21, List.forall_mem_cons.mpr ⟨lw_p22, List.forall_mem_cons.mpr ⟨lw_p23, List.forall_mem_cons.mpr ⟨lw_p24, List.forall_mem_cons.mpr ⟨lw_p25, List.forall_mem_cons.mpr ⟨lw_p26, List.forall_mem_cons.mpr ⟨lw_p27, List.forall_mem_cons.mpr ⟨lw_p28, List.forall_mem_cons.mpr ⟨lw_p29, List.forall_mem_cons.mpr ⟨lw_p30, List.forall_mem_cons.mpr ⟨lw_p31, fun _ h => absurd h List.not_mem_nil⟩⟩⟩⟩⟩⟩⟩⟩⟩⟩⟩⟩⟩⟩⟩⟩
theorem lw_p32 : lw_okq (⟨"ChanceRings$Steps", "forgetOldest", "()V"⟩, 5) := ⟨⟨by decide +kernel, by decide +kernel⟩, List.mem_of_getElem? (i := 210) (by decide +kernel), List.mem_of_getElem? (i := 742) (by decide +kernel), List.mem_of_getElem? (i := 743) (by decide +kernel)⟩
theorem lw_p33 : lw_okq (⟨"ChanceRings$Regions", "broughtToPay", "(I)I"⟩, 1) := ⟨⟨by decide +kernel, by decide +kernel⟩, List.mem_of_getElem? (i := 248) (by decide +kernel), List.mem_of_getElem? (i := 797) (by decide +kernel), List.mem_of_getElem? (i := 798) (by decide +kernel)⟩
theorem lw_p34 : lw_okq (⟨"ChanceRings$Regions", "isBroughtToPay", "(III)Z"⟩, 1) := ⟨⟨by decide +kernel, by decide +kernel⟩, List.mem_of_getElem? (i := 248) (by decide +kernel), List.mem_of_getElem? (i := 802) (by decide +kernel), List.mem_of_getElem? (i := 803) (by decide +kernel)⟩
theorem lw_p35 : lw_okq (⟨"ChanceRings$Outcome", "countAhead", "(I)I"⟩, 10) := ⟨⟨by decide +kernel, by decide +kernel⟩, List.mem_of_getElem? (i := 316) (by decide +kernel), List.mem_of_getElem? (i := 818) (by decide +kernel), List.mem_of_getElem? (i := 819) (by decide +kernel)⟩
theorem lw_p36 : lw_okq (⟨"ChanceRings", "firstUnproved", "()I"⟩, 18) := ⟨⟨by decide +kernel, by decide +kernel⟩, List.mem_of_getElem? (i := 24) (by decide +kernel), List.mem_of_getElem? (i := 830) (by decide +kernel), List.mem_of_getElem? (i := 831) (by decide +kernel)⟩
theorem lw_p37 : lw_okq (⟨"ChanceRings", "isProved", "(I)Z"⟩, 18) := ⟨⟨by decide +kernel, by decide +kernel⟩, List.mem_of_getElem? (i := 24) (by decide +kernel), List.mem_of_getElem? (i := 834) (by decide +kernel), List.mem_of_getElem? (i := 835) (by decide +kernel)⟩
theorem lw_p38 : lw_okq (⟨"ChanceRings", "countCovered", "(I)I"⟩, 18) := ⟨⟨by decide +kernel, by decide +kernel⟩, List.mem_of_getElem? (i := 24) (by decide +kernel), List.mem_of_getElem? (i := 846) (by decide +kernel), List.mem_of_getElem? (i := 847) (by decide +kernel)⟩
theorem lw_p39 : lw_okq (⟨"ChanceRings", "coversMean", "(I)Z"⟩, 18) := ⟨⟨by decide +kernel, by decide +kernel⟩, List.mem_of_getElem? (i := 24) (by decide +kernel), List.mem_of_getElem? (i := 856) (by decide +kernel), List.mem_of_getElem? (i := 857) (by decide +kernel)⟩
theorem lw_p40 : lw_okq (⟨"ChanceRings", "firstWithLess", "()I"⟩, 18) := ⟨⟨by decide +kernel, by decide +kernel⟩, List.mem_of_getElem? (i := 24) (by decide +kernel), List.mem_of_getElem? (i := 864) (by decide +kernel), List.mem_of_getElem? (i := 865) (by decide +kernel)⟩
theorem lw_p41 : lw_okq (⟨"ChanceRings$Outcome", "drawnWay", "(II)I"⟩, 10) := ⟨⟨by decide +kernel, by decide +kernel⟩, List.mem_of_getElem? (i := 316) (by decide +kernel), List.mem_of_getElem? (i := 877) (by decide +kernel), List.mem_of_getElem? (i := 878) (by decide +kernel)⟩
theorem lw_p42 : lw_okq (⟨"ChanceRings$Telling", "putWord", "(I)V"⟩, 2) := ⟨⟨by decide +kernel, by decide +kernel⟩, List.mem_of_getElem? (i := 233) (by decide +kernel), List.mem_of_getElem? (i := 896) (by decide +kernel), List.mem_of_getElem? (i := 897) (by decide +kernel)⟩
theorem lw_p43 : lw_okq (⟨"ChanceRings$Telling", "put", "(I)V"⟩, 2) := ⟨⟨by decide +kernel, by decide +kernel⟩, List.mem_of_getElem? (i := 233) (by decide +kernel), List.mem_of_getElem? (i := 901) (by decide +kernel), List.mem_of_getElem? (i := 902) (by decide +kernel)⟩
theorem lw_p44 : lw_okq (⟨"ChanceRings$Telling", "putSpaced", "(I)V"⟩, 2) := ⟨⟨by decide +kernel, by decide +kernel⟩, List.mem_of_getElem? (i := 233) (by decide +kernel), List.mem_of_getElem? (i := 905) (by decide +kernel), List.mem_of_getElem? (i := 906) (by decide +kernel)⟩
theorem lw_p45 : lw_okq (⟨"ChanceRings$Telling", "putDigit", "(I)V"⟩, 2) := ⟨⟨by decide +kernel, by decide +kernel⟩, List.mem_of_getElem? (i := 233) (by decide +kernel), List.mem_of_getElem? (i := 909) (by decide +kernel), List.mem_of_getElem? (i := 910) (by decide +kernel)⟩
theorem lw_p46 : lw_okq (⟨"java/lang/Throwable", "fillInStackTrace", "(I)Ljava/lang/Throwable;"⟩, 6) := ⟨⟨by decide +kernel, by decide +kernel⟩, List.mem_of_getElem? (i := 993) (by decide +kernel), List.mem_of_getElem? (i := 991) (by decide +kernel), List.mem_of_getElem? (i := 992) (by decide +kernel)⟩
theorem lw_p47 : lw_okq (⟨"ChanceRings$Solver", "oneMoveMore", "(ILChanceRings$Values;)J"⟩, 4) := ⟨⟨by decide +kernel, by decide +kernel⟩, List.mem_of_getElem? (i := 258) (by decide +kernel), List.mem_of_getElem? (i := 1065) (by decide +kernel), List.mem_of_getElem? (i := 1066) (by decide +kernel)⟩
def lw_privs_3 : List (MethodName × Nat) := [(⟨"ChanceRings$Steps", "forgetOldest", "()V"⟩, 5), (⟨"ChanceRings$Regions", "broughtToPay", "(I)I"⟩, 1), (⟨"ChanceRings$Regions", "isBroughtToPay", "(III)Z"⟩, 1), (⟨"ChanceRings$Outcome", "countAhead", "(I)I"⟩, 10), (⟨"ChanceRings", "firstUnproved", "()I"⟩, 18), (⟨"ChanceRings", "isProved", "(I)Z"⟩, 18), (⟨"ChanceRings", "countCovered", "(I)I"⟩, 18), (⟨"ChanceRings", "coversMean", "(I)Z"⟩, 18), (⟨"ChanceRings", "firstWithLess", "()I"⟩, 18), (⟨"ChanceRings$Outcome", "drawnWay", "(II)I"⟩, 10), (⟨"ChanceRings$Telling", "putWord", "(I)V"⟩, 2), (⟨"ChanceRings$Telling", "put", "(I)V"⟩, 2), (⟨"ChanceRings$Telling", "putSpaced", "(I)V"⟩, 2), (⟨"ChanceRings$Telling", "putDigit", "(I)V"⟩, 2), (⟨"java/lang/Throwable", "fillInStackTrace", "(I)Ljava/lang/Throwable;"⟩, 6), (⟨"ChanceRings$Solver", "oneMoveMore", "(ILChanceRings$Values;)J"⟩, 4)]
theorem lw_r3 : ∀ q ∈ lw_privs_3, lw_okq q := List.forall_mem_cons.mpr ⟨lw_p32, List.forall_mem_cons.mpr ⟨lw_p33, List.forall_mem_cons.mpr ⟨lw_p34, List.forall_mem_cons.mpr ⟨lw_p35, List.forall_mem_cons.mpr ⟨lw_p36, List.forall_mem_cons.mpr ⟨lw_p37, List.forall_mem_cons.mpr ⟨lw_p38, List.forall_mem_cons.mpr ⟨lw_p39, List.forall_mem_cons.mpr ⟨lw_p40, List.forall_mem_cons.mpr ⟨lw_p41, List.forall_mem_cons.mpr ⟨lw_p42, List.forall_mem_cons.mpr ⟨lw_p43, List.forall_mem_cons.mpr ⟨lw_p44, List.forall_mem_cons.mpr ⟨lw_p45, List.forall_mem_cons.mpr ⟨lw_p46, List.forall_mem_cons.mpr ⟨lw_p47, fun _ h => absurd h List.not_mem_nil⟩⟩⟩⟩⟩⟩⟩⟩⟩⟩⟩⟩⟩⟩⟩⟩
theorem lw_p48 : lw_okq (⟨"ChanceRingsModel", "four", "(I)V"⟩, 35) := ⟨⟨by decide +kernel, by decide +kernel⟩, List.mem_of_getElem? (i := 1081) (by decide +kernel), List.mem_of_getElem? (i := 1198) (by decide +kernel), List.mem_of_getElem? (i := 1199) (by decide +kernel)⟩
theorem lw_p49 : lw_okq (⟨"ChanceRingsModel", "taken", "()V"⟩, 35) := ⟨⟨by decide +kernel, by decide +kernel⟩, List.mem_of_getElem? (i := 1081) (by decide +kernel), List.mem_of_getElem? (i := 1210) (by decide +kernel), List.mem_of_getElem? (i := 1211) (by decide +kernel)⟩
theorem lw_p50 : lw_okq (⟨"ChanceRingsModel", "reads", "()Z"⟩, 35) := ⟨⟨by decide +kernel, by decide +kernel⟩, List.mem_of_getElem? (i := 1081) (by decide +kernel), List.mem_of_getElem? (i := 1214) (by decide +kernel), List.mem_of_getElem? (i := 1215) (by decide +kernel)⟩
theorem lw_p51 : lw_okq (⟨"ChanceRingsModel", "bad", "(II)Z"⟩, 35) := ⟨⟨by decide +kernel, by decide +kernel⟩, List.mem_of_getElem? (i := 1081) (by decide +kernel), List.mem_of_getElem? (i := 1218) (by decide +kernel), List.mem_of_getElem? (i := 1219) (by decide +kernel)⟩
theorem lw_p52 : lw_okq (⟨"ChanceRingsModel", "next", "()V"⟩, 35) := ⟨⟨by decide +kernel, by decide +kernel⟩, List.mem_of_getElem? (i := 1081) (by decide +kernel), List.mem_of_getElem? (i := 1222) (by decide +kernel), List.mem_of_getElem? (i := 1223) (by decide +kernel)⟩
theorem lw_p53 : lw_okq (⟨"ChanceRingsModel", "peek", "()I"⟩, 35) := ⟨⟨by decide +kernel, by decide +kernel⟩, List.mem_of_getElem? (i := 1081) (by decide +kernel), List.mem_of_getElem? (i := 1226) (by decide +kernel), List.mem_of_getElem? (i := 1227) (by decide +kernel)⟩
theorem lw_p54 : lw_okq (⟨"ChanceRingsModel", "known", "()I"⟩, 35) := ⟨⟨by decide +kernel, by decide +kernel⟩, List.mem_of_getElem? (i := 1081) (by decide +kernel), List.mem_of_getElem? (i := 1239) (by decide +kernel), List.mem_of_getElem? (i := 1240) (by decide +kernel)⟩
theorem lw_p55 : lw_okq (⟨"ChanceRingsModel", "badHere", "(I)Z"⟩, 35) := ⟨⟨by decide +kernel, by decide +kernel⟩, List.mem_of_getElem? (i := 1081) (by decide +kernel), List.mem_of_getElem? (i := 1245) (by decide +kernel), List.mem_of_getElem? (i := 1246) (by decide +kernel)⟩
theorem lw_p56 : lw_okq (⟨"ChanceRingsModel", "wayLine", "()Z"⟩, 35) := ⟨⟨by decide +kernel, by decide +kernel⟩, List.mem_of_getElem? (i := 1081) (by decide +kernel), List.mem_of_getElem? (i := 1249) (by decide +kernel), List.mem_of_getElem? (i := 1250) (by decide +kernel)⟩
theorem lw_p57 : lw_okq (⟨"ChanceRingsModel", "isName", "()Z"⟩, 35) := ⟨⟨by decide +kernel, by decide +kernel⟩, List.mem_of_getElem? (i := 1081) (by decide +kernel), List.mem_of_getElem? (i := 1253) (by decide +kernel), List.mem_of_getElem? (i := 1254) (by decide +kernel)⟩
theorem lw_p58 : lw_okq (⟨"ChanceRingsModel", "named", "()I"⟩, 35) := ⟨⟨by decide +kernel, by decide +kernel⟩, List.mem_of_getElem? (i := 1081) (by decide +kernel), List.mem_of_getElem? (i := 1257) (by decide +kernel), List.mem_of_getElem? (i := 1258) (by decide +kernel)⟩
theorem lw_p59 : lw_okq (⟨"ChanceRingsModel", "nodeLine", "(I)Z"⟩, 35) := ⟨⟨by decide +kernel, by decide +kernel⟩, List.mem_of_getElem? (i := 1081) (by decide +kernel), List.mem_of_getElem? (i := 1264) (by decide +kernel), List.mem_of_getElem? (i := 1265) (by decide +kernel)⟩
theorem lw_p60 : lw_okq (⟨"ChanceRingsModel", "manyOf", "([II)I"⟩, 35) := ⟨⟨by decide +kernel, by decide +kernel⟩, List.mem_of_getElem? (i := 1081) (by decide +kernel), List.mem_of_getElem? (i := 1268) (by decide +kernel), List.mem_of_getElem? (i := 1269) (by decide +kernel)⟩
theorem lw_p61 : lw_okq (⟨"ChanceRingsModel", "changed", "()V"⟩, 35) := ⟨⟨by decide +kernel, by decide +kernel⟩, List.mem_of_getElem? (i := 1081) (by decide +kernel), List.mem_of_getElem? (i := 1275) (by decide +kernel), List.mem_of_getElem? (i := 1276) (by decide +kernel)⟩
theorem lw_p62 : lw_okq (⟨"ChanceRingsModel", "isNode", "(I)Z"⟩, 35) := ⟨⟨by decide +kernel, by decide +kernel⟩, List.mem_of_getElem? (i := 1081) (by decide +kernel), List.mem_of_getElem? (i := 1287) (by decide +kernel), List.mem_of_getElem? (i := 1288) (by decide +kernel)⟩
theorem lw_p63 : lw_okq (⟨"ChanceRingsModel", "throwsIf", "(Z)Z"⟩, 35) := ⟨⟨by decide +kernel, by decide +kernel⟩, List.mem_of_getElem? (i := 1081) (by decide +kernel), List.mem_of_getElem? (i := 1291) (by decide +kernel), List.mem_of_getElem? (i := 1292) (by decide +kernel)⟩
def lw_privs_4 : List (MethodName × Nat) := [(⟨"ChanceRingsModel", "four", "(I)V"⟩, 35), (⟨"ChanceRingsModel", "taken", "()V"⟩, 35), (⟨"ChanceRingsModel", "reads", "()Z"⟩, 35), (⟨"ChanceRingsModel", "bad", "(II)Z"⟩, 35), (⟨"ChanceRingsModel", "next", "()V"⟩, 35), (⟨"ChanceRingsModel", "peek", "()I"⟩, 35), (⟨"ChanceRingsModel", "known", "()I"⟩, 35), (⟨"ChanceRingsModel", "badHere", "(I)Z"⟩, 35), (⟨"ChanceRingsModel", "wayLine", "()Z"⟩, 35), (⟨"ChanceRingsModel", "isName", "()Z"⟩, 35), (⟨"ChanceRingsModel", "named", "()I"⟩, 35), (⟨"ChanceRingsModel", "nodeLine", "(I)Z"⟩, 35), (⟨"ChanceRingsModel", "manyOf", "([II)I"⟩, 35), (⟨"ChanceRingsModel", "changed", "()V"⟩, 35), (⟨"ChanceRingsModel", "isNode", "(I)Z"⟩, 35), (⟨"ChanceRingsModel", "throwsIf", "(Z)Z"⟩, 35)]
theorem lw_r4 : ∀ q ∈ lw_privs_4, lw_okq q := List.forall_mem_cons.mpr ⟨lw_p48, List.forall_mem_cons.mpr ⟨lw_p49, List.forall_mem_cons.mpr ⟨lw_p50, List.forall_mem_cons.mpr ⟨lw_p51, List.forall_mem_cons.mpr ⟨lw_p52, List.forall_mem_cons.mpr ⟨lw_p53, List.forall_mem_cons.mpr ⟨lw_p54, List.forall_mem_cons.mpr ⟨lw_p55, List.forall_mem_cons.mpr ⟨lw_p56, List.forall_mem_cons.mpr ⟨lw_p57, List.forall_mem_cons.mpr ⟨lw_p58, List.forall_mem_cons.mpr ⟨lw_p59, List.forall_mem_cons.mpr ⟨lw_p60, List.forall_mem_cons.mpr ⟨lw_p61, List.forall_mem_cons.mpr ⟨lw_p62, List.forall_mem_cons.mpr ⟨lw_p63, fun _ h => absurd h List.not_mem_nil⟩⟩⟩⟩⟩⟩⟩⟩⟩⟩⟩⟩⟩⟩⟩⟩
theorem lw_p64 : lw_okq (⟨"ChanceRingsModel", "isKind", "(II)Z"⟩, 35) := ⟨⟨by decide +kernel, by decide +kernel⟩, List.mem_of_getElem? (i := 1081) (by decide +kernel), List.mem_of_getElem? (i := 1295) (by decide +kernel), List.mem_of_getElem? (i := 1296) (by decide +kernel)⟩
theorem lw_p65 : lw_okq (⟨"ChanceRingsModel", "isWay", "(II)Z"⟩, 35) := ⟨⟨by decide +kernel, by decide +kernel⟩, List.mem_of_getElem? (i := 1081) (by decide +kernel), List.mem_of_getElem? (i := 1303) (by decide +kernel), List.mem_of_getElem? (i := 1304) (by decide +kernel)⟩
theorem lw_p66 : lw_okq (⟨"ChanceRingsModel", "to", "(II)I"⟩, 35) := ⟨⟨by decide +kernel, by decide +kernel⟩, List.mem_of_getElem? (i := 1081) (by decide +kernel), List.mem_of_getElem? (i := 1307) (by decide +kernel), List.mem_of_getElem? (i := 1308) (by decide +kernel)⟩
theorem lw_p67 : lw_okq (⟨"ChanceRingsModel", "heavy", "(II)I"⟩, 35) := ⟨⟨by decide +kernel, by decide +kernel⟩, List.mem_of_getElem? (i := 1081) (by decide +kernel), List.mem_of_getElem? (i := 1311) (by decide +kernel), List.mem_of_getElem? (i := 1312) (by decide +kernel)⟩
theorem lw_p68 : lw_okq (⟨"ChanceRingsModel", "knows", "()V"⟩, 35) := ⟨⟨by decide +kernel, by decide +kernel⟩, List.mem_of_getElem? (i := 1081) (by decide +kernel), List.mem_of_getElem? (i := 1322) (by decide +kernel), List.mem_of_getElem? (i := 1323) (by decide +kernel)⟩
theorem lw_p69 : lw_okq (⟨"ChanceRingsModel", "values", "(I)V"⟩, 35) := ⟨⟨by decide +kernel, by decide +kernel⟩, List.mem_of_getElem? (i := 1081) (by decide +kernel), List.mem_of_getElem? (i := 1326) (by decide +kernel), List.mem_of_getElem? (i := 1327) (by decide +kernel)⟩
theorem lw_p70 : lw_okq (⟨"ChanceRingsModel", "firstPlan", "(I)V"⟩, 35) := ⟨⟨by decide +kernel, by decide +kernel⟩, List.mem_of_getElem? (i := 1081) (by decide +kernel), List.mem_of_getElem? (i := 1330) (by decide +kernel), List.mem_of_getElem? (i := 1331) (by decide +kernel)⟩
theorem lw_p71 : lw_okq (⟨"ChanceRingsModel", "replies", "(II)V"⟩, 35) := ⟨⟨by decide +kernel, by decide +kernel⟩, List.mem_of_getElem? (i := 1081) (by decide +kernel), List.mem_of_getElem? (i := 1334) (by decide +kernel), List.mem_of_getElem? (i := 1335) (by decide +kernel)⟩
theorem lw_p72 : lw_okq (⟨"ChanceRingsModel", "plays", "(II)V"⟩, 35) := ⟨⟨by decide +kernel, by decide +kernel⟩, List.mem_of_getElem? (i := 1081) (by decide +kernel), List.mem_of_getElem? (i := 1338) (by decide +kernel), List.mem_of_getElem? (i := 1339) (by decide +kernel)⟩
theorem lw_p73 : lw_okq (⟨"ChanceRingsModel", "ends", "()I"⟩, 35) := ⟨⟨by decide +kernel, by decide +kernel⟩, List.mem_of_getElem? (i := 1081) (by decide +kernel), List.mem_of_getElem? (i := 1342) (by decide +kernel), List.mem_of_getElem? (i := 1343) (by decide +kernel)⟩
theorem lw_p74 : lw_okq (⟨"ChanceRingsModel", "comes", "(I)I"⟩, 35) := ⟨⟨by decide +kernel, by decide +kernel⟩, List.mem_of_getElem? (i := 1081) (by decide +kernel), List.mem_of_getElem? (i := 1346) (by decide +kernel), List.mem_of_getElem? (i := 1347) (by decide +kernel)⟩
theorem lw_p75 : lw_okq (⟨"ChanceRingsModel", "onBits", "(I)I"⟩, 35) := ⟨⟨by decide +kernel, by decide +kernel⟩, List.mem_of_getElem? (i := 1081) (by decide +kernel), List.mem_of_getElem? (i := 1350) (by decide +kernel), List.mem_of_getElem? (i := 1351) (by decide +kernel)⟩
theorem lw_p76 : lw_okq (⟨"ChanceRingsModel", "lays", "(IJJ)V"⟩, 35) := ⟨⟨by decide +kernel, by decide +kernel⟩, List.mem_of_getElem? (i := 1081) (by decide +kernel), List.mem_of_getElem? (i := 1354) (by decide +kernel), List.mem_of_getElem? (i := 1355) (by decide +kernel)⟩
theorem lw_p77 : lw_okq (⟨"ChanceRingsModel", "solves", "(I)J"⟩, 35) := ⟨⟨by decide +kernel, by decide +kernel⟩, List.mem_of_getElem? (i := 1081) (by decide +kernel), List.mem_of_getElem? (i := 1364) (by decide +kernel), List.mem_of_getElem? (i := 1365) (by decide +kernel)⟩
theorem lw_p78 : lw_okq (⟨"ChanceRingsModel", "nextPlan", "(I)Z"⟩, 35) := ⟨⟨by decide +kernel, by decide +kernel⟩, List.mem_of_getElem? (i := 1081) (by decide +kernel), List.mem_of_getElem? (i := 1371) (by decide +kernel), List.mem_of_getElem? (i := 1372) (by decide +kernel)⟩
theorem lw_p79 : lw_okq (⟨"ChanceRingsModel", "findsPlan", "(I)V"⟩, 35) := ⟨⟨by decide +kernel, by decide +kernel⟩, List.mem_of_getElem? (i := 1081) (by decide +kernel), List.mem_of_getElem? (i := 1375) (by decide +kernel), List.mem_of_getElem? (i := 1376) (by decide +kernel)⟩
def lw_privs_5 : List (MethodName × Nat) := [(⟨"ChanceRingsModel", "isKind", "(II)Z"⟩, 35), (⟨"ChanceRingsModel", "isWay", "(II)Z"⟩, 35), (⟨"ChanceRingsModel", "to", "(II)I"⟩, 35), (⟨"ChanceRingsModel", "heavy", "(II)I"⟩, 35), (⟨"ChanceRingsModel", "knows", "()V"⟩, 35), (⟨"ChanceRingsModel", "values", "(I)V"⟩, 35), (⟨"ChanceRingsModel", "firstPlan", "(I)V"⟩, 35), (⟨"ChanceRingsModel", "replies", "(II)V"⟩, 35), (⟨"ChanceRingsModel", "plays", "(II)V"⟩, 35), (⟨"ChanceRingsModel", "ends", "()I"⟩, 35), (⟨"ChanceRingsModel", "comes", "(I)I"⟩, 35), (⟨"ChanceRingsModel", "onBits", "(I)I"⟩, 35), (⟨"ChanceRingsModel", "lays", "(IJJ)V"⟩, 35), (⟨"ChanceRingsModel", "solves", "(I)J"⟩, 35), (⟨"ChanceRingsModel", "nextPlan", "(I)Z"⟩, 35), (⟨"ChanceRingsModel", "findsPlan", "(I)V"⟩, 35)]
theorem lw_r5 : ∀ q ∈ lw_privs_5, lw_okq q := List.forall_mem_cons.mpr ⟨lw_p64, List.forall_mem_cons.mpr ⟨lw_p65, List.forall_mem_cons.mpr ⟨lw_p66, List.forall_mem_cons.mpr ⟨lw_p67, List.forall_mem_cons.mpr ⟨lw_p68, List.forall_mem_cons.mpr ⟨lw_p69, List.forall_mem_cons.mpr ⟨lw_p70, List.forall_mem_cons.mpr ⟨lw_p71, List.forall_mem_cons.mpr ⟨lw_p72, List.forall_mem_cons.mpr ⟨lw_p73, List.forall_mem_cons.mpr ⟨lw_p74, List.forall_mem_cons.mpr ⟨lw_p75, List.forall_mem_cons.mpr ⟨lw_p76, List.forall_mem_cons.mpr ⟨lw_p77, List.forall_mem_cons.mpr ⟨lw_p78, List.forall_mem_cons.mpr ⟨lw_p79, fun _ h => absurd h List.not_mem_nil⟩⟩⟩⟩⟩⟩⟩⟩⟩⟩⟩⟩⟩⟩⟩⟩
theorem lw_p80 : lw_okq (⟨"ChanceRingsModel", "isWorth", "()Z"⟩, 35) := ⟨⟨by decide +kernel, by decide +kernel⟩, List.mem_of_getElem? (i := 1081) (by decide +kernel), List.mem_of_getElem? (i := 1379) (by decide +kernel), List.mem_of_getElem? (i := 1380) (by decide +kernel)⟩
theorem lw_p81 : lw_okq (⟨"ChanceRingsModel", "isPlayer", "(I)Z"⟩, 35) := ⟨⟨by decide +kernel, by decide +kernel⟩, List.mem_of_getElem? (i := 1081) (by decide +kernel), List.mem_of_getElem? (i := 1387) (by decide +kernel), List.mem_of_getElem? (i := 1388) (by decide +kernel)⟩
theorem lw_p82 : lw_okq (⟨"ChanceRingsModel", "laysLeft", "()V"⟩, 35) := ⟨⟨by decide +kernel, by decide +kernel⟩, List.mem_of_getElem? (i := 1081) (by decide +kernel), List.mem_of_getElem? (i := 1403) (by decide +kernel), List.mem_of_getElem? (i := 1404) (by decide +kernel)⟩
theorem lw_p83 : lw_okq (⟨"ChanceRingsModel", "improves", "()I"⟩, 35) := ⟨⟨by decide +kernel, by decide +kernel⟩, List.mem_of_getElem? (i := 1081) (by decide +kernel), List.mem_of_getElem? (i := 1411) (by decide +kernel), List.mem_of_getElem? (i := 1412) (by decide +kernel)⟩
theorem lw_p84 : lw_okq (⟨"ChanceRingsModel", "isMoreAt", "(II)Z"⟩, 35) := ⟨⟨by decide +kernel, by decide +kernel⟩, List.mem_of_getElem? (i := 1081) (by decide +kernel), List.mem_of_getElem? (i := 1415) (by decide +kernel), List.mem_of_getElem? (i := 1416) (by decide +kernel)⟩
theorem lw_p85 : lw_okq (⟨"ChanceRingsModel", "sets0", "(II)I"⟩, 35) := ⟨⟨by decide +kernel, by decide +kernel⟩, List.mem_of_getElem? (i := 1081) (by decide +kernel), List.mem_of_getElem? (i := 1427) (by decide +kernel), List.mem_of_getElem? (i := 1428) (by decide +kernel)⟩
theorem lw_p86 : lw_okq (⟨"ChanceRingsModel", "keeps", "()V"⟩, 35) := ⟨⟨by decide +kernel, by decide +kernel⟩, List.mem_of_getElem? (i := 1081) (by decide +kernel), List.mem_of_getElem? (i := 1431) (by decide +kernel), List.mem_of_getElem? (i := 1432) (by decide +kernel)⟩
theorem lw_p87 : lw_okq (⟨"ChanceRingsModel", "mean", "(I)V"⟩, 35) := ⟨⟨by decide +kernel, by decide +kernel⟩, List.mem_of_getElem? (i := 1081) (by decide +kernel), List.mem_of_getElem? (i := 1467) (by decide +kernel), List.mem_of_getElem? (i := 1468) (by decide +kernel)⟩
theorem lw_p88 : lw_okq (⟨"ChanceRingsModel", "choosesAt", "(I)V"⟩, 35) := ⟨⟨by decide +kernel, by decide +kernel⟩, List.mem_of_getElem? (i := 1081) (by decide +kernel), List.mem_of_getElem? (i := 1471) (by decide +kernel), List.mem_of_getElem? (i := 1472) (by decide +kernel)⟩
theorem lw_p89 : lw_okq (⟨"ChanceRingsModel", "may", "(II)Z"⟩, 35) := ⟨⟨by decide +kernel, by decide +kernel⟩, List.mem_of_getElem? (i := 1081) (by decide +kernel), List.mem_of_getElem? (i := 1475) (by decide +kernel), List.mem_of_getElem? (i := 1476) (by decide +kernel)⟩
theorem lw_p90 : lw_okq (⟨"ChanceRingsModel", "all", "()I"⟩, 35) := ⟨⟨by decide +kernel, by decide +kernel⟩, List.mem_of_getElem? (i := 1081) (by decide +kernel), List.mem_of_getElem? (i := 1483) (by decide +kernel), List.mem_of_getElem? (i := 1484) (by decide +kernel)⟩
theorem lw_p91 : lw_okq (⟨"ChanceRingsModel", "aheadOf", "(I)I"⟩, 35) := ⟨⟨by decide +kernel, by decide +kernel⟩, List.mem_of_getElem? (i := 1081) (by decide +kernel), List.mem_of_getElem? (i := 1487) (by decide +kernel), List.mem_of_getElem? (i := 1488) (by decide +kernel)⟩
theorem lw_p92 : lw_okq (⟨"ChanceRingsModel", "byBoth", "()V"⟩, 35) := ⟨⟨by decide +kernel, by decide +kernel⟩, List.mem_of_getElem? (i := 1081) (by decide +kernel), List.mem_of_getElem? (i := 1495) (by decide +kernel), List.mem_of_getElem? (i := 1496) (by decide +kernel)⟩
theorem lw_p93 : lw_okq (⟨"ChanceRingsModel", "ringOf", "(I)I"⟩, 35) := ⟨⟨by decide +kernel, by decide +kernel⟩, List.mem_of_getElem? (i := 1081) (by decide +kernel), List.mem_of_getElem? (i := 1499) (by decide +kernel), List.mem_of_getElem? (i := 1500) (by decide +kernel)⟩
theorem lw_p94 : lw_okq (⟨"ChanceRingsModel", "from", "(I)I"⟩, 35) := ⟨⟨by decide +kernel, by decide +kernel⟩, List.mem_of_getElem? (i := 1081) (by decide +kernel), List.mem_of_getElem? (i := 1503) (by decide +kernel), List.mem_of_getElem? (i := 1504) (by decide +kernel)⟩
theorem lw_p95 : lw_okq (⟨"ChanceRingsModel", "trap", "()I"⟩, 35) := ⟨⟨by decide +kernel, by decide +kernel⟩, List.mem_of_getElem? (i := 1081) (by decide +kernel), List.mem_of_getElem? (i := 1520) (by decide +kernel), List.mem_of_getElem? (i := 1521) (by decide +kernel)⟩
def lw_privs_6 : List (MethodName × Nat) := [(⟨"ChanceRingsModel", "isWorth", "()Z"⟩, 35), (⟨"ChanceRingsModel", "isPlayer", "(I)Z"⟩, 35), (⟨"ChanceRingsModel", "laysLeft", "()V"⟩, 35), (⟨"ChanceRingsModel", "improves", "()I"⟩, 35), (⟨"ChanceRingsModel", "isMoreAt", "(II)Z"⟩, 35), (⟨"ChanceRingsModel", "sets0", "(II)I"⟩, 35), (⟨"ChanceRingsModel", "keeps", "()V"⟩, 35), (⟨"ChanceRingsModel", "mean", "(I)V"⟩, 35), (⟨"ChanceRingsModel", "choosesAt", "(I)V"⟩, 35), (⟨"ChanceRingsModel", "may", "(II)Z"⟩, 35), (⟨"ChanceRingsModel", "all", "()I"⟩, 35), (⟨"ChanceRingsModel", "aheadOf", "(I)I"⟩, 35), (⟨"ChanceRingsModel", "byBoth", "()V"⟩, 35), (⟨"ChanceRingsModel", "ringOf", "(I)I"⟩, 35), (⟨"ChanceRingsModel", "from", "(I)I"⟩, 35), (⟨"ChanceRingsModel", "trap", "()I"⟩, 35)]
theorem lw_r6 : ∀ q ∈ lw_privs_6, lw_okq q := List.forall_mem_cons.mpr ⟨lw_p80, List.forall_mem_cons.mpr ⟨lw_p81, List.forall_mem_cons.mpr ⟨lw_p82, List.forall_mem_cons.mpr ⟨lw_p83, List.forall_mem_cons.mpr ⟨lw_p84, List.forall_mem_cons.mpr ⟨lw_p85, List.forall_mem_cons.mpr ⟨lw_p86, List.forall_mem_cons.mpr ⟨lw_p87, List.forall_mem_cons.mpr ⟨lw_p88, List.forall_mem_cons.mpr ⟨lw_p89, List.forall_mem_cons.mpr ⟨lw_p90, List.forall_mem_cons.mpr ⟨lw_p91, List.forall_mem_cons.mpr ⟨lw_p92, List.forall_mem_cons.mpr ⟨lw_p93, List.forall_mem_cons.mpr ⟨lw_p94, List.forall_mem_cons.mpr ⟨lw_p95, fun _ h => absurd h List.not_mem_nil⟩⟩⟩⟩⟩⟩⟩⟩⟩⟩⟩⟩⟩⟩⟩⟩
theorem lw_p96 : lw_okq (⟨"ChanceRingsModel", "sure", "()I"⟩, 35) := ⟨⟨by decide +kernel, by decide +kernel⟩, List.mem_of_getElem? (i := 1081) (by decide +kernel), List.mem_of_getElem? (i := 1524) (by decide +kernel), List.mem_of_getElem? (i := 1525) (by decide +kernel)⟩
theorem lw_p97 : lw_okq (⟨"ChanceRingsModel", "surely", "()I"⟩, 35) := ⟨⟨by decide +kernel, by decide +kernel⟩, List.mem_of_getElem? (i := 1081) (by decide +kernel), List.mem_of_getElem? (i := 1528) (by decide +kernel), List.mem_of_getElem? (i := 1529) (by decide +kernel)⟩
theorem lw_p98 : lw_okq (⟨"ChanceRingsModel", "paying", "()I"⟩, 35) := ⟨⟨by decide +kernel, by decide +kernel⟩, List.mem_of_getElem? (i := 1081) (by decide +kernel), List.mem_of_getElem? (i := 1532) (by decide +kernel), List.mem_of_getElem? (i := 1533) (by decide +kernel)⟩
theorem lw_p99 : lw_okq (⟨"ChanceRingsModel", "soon", "(I)I"⟩, 35) := ⟨⟨by decide +kernel, by decide +kernel⟩, List.mem_of_getElem? (i := 1081) (by decide +kernel), List.mem_of_getElem? (i := 1536) (by decide +kernel), List.mem_of_getElem? (i := 1537) (by decide +kernel)⟩
theorem lw_p100 : lw_okq (⟨"ChanceRingsModel", "tells", "()Z"⟩, 35) := ⟨⟨by decide +kernel, by decide +kernel⟩, List.mem_of_getElem? (i := 1081) (by decide +kernel), List.mem_of_getElem? (i := 1548) (by decide +kernel), List.mem_of_getElem? (i := 1549) (by decide +kernel)⟩
theorem lw_p101 : lw_okq (⟨"ChanceRingsModel", "isAbove", "(I)Z"⟩, 35) := ⟨⟨by decide +kernel, by decide +kernel⟩, List.mem_of_getElem? (i := 1081) (by decide +kernel), List.mem_of_getElem? (i := 1552) (by decide +kernel), List.mem_of_getElem? (i := 1553) (by decide +kernel)⟩
theorem lw_p102 : lw_okq (⟨"ChanceRingsModel", "playFrom", "(III)I"⟩, 35) := ⟨⟨by decide +kernel, by decide +kernel⟩, List.mem_of_getElem? (i := 1081) (by decide +kernel), List.mem_of_getElem? (i := 1564) (by decide +kernel), List.mem_of_getElem? (i := 1565) (by decide +kernel)⟩
theorem lw_p103 : lw_okq (⟨"ChanceRingsModel", "drawnWay", "(I)I"⟩, 35) := ⟨⟨by decide +kernel, by decide +kernel⟩, List.mem_of_getElem? (i := 1081) (by decide +kernel), List.mem_of_getElem? (i := 1568) (by decide +kernel), List.mem_of_getElem? (i := 1569) (by decide +kernel)⟩
theorem lw_p104 : lw_okq (⟨"ChanceRingsModel", "draw", "(I)I"⟩, 35) := ⟨⟨by decide +kernel, by decide +kernel⟩, List.mem_of_getElem? (i := 1081) (by decide +kernel), List.mem_of_getElem? (i := 1572) (by decide +kernel), List.mem_of_getElem? (i := 1573) (by decide +kernel)⟩
theorem lw_p105 : lw_okq (⟨"ChanceRingsModel", "putsWord", "(I)V"⟩, 35) := ⟨⟨by decide +kernel, by decide +kernel⟩, List.mem_of_getElem? (i := 1081) (by decide +kernel), List.mem_of_getElem? (i := 1585) (by decide +kernel), List.mem_of_getElem? (i := 1586) (by decide +kernel)⟩
theorem lw_p106 : lw_okq (⟨"ChanceRingsModel", "puts", "(I)V"⟩, 35) := ⟨⟨by decide +kernel, by decide +kernel⟩, List.mem_of_getElem? (i := 1081) (by decide +kernel), List.mem_of_getElem? (i := 1589) (by decide +kernel), List.mem_of_getElem? (i := 1590) (by decide +kernel)⟩
theorem lw_p107 : lw_okq (⟨"ChanceRingsModel", "putsName", "(I)V"⟩, 35) := ⟨⟨by decide +kernel, by decide +kernel⟩, List.mem_of_getElem? (i := 1081) (by decide +kernel), List.mem_of_getElem? (i := 1593) (by decide +kernel), List.mem_of_getElem? (i := 1594) (by decide +kernel)⟩
theorem lw_p108 : lw_okq (⟨"ChanceRingsModel", "putsNumber", "(I)V"⟩, 35) := ⟨⟨by decide +kernel, by decide +kernel⟩, List.mem_of_getElem? (i := 1081) (by decide +kernel), List.mem_of_getElem? (i := 1597) (by decide +kernel), List.mem_of_getElem? (i := 1598) (by decide +kernel)⟩
def lw_privs_7 : List (MethodName × Nat) := [(⟨"ChanceRingsModel", "sure", "()I"⟩, 35), (⟨"ChanceRingsModel", "surely", "()I"⟩, 35), (⟨"ChanceRingsModel", "paying", "()I"⟩, 35), (⟨"ChanceRingsModel", "soon", "(I)I"⟩, 35), (⟨"ChanceRingsModel", "tells", "()Z"⟩, 35), (⟨"ChanceRingsModel", "isAbove", "(I)Z"⟩, 35), (⟨"ChanceRingsModel", "playFrom", "(III)I"⟩, 35), (⟨"ChanceRingsModel", "drawnWay", "(I)I"⟩, 35), (⟨"ChanceRingsModel", "draw", "(I)I"⟩, 35), (⟨"ChanceRingsModel", "putsWord", "(I)V"⟩, 35), (⟨"ChanceRingsModel", "puts", "(I)V"⟩, 35), (⟨"ChanceRingsModel", "putsName", "(I)V"⟩, 35), (⟨"ChanceRingsModel", "putsNumber", "(I)V"⟩, 35)]
theorem lw_r7 : ∀ q ∈ lw_privs_7, lw_okq q := List.forall_mem_cons.mpr ⟨lw_p96, List.forall_mem_cons.mpr ⟨lw_p97, List.forall_mem_cons.mpr ⟨lw_p98, List.forall_mem_cons.mpr ⟨lw_p99, List.forall_mem_cons.mpr ⟨lw_p100, List.forall_mem_cons.mpr ⟨lw_p101, List.forall_mem_cons.mpr ⟨lw_p102, List.forall_mem_cons.mpr ⟨lw_p103, List.forall_mem_cons.mpr ⟨lw_p104, List.forall_mem_cons.mpr ⟨lw_p105, List.forall_mem_cons.mpr ⟨lw_p106, List.forall_mem_cons.mpr ⟨lw_p107, List.forall_mem_cons.mpr ⟨lw_p108, fun _ h => absurd h List.not_mem_nil⟩⟩⟩⟩⟩⟩⟩⟩⟩⟩⟩⟩⟩
def lw_privs : List (MethodName × Nat) := lw_privs_1 ++ (lw_privs_2 ++ (lw_privs_3 ++ (lw_privs_4 ++ (lw_privs_5 ++ (lw_privs_6 ++ (lw_privs_7))))))
def lw_tbl : List Cond := k2_sels lw_privs ++ tables_1
theorem lw_privs_ok : ∀ q ∈ lw_privs, lw_okq q := by
  show ∀ q ∈ lw_privs_1 ++ (lw_privs_2 ++ (lw_privs_3 ++ (lw_privs_4 ++ (lw_privs_5 ++ (lw_privs_6 ++ (lw_privs_7)))))), lw_okq q
  exact List.forall_mem_append.mpr ⟨lw_r1, List.forall_mem_append.mpr ⟨lw_r2, List.forall_mem_append.mpr ⟨lw_r3, List.forall_mem_append.mpr ⟨lw_r4, List.forall_mem_append.mpr ⟨lw_r5, List.forall_mem_append.mpr ⟨lw_r6, lw_r7⟩⟩⟩⟩⟩⟩
