/-! what both sides do to a network, call by call -/
theorem ROk.lim {g : Nat → Int} {z : Int} {a : Nat → Int} (h : ROk g z a) : a 0 ≤ 12 ∧ ∀ p : Nat, (p : Int) < a 0 → a (25 + p) ≤ 3 := by
  obtain ⟨-, k, t, j, e, v, hr, -, -⟩ := h
  obtain ⟨b0, b1, b2, b3⟩ := hr.bd
  exact ⟨by omega, fun p hp => (b3 p hp).2⟩
/-- the reader's answer on both sides: the same network, or both stay -/
theorem tie_game {g : Nat → Int} {z r1 r2 : Int} {A A' : Nat → Int} {f f' u w n i b w' n' i' b' : Nat → Int32} {c c' d d' : Int} (hAE : AEq A (absR f)) (h12 : A 0 ≤ 12) (hw : ∀ p : Nat, (p : Int) < A 0 → A (25 + p) ≤ 3) (hUS : USr c w n i b (rowsOf u f c)) (hcd : d = c)
    (F1 : (∃ P : Int, RFl g z P ∧ r1 = -1000 - P ∧ EqC A' A ∧ c' = c ∧ w' = w ∧ n' = n ∧ i' = i ∧ b' = b) ∨ (∃ a : Nat → Int, ROk g z a ∧ r1 = a 0 ∧ EqC A' a ∧ c' = 0))
    (F2 : (∃ P : Int, RFl g z P ∧ r2 = -1000 - P ∧ d' = d ∧ f' = f) ∨ (∃ a : Nat → Int, ROk g z a ∧ r2 = a 0 ∧ d' = 0 ∧ EqC (absR f') a)) : r1 = r2 ∧ AEq A' (absR f') ∧ USr c' w' n' i' b' (rowsOf u f' c') ∧ d' = c' := by
  rcases F1 with ⟨P, h1, h2, h3, h4, h5, h6, h7, h8⟩ | ⟨a, h1, h2, h3, h4⟩
  · rcases F2 with ⟨Q, k1, k2, k3, k4⟩ | ⟨a2, k1, k2, k3, k4⟩
    · subst h5; subst h6; subst h7; subst h8; subst k4
      refine ⟨by rw [h2, k2, h1.det k1], hAE.eqs h12 hw h3 (EqC.rfl' _), by rw [h4]; exact hUS, by omega⟩
    · exact (k1.no h1).elim
  · rcases F2 with ⟨Q, k1, k2, k3, k4⟩ | ⟨a2, k1, k2, k3, k4⟩
    · exact (h1.no k1).elim
    · have ae := h1.det k1
      exact ⟨by rw [h2, k2, ae.1], ae.eqs h1.lim.1 h1.lim.2 h3 k4, USr.nil (by omega), by omega⟩
/-- a change of one cell on both sides, or none -/
theorem tie_chg {r1 r2 : Int} {A A' : Nat → Int} {f f' u u' w n i b w' n' i' b' : Nat → Int32} {c c' d d' : Int} {W P I B X : Int32} {cell : Nat} (hAE : AEq A (absR f)) (h12 : A 0 ≤ 12) (hw : ∀ p : Nat, (p : Int) < A 0 → A (25 + p) ≤ 3) (hUS : USr c w n i b (rowsOf u f c)) (hcd : d = c) (c0 : 0 ≤ c) (c8 : c ≤ 8)
    (F1 : (r1 = 0 → (PUs c c' w w' W ∧ PUs c c' n n' P ∧ PUs c c' i i' I ∧ PUs c c' b b' B) ∧ SetC A A' cell X.toInt) ∧ (¬ r1 = 0 → c' = c ∧ w' = w ∧ n' = n ∧ i' = i ∧ b' = b ∧ EqC A' A))
    (F2 : (r2 = 0 → PUr d d' u u' f ∧ f' = upd f cell X) ∧ (¬ r2 = 0 → d' = d ∧ u' = u ∧ f' = f))
    (e : r1 = r2) (ok : r1 = 0 → cellOf W.toInt P.toInt I.toInt = cell ∧ B.toInt = (f cell).toInt ∧ cell < 121 ∧ cell ≠ 0 ∧ (cell < 25 ∨ 37 ≤ cell)) : AEq A' (absR f') ∧ USr c' w' n' i' b' (rowsOf u' f' c') ∧ d' = c' := by
  by_cases q : r1 = 0
  · obtain ⟨pp, sC⟩ := F1.1 q
    obtain ⟨pu, ef⟩ := F2.1 (by omega)
    obtain ⟨o1, o2, o3, o4, o5⟩ := ok q
    exact chg_do hAE h12 hw hUS hcd c0 c8 pp sC pu ef o1 o2 o3 o4 o5
  · obtain ⟨h1, h2, h3, h4, h5, h6⟩ := F1.2 q
    obtain ⟨k1, k2, k3⟩ := F2.2 (by omega)
    subst h2; subst h3; subst h4; subst h5; subst k2; subst k3
    refine ⟨hAE.eqs h12 hw h6 (EqC.rfl' _), by rw [h1]; exact hUS, by omega⟩
theorem cellOf_lim {w n i : Int} (n0 : 0 ≤ n) (n1 : n ≤ 11) (i0 : 0 ≤ i) (i1 : i ≤ 2) : cellOf w n i < 121 ∧ cellOf w n i ≠ 0 ∧ (cellOf w n i < 25 ∨ 37 ≤ cellOf w n i) := by
  unfold cellOf
  repeat' split
  all_goals omega
/-- one step back on both sides -/
theorem tie_undo {A A' : Nat → Int} {f f' u w n i b : Nat → Int32} {c c' d d' : Int} (hAE : AEq A (absR f)) (h12 : A 0 ≤ 12) (hw : ∀ p : Nat, (p : Int) < A 0 → A (25 + p) ≤ 3) (hUS : USr c w n i b (rowsOf u f c)) (hcd : d = c) (hn : ∀ j : Nat, 0 ≤ (n j).toInt ∧ (n j).toInt ≤ 11) (hi : ∀ j : Nat, 0 ≤ (i j).toInt ∧ (i j).toInt ≤ 2)
    (F1 : (0 < c → c' = c - 1 ∧ SetC A A' (cellOf (w (c.toNat - 1)).toInt (n (c.toNat - 1)).toInt (i (c.toNat - 1)).toInt) (b (c.toNat - 1)).toInt) ∧ (c ≤ 0 → c' = c ∧ EqC A' A))
    (F2 : (0 < d → d' = d - 1 ∧ ∀ j : Nat, j < 193 → f' j = u (193 * (d.toNat - 1) + j)) ∧ (d ≤ 0 → d' = d ∧ f' = f)) : AEq A' (absR f') ∧ USr c' w n i b (rowsOf u f' c') ∧ d' = c' := by
  subst hcd
  by_cases q : 0 < d
  · obtain ⟨h1, h2⟩ := F1.1 q
    obtain ⟨k1, k2⟩ := F2.1 q
    obtain ⟨us, sr⟩ := hUS.back q k2
    obtain ⟨-, l2, l3⟩ := cellOf_lim (w := (w (d.toNat - 1)).toInt) (hn (d.toNat - 1)).1 (hn (d.toNat - 1)).2 (hi (d.toNat - 1)).1 (hi (d.toNat - 1)).2
    exact ⟨hAE.set h12 hw h2 sr l2 l3, by rw [h1]; exact us, by omega⟩
  · obtain ⟨h1, h2⟩ := F1.2 (by omega)
    obtain ⟨k1, k2⟩ := F2.2 (by omega)
    subst k2
    exact ⟨hAE.eqs h12 hw h2 (EqC.rfl' _), by rw [h1]; exact hUS, by omega⟩
/-- an image that is kept is the same on both sides -/
def IMr (k : Nat → Int32) (A0 A1 : Nat → Int) (f : Nat → Int32) : Prop := (¬ (k 0).toInt = 0 → AEq A0 (absR (sl f 0))) ∧ (¬ (k 1).toInt = 0 → AEq A1 (absR (sl f 193)))
theorem tie_image {k k' kp kp' f : Nat → Int32} {A A0 A1 A0' A1' : Nat → Int} {p : Int32} (hAE : AEq A (absR f)) (h12 : A 0 ≤ 12) (hw : ∀ p : Nat, (p : Int) < A 0 → A (25 + p) ≤ 3) (l0 : A0 0 ≤ 12 ∧ ∀ p : Nat, (p : Int) < A0 0 → A0 (25 + p) ≤ 3) (l1 : A1 0 ≤ 12 ∧ ∀ p : Nat, (p : Int) < A1 0 → A1 (25 + p) ≤ 3) (hIM : IMr k A0 A1 kp) (hk : KQ k' k p)
    (F1 : (p.toInt = 0 → EqC A0' A) ∧ (¬ p.toInt = 0 → EqC A0' A0) ∧ (p.toInt = 1 → EqC A1' A) ∧ (¬ p.toInt = 1 → EqC A1' A1))
    (F2 : ((0 ≤ p.toInt ∧ p.toInt ≤ 1) → (∀ j : Nat, j < 193 → kp' (193 * p.toInt.toNat + j) = f j) ∧ ∀ j : Nat, j < 193 * p.toInt.toNat ∨ 193 * p.toInt.toNat + 193 ≤ j → kp' j = kp j) ∧ (¬ (0 ≤ p.toInt ∧ p.toInt ≤ 1) → kp' = kp)) : IMr k' A0' A1' kp' := by
  by_cases q : 0 ≤ p.toInt ∧ p.toInt ≤ 1
  · obtain ⟨g1, g2⟩ := F2.1 q
    rcases (show p.toInt = 0 ∨ p.toInt = 1 by omega) with z | z
    · have n0 : p.toInt.toNat = 0 := by omega
      rw [n0] at g1 g2
      refine ⟨fun _ => hAE.eqs h12 hw (F1.1 z) (absR_eq (fun j hj => by show kp' (0 + j) = f j; exact g1 j hj)), fun h => ?_⟩
      have e1 : k' 1 = k 1 := by rw [hk 1, if_neg (fun y => by have := y.2; omega)]
      rw [e1] at h
      exact (hIM.2 h).eqs l1.1 l1.2 (F1.2.2.2 (by omega)) (absR_eq (fun j hj => by show kp' (193 + j) = kp (193 + j); exact g2 _ (by omega)))
    · have n0 : p.toInt.toNat = 1 := by omega
      rw [n0] at g1 g2
      refine ⟨fun h => ?_, fun _ => hAE.eqs h12 hw (F1.2.2.1 z) (absR_eq (fun j hj => by show kp' (193 + j) = f j; exact g1 j hj))⟩
      have e1 : k' 0 = k 0 := by rw [hk 0, if_neg (fun y => by have := y.2; omega)]
      rw [e1] at h
      exact (hIM.1 h).eqs l0.1 l0.2 (F1.2.1 (by omega)) (absR_eq (fun j hj => by show kp' (0 + j) = kp (0 + j); exact g2 _ (by omega)))
  · have e := F2.2 q
    subst e
    have kk : ∀ j : Nat, k' j = k j := fun j => by rw [hk j, if_neg (fun y => q y.1)]
    refine ⟨fun h => ?_, fun h => ?_⟩
    · rw [kk 0] at h
      exact (hIM.1 h).eqs l0.1 l0.2 (F1.2.1 (by omega)) (EqC.rfl' _)
    · rw [kk 1] at h
      exact (hIM.2 h).eqs l1.1 l1.2 (F1.2.2.2 (by omega)) (EqC.rfl' _)
/-- an image comes back on both sides -/
theorem tie_restore {r1 r2 : Int} {k kp f f' u u' w n i b w' n' i' b' : Nat → Int32} {c c' d d' : Int} {A A' A0 A1 : Nat → Int} {p : Int32} (hAE : AEq A (absR f)) (h12 : A 0 ≤ 12) (hw : ∀ p : Nat, (p : Int) < A 0 → A (25 + p) ≤ 3) (l0 : A0 0 ≤ 12 ∧ ∀ p : Nat, (p : Int) < A0 0 → A0 (25 + p) ≤ 3) (l1 : A1 0 ≤ 12 ∧ ∀ p : Nat, (p : Int) < A1 0 → A1 (25 + p) ≤ 3) (hUS : USr c w n i b (rowsOf u f c)) (hcd : d = c) (hIM : IMr k A0 A1 kp)
    (P2 : ((0 ≤ p.toInt ∧ p.toInt ≤ 1 ∧ ¬ (k p.toInt.toNat).toInt = 0) → r2 = 1) ∧ (¬ (0 ≤ p.toInt ∧ p.toInt ≤ 1 ∧ ¬ (k p.toInt.toNat).toInt = 0) → r2 = 0)) (e : r1 = r2)
    (F1 : (¬ r1 = 0 → c' = 0 ∧ (p.toInt = 0 → EqC A' A0) ∧ (p.toInt = 1 → EqC A' A1)) ∧ (r1 = 0 → c' = c ∧ w' = w ∧ n' = n ∧ i' = i ∧ b' = b ∧ EqC A' A))
    (F2 : (¬ r2 = 0 → d' = 0 ∧ ∀ j : Nat, j < 193 → f' j = kp (193 * p.toInt.toNat + j)) ∧ (r2 = 0 → d' = d ∧ f' = f)) (hu : u' = u) : AEq A' (absR f') ∧ USr c' w' n' i' b' (rowsOf u' f' c') ∧ d' = c' := by
  subst hu
  by_cases q : r2 = 0
  · obtain ⟨h1, h2, h3, h4, h5, h6⟩ := F1.2 (by omega)
    obtain ⟨k1, k2⟩ := F2.2 q
    subst h2; subst h3; subst h4; subst h5; subst k2
    exact ⟨hAE.eqs h12 hw h6 (EqC.rfl' _), by rw [h1]; exact hUS, by omega⟩
  · obtain ⟨h1, h2, h3⟩ := F1.1 (by omega)
    obtain ⟨k1, k2⟩ := F2.1 q
    have cnd : 0 ≤ p.toInt ∧ p.toInt ≤ 1 ∧ ¬ (k p.toInt.toNat).toInt = 0 := Decidable.byContradiction (fun y => q (P2.2 y))
    refine ⟨?_, USr.nil (by omega), by omega⟩
    rcases (show p.toInt = 0 ∨ p.toInt = 1 by omega) with z | z
    · have n0 : p.toInt.toNat = 0 := by omega
      rw [n0] at k2
      have hk := cnd.2.2
      rw [n0] at hk
      exact (hIM.1 hk).eqs l0.1 l0.2 (h2 z) (absR_eq (fun j hj => by show f' j = kp (0 + j); exact k2 j hj))
    · have n0 : p.toInt.toNat = 1 := by omega
      rw [n0] at k2
      have hk := cnd.2.2
      rw [n0] at hk
      exact (hIM.2 hk).eqs l1.1 l1.2 (h3 z) (absR_eq (fun j hj => by show f' j = kp (193 + j); exact k2 j hj))
/-- weights of both -/
theorem BW.tr {a b : Nat → Int} (h : AEq a b) (q : BW a) : BW b := fun p hp i hi => by
  have s := h.2 p (by rw [h.1]; exact hp)
  have hi' : (i : Int) < a (25 + p) := by rw [s.2.2.1]; exact hi
  have t := (s.2.2.2.2.2 i hi').2
  rw [← t]; exact q p (by rw [h.1]; exact hp) i hi'
/-- the answers of the changes -/
theorem ans_same {C1 C2 : Prop} {x1 x2 v r1 r2 : Int} (hC : C1 ↔ C2) (hx : C1 → x1 = x2) (h1 : (¬ C1 → r1 = -1) ∧ (C1 → x1 = v → r1 = 1) ∧ (C1 → ¬ x1 = v → r1 = 0)) (h2 : (¬ C2 → r2 = -1) ∧ (C2 → x2 = v → r2 = 1) ∧ (C2 → ¬ x2 = v → r2 = 0)) : r1 = r2 := by
  by_cases q : C1
  · have e := hx q
    by_cases z : x1 = v
    · rw [h1.2.1 q z, h2.2.1 (hC.mp q) (by omega)]
    · rw [h1.2.2 q z, h2.2.2 (hC.mp q) (by omega)]
  · rw [h1.1 q, h2.1 (fun y => q (hC.mpr y))]
theorem ans_zero {C1 : Prop} {x1 v r1 : Int} (h1 : (¬ C1 → r1 = -1) ∧ (C1 → x1 = v → r1 = 1) ∧ (C1 → ¬ x1 = v → r1 = 0)) (h : r1 = 0) : C1 := Classical.byContradiction (fun q => by have := h1.1 q; omega)
theorem ans_same4 {C1 C2 : Prop} {x1 x2 s1 s2 v r1 r2 : Int} (hC : C1 ↔ C2) (hx : C1 → x1 = x2 ∧ s1 = s2) (h1 : (¬ C1 → r1 = -1) ∧ (C1 → x1 = v → r1 = 1) ∧ (C1 → ¬ x1 = v → (4 < s1 - x1 + v → r1 = 2) ∧ (s1 - x1 + v ≤ 4 → r1 = 0))) (h2 : (¬ C2 → r2 = -1) ∧ (C2 → x2 = v → r2 = 1) ∧ (C2 → ¬ x2 = v → (4 < s2 - x2 + v → r2 = 2) ∧ (s2 - x2 + v ≤ 4 → r2 = 0))) : r1 = r2 := by
  by_cases q : C1
  · obtain ⟨e, e2⟩ := hx q
    by_cases z : x1 = v
    · rw [h1.2.1 q z, h2.2.1 (hC.mp q) (by omega)]
    · have a1 := h1.2.2 q z
      have a2 := h2.2.2 (hC.mp q) (by omega)
      by_cases y : 4 < s1 - x1 + v
      · rw [a1.1 y, a2.1 (by omega)]
      · rw [a1.2 (by omega), a2.2 (by omega)]
  · rw [h1.1 q, h2.1 (fun y => q (hC.mpr y))]
theorem ans_zero4 {C1 : Prop} {x1 s1 v r1 : Int} (h1 : (¬ C1 → r1 = -1) ∧ (C1 → x1 = v → r1 = 1) ∧ (C1 → ¬ x1 = v → (4 < s1 - x1 + v → r1 = 2) ∧ (s1 - x1 + v ≤ 4 → r1 = 0))) (h : r1 = 0) : C1 := Classical.byContradiction (fun q => by have := h1.1 q; omega)
/-- both sides at one node -/
theorem ae_in {nd : Int32} {k y n w h t x f : Nat → Int32} (hA : AEq (absC nd k y n w h t x) (absR f)) (h12 : nd.toInt ≤ 12) (hw : ∀ p : Nat, 0 ≤ (w p).toInt ∧ (w p).toInt ≤ 3) (p : Int32) : nd.toInt = (f 0).toInt ∧ ((0 ≤ p.toInt ∧ p.toInt < nd.toInt) → p.toInt.toNat < 12 ∧ (k p.toInt.toNat).toInt = (f (1 + p.toInt.toNat)).toInt ∧ (y p.toInt.toNat).toInt = (f (13 + p.toInt.toNat)).toInt ∧ (w p.toInt.toNat).toInt = (f (25 + p.toInt.toNat)).toInt ∧ (h p.toInt.toNat).toInt = (f (109 + p.toInt.toNat)).toInt ∧ (∀ i : Nat, (i : Int) < (w p.toInt.toNat).toInt → (t (3 * p.toInt.toNat + i)).toInt = (f (37 + 3 * p.toInt.toNat + i)).toInt ∧ (x (3 * p.toInt.toNat + i)).toInt = (f (73 + 3 * p.toInt.toNat + i)).toInt) ∧ wsf (fun i => (x (3 * p.toInt.toNat + i)).toInt) (w p.toInt.toNat).toInt.toNat = gw f p.toInt.toNat (f (25 + p.toInt.toNat)).toInt.toNat) := by
  obtain ⟨a0, a1⟩ := ae_at hA h12
  refine ⟨a0, fun hp => ?_⟩
  obtain ⟨b1, b2, b3, b4, b5⟩ := a1 p.toInt.toNat (by omega)
  have w3 := hw p.toInt.toNat
  refine ⟨by omega, b1, b2, b3, b4, fun i hi => b5 i (by omega) hi, ?_⟩
  rw [gw_wsf, ← b3]
  exact wsf_congr (fun i hi => (b5 i (by omega) (by omega)).2)
theorem tie_hold {nd : Int32} {k y n w h t x f f' u u' sw sn si sb sw' sn' si' sb' : Nat → Int32} {A' : Nat → Int} {c c' d d' r1 r2 : Int} {p q : Int32} (hAE : AEq (absC nd k y n w h t x) (absR f)) (h12 : nd.toInt ≤ 12) (hw : ∀ p : Nat, 0 ≤ (w p).toInt ∧ (w p).toInt ≤ 3) (hUS : USr c sw sn si sb (rowsOf u f c)) (hcd : d = c) (hc : 0 ≤ c ∧ c ≤ 8)
    (P1 : ((¬ ((0 ≤ p.toInt ∧ p.toInt < nd.toInt) ∧ ((k p.toInt.toNat).toInt = 1 ∨ (k p.toInt.toNat).toInt = 2) ∧ 0 ≤ q.toInt ∧ q.toInt < (w p.toInt.toNat).toInt) → r1 = -1) ∧ (((0 ≤ p.toInt ∧ p.toInt < nd.toInt) ∧ ((k p.toInt.toNat).toInt = 1 ∨ (k p.toInt.toNat).toInt = 2) ∧ 0 ≤ q.toInt ∧ q.toInt < (w p.toInt.toNat).toInt) → (h p.toInt.toNat).toInt = q.toInt → r1 = 1) ∧ (((0 ≤ p.toInt ∧ p.toInt < nd.toInt) ∧ ((k p.toInt.toNat).toInt = 1 ∨ (k p.toInt.toNat).toInt = 2) ∧ 0 ≤ q.toInt ∧ q.toInt < (w p.toInt.toNat).toInt) → ¬ (h p.toInt.toNat).toInt = q.toInt → r1 = 0)))
    (F1 : ((r1 = 0 → (PUs c c' sw sw' (0 : Int32) ∧ PUs c c' sn sn' p ∧ PUs c c' si si' (0 : Int32) ∧ PUs c c' sb sb' (h p.toInt.toNat)) ∧ SetC (absC nd k y n w h t x) A' (109 + p.toInt.toNat) q.toInt) ∧ (¬ r1 = 0 → c' = c ∧ sw' = sw ∧ sn' = sn ∧ si' = si ∧ sb' = sb ∧ EqC A' (absC nd k y n w h t x))))
    (P2 : ((¬ ((0 ≤ p.toInt ∧ p.toInt < (f 0).toInt) ∧ ((f (1 + p.toInt.toNat)).toInt = 1 ∨ (f (1 + p.toInt.toNat)).toInt = 2) ∧ 0 ≤ q.toInt ∧ q.toInt < (f (25 + p.toInt.toNat)).toInt) → r2 = -1) ∧ (((0 ≤ p.toInt ∧ p.toInt < (f 0).toInt) ∧ ((f (1 + p.toInt.toNat)).toInt = 1 ∨ (f (1 + p.toInt.toNat)).toInt = 2) ∧ 0 ≤ q.toInt ∧ q.toInt < (f (25 + p.toInt.toNat)).toInt) → (f (109 + p.toInt.toNat)).toInt = q.toInt → r2 = 1) ∧ (((0 ≤ p.toInt ∧ p.toInt < (f 0).toInt) ∧ ((f (1 + p.toInt.toNat)).toInt = 1 ∨ (f (1 + p.toInt.toNat)).toInt = 2) ∧ 0 ≤ q.toInt ∧ q.toInt < (f (25 + p.toInt.toNat)).toInt) → ¬ (f (109 + p.toInt.toNat)).toInt = q.toInt → r2 = 0)))
    (F2 : ((r2 = 0 → PUr d d' u u' f ∧ f' = upd f (109 + p.toInt.toNat) q) ∧ (¬ r2 = 0 → d' = d ∧ u' = u ∧ f' = f))) : r1 = r2 ∧ AEq A' (absR f') ∧ USr c' sw' sn' si' sb' (rowsOf u' f' c') ∧ d' = c' := by
  obtain ⟨a0, a1⟩ := ae_in hAE h12 hw p
  have e : r1 = r2 := ans_same ⟨fun z => by have b := a1 z.1; obtain ⟨b0, b1, b2, b3, b4, -, -⟩ := b; omega, fun z => by have b := a1 ⟨z.1.1, by omega⟩; obtain ⟨b0, b1, b2, b3, b4, -, -⟩ := b; omega⟩ (fun z => by have b := a1 z.1; exact b.2.2.2.2.1) P1 P2
  refine ⟨e, tie_chg hAE (absC_lim h12 hw).1 (absC_lim h12 hw).2 hUS hcd hc.1 hc.2 F1 F2 e (fun q9 => ?_)⟩
  have z := ans_zero P1 q9
  have b := a1 z.1
  exact ⟨cell_h (by decide), b.2.2.2.2.1, by omega, by omega, by omega⟩
theorem tie_pay {nd : Int32} {k y n w h t x f f' u u' sw sn si sb sw' sn' si' sb' : Nat → Int32} {A' : Nat → Int} {c c' d d' r1 r2 : Int} {p q : Int32} (hAE : AEq (absC nd k y n w h t x) (absR f)) (h12 : nd.toInt ≤ 12) (hw : ∀ p : Nat, 0 ≤ (w p).toInt ∧ (w p).toInt ≤ 3) (hUS : USr c sw sn si sb (rowsOf u f c)) (hcd : d = c) (hc : 0 ≤ c ∧ c ≤ 8)
    (P1 : ((¬ ((0 ≤ p.toInt ∧ p.toInt < nd.toInt) ∧ (k p.toInt.toNat).toInt = 0 ∧ 0 ≤ q.toInt ∧ q.toInt ≤ 9) → r1 = -1) ∧ (((0 ≤ p.toInt ∧ p.toInt < nd.toInt) ∧ (k p.toInt.toNat).toInt = 0 ∧ 0 ≤ q.toInt ∧ q.toInt ≤ 9) → (y p.toInt.toNat).toInt = q.toInt → r1 = 1) ∧ (((0 ≤ p.toInt ∧ p.toInt < nd.toInt) ∧ (k p.toInt.toNat).toInt = 0 ∧ 0 ≤ q.toInt ∧ q.toInt ≤ 9) → ¬ (y p.toInt.toNat).toInt = q.toInt → r1 = 0)))
    (F1 : ((r1 = 0 → (PUs c c' sw sw' (2 : Int32) ∧ PUs c c' sn sn' p ∧ PUs c c' si si' (0 : Int32) ∧ PUs c c' sb sb' (y p.toInt.toNat)) ∧ SetC (absC nd k y n w h t x) A' (13 + p.toInt.toNat) q.toInt) ∧ (¬ r1 = 0 → c' = c ∧ sw' = sw ∧ sn' = sn ∧ si' = si ∧ sb' = sb ∧ EqC A' (absC nd k y n w h t x))))
    (P2 : ((¬ ((0 ≤ p.toInt ∧ p.toInt < (f 0).toInt) ∧ (f (1 + p.toInt.toNat)).toInt = 0 ∧ 0 ≤ q.toInt ∧ q.toInt ≤ 9) → r2 = -1) ∧ (((0 ≤ p.toInt ∧ p.toInt < (f 0).toInt) ∧ (f (1 + p.toInt.toNat)).toInt = 0 ∧ 0 ≤ q.toInt ∧ q.toInt ≤ 9) → (f (13 + p.toInt.toNat)).toInt = q.toInt → r2 = 1) ∧ (((0 ≤ p.toInt ∧ p.toInt < (f 0).toInt) ∧ (f (1 + p.toInt.toNat)).toInt = 0 ∧ 0 ≤ q.toInt ∧ q.toInt ≤ 9) → ¬ (f (13 + p.toInt.toNat)).toInt = q.toInt → r2 = 0)))
    (F2 : ((r2 = 0 → PUr d d' u u' f ∧ f' = upd f (13 + p.toInt.toNat) q) ∧ (¬ r2 = 0 → d' = d ∧ u' = u ∧ f' = f))) : r1 = r2 ∧ AEq A' (absR f') ∧ USr c' sw' sn' si' sb' (rowsOf u' f' c') ∧ d' = c' := by
  obtain ⟨a0, a1⟩ := ae_in hAE h12 hw p
  have e : r1 = r2 := ans_same ⟨fun z => by have b := a1 z.1; obtain ⟨b0, b1, b2, b3, b4, -, -⟩ := b; omega, fun z => by have b := a1 ⟨z.1.1, by omega⟩; obtain ⟨b0, b1, b2, b3, b4, -, -⟩ := b; omega⟩ (fun z => by have b := a1 z.1; exact b.2.2.1) P1 P2
  refine ⟨e, tie_chg hAE (absC_lim h12 hw).1 (absC_lim h12 hw).2 hUS hcd hc.1 hc.2 F1 F2 e (fun q9 => ?_)⟩
  have z := ans_zero P1 q9
  have b := a1 z.1
  exact ⟨cell_p (by decide) (by decide), b.2.2.1, by omega, by omega, by omega⟩
theorem tie_weigh {nd : Int32} {k y n w h t x f f' u u' sw sn si sb sw' sn' si' sb' : Nat → Int32} {A' : Nat → Int} {c c' d d' r1 r2 : Int} {p q v : Int32} (hAE : AEq (absC nd k y n w h t x) (absR f)) (h12 : nd.toInt ≤ 12) (hw : ∀ p : Nat, 0 ≤ (w p).toInt ∧ (w p).toInt ≤ 3) (hUS : USr c sw sn si sb (rowsOf u f c)) (hcd : d = c) (hc : 0 ≤ c ∧ c ≤ 8)
    (P1 : ((¬ ((0 ≤ p.toInt ∧ p.toInt < nd.toInt) ∧ 0 ≤ q.toInt ∧ q.toInt < (w p.toInt.toNat).toInt ∧ (k p.toInt.toNat).toInt = 3 ∧ 1 ≤ v.toInt ∧ v.toInt ≤ 3) → r1 = -1) ∧ (((0 ≤ p.toInt ∧ p.toInt < nd.toInt) ∧ 0 ≤ q.toInt ∧ q.toInt < (w p.toInt.toNat).toInt ∧ (k p.toInt.toNat).toInt = 3 ∧ 1 ≤ v.toInt ∧ v.toInt ≤ 3) → (x (3 * p.toInt.toNat + q.toInt.toNat)).toInt = v.toInt → r1 = 1) ∧ (((0 ≤ p.toInt ∧ p.toInt < nd.toInt) ∧ 0 ≤ q.toInt ∧ q.toInt < (w p.toInt.toNat).toInt ∧ (k p.toInt.toNat).toInt = 3 ∧ 1 ≤ v.toInt ∧ v.toInt ≤ 3) → ¬ (x (3 * p.toInt.toNat + q.toInt.toNat)).toInt = v.toInt → (4 < wsf (fun i => (x (3 * p.toInt.toNat + i)).toInt) (w p.toInt.toNat).toInt.toNat - (x (3 * p.toInt.toNat + q.toInt.toNat)).toInt + v.toInt → r1 = 2) ∧ (wsf (fun i => (x (3 * p.toInt.toNat + i)).toInt) (w p.toInt.toNat).toInt.toNat - (x (3 * p.toInt.toNat + q.toInt.toNat)).toInt + v.toInt ≤ 4 → r1 = 0))))
    (F1 : ((r1 = 0 → (PUs c c' sw sw' (1 : Int32) ∧ PUs c c' sn sn' p ∧ PUs c c' si si' q ∧ PUs c c' sb sb' (x (3 * p.toInt.toNat + q.toInt.toNat))) ∧ SetC (absC nd k y n w h t x) A' (73 + 3 * p.toInt.toNat + q.toInt.toNat) v.toInt) ∧ (¬ r1 = 0 → c' = c ∧ sw' = sw ∧ sn' = sn ∧ si' = si ∧ sb' = sb ∧ EqC A' (absC nd k y n w h t x))))
    (P2 : ((¬ ((0 ≤ p.toInt ∧ p.toInt < (f 0).toInt) ∧ 0 ≤ q.toInt ∧ q.toInt < (f (25 + p.toInt.toNat)).toInt ∧ (f (1 + p.toInt.toNat)).toInt = 3 ∧ 1 ≤ v.toInt ∧ v.toInt ≤ 3) → r2 = -1) ∧ (((0 ≤ p.toInt ∧ p.toInt < (f 0).toInt) ∧ 0 ≤ q.toInt ∧ q.toInt < (f (25 + p.toInt.toNat)).toInt ∧ (f (1 + p.toInt.toNat)).toInt = 3 ∧ 1 ≤ v.toInt ∧ v.toInt ≤ 3) → (f (73 + 3 * p.toInt.toNat + q.toInt.toNat)).toInt = v.toInt → r2 = 1) ∧ (((0 ≤ p.toInt ∧ p.toInt < (f 0).toInt) ∧ 0 ≤ q.toInt ∧ q.toInt < (f (25 + p.toInt.toNat)).toInt ∧ (f (1 + p.toInt.toNat)).toInt = 3 ∧ 1 ≤ v.toInt ∧ v.toInt ≤ 3) → ¬ (f (73 + 3 * p.toInt.toNat + q.toInt.toNat)).toInt = v.toInt → (4 < gw f p.toInt.toNat (f (25 + p.toInt.toNat)).toInt.toNat - (f (73 + 3 * p.toInt.toNat + q.toInt.toNat)).toInt + v.toInt → r2 = 2) ∧ (gw f p.toInt.toNat (f (25 + p.toInt.toNat)).toInt.toNat - (f (73 + 3 * p.toInt.toNat + q.toInt.toNat)).toInt + v.toInt ≤ 4 → r2 = 0))))
    (F2 : ((r2 = 0 → PUr d d' u u' f ∧ f' = upd f (73 + 3 * p.toInt.toNat + q.toInt.toNat) v) ∧ (¬ r2 = 0 → d' = d ∧ u' = u ∧ f' = f))) : r1 = r2 ∧ AEq A' (absR f') ∧ USr c' sw' sn' si' sb' (rowsOf u' f' c') ∧ d' = c' := by
  obtain ⟨a0, a1⟩ := ae_in hAE h12 hw p
  have e : r1 = r2 := ans_same4 ⟨fun z => by have b := a1 z.1; obtain ⟨b0, b1, b2, b3, b4, -, -⟩ := b; omega, fun z => by have b := a1 ⟨z.1.1, by omega⟩; obtain ⟨b0, b1, b2, b3, b4, -, -⟩ := b; omega⟩ (fun z => by have b := a1 z.1; exact ⟨(b.2.2.2.2.2.1 q.toInt.toNat (by omega)).2, b.2.2.2.2.2.2⟩) P1 P2
  refine ⟨e, tie_chg hAE (absC_lim h12 hw).1 (absC_lim h12 hw).2 hUS hcd hc.1 hc.2 F1 F2 e (fun q9 => ?_)⟩
  have z := ans_zero4 P1 q9
  have b := a1 z.1
  exact ⟨cell_x (by decide), (b.2.2.2.2.2.1 q.toInt.toNat (by omega)).2, (by have b3 := hw p.toInt.toNat; omega), (by omega), (by omega)⟩
theorem tie_free {nd : Int32} {k y n w h t x f f' u u' sw sn si sb sw' sn' si' sb' : Nat → Int32} {A' : Nat → Int} {c c' d d' r1 r2 : Int} {p : Int32} (hAE : AEq (absC nd k y n w h t x) (absR f)) (h12 : nd.toInt ≤ 12) (hw : ∀ p : Nat, 0 ≤ (w p).toInt ∧ (w p).toInt ≤ 3) (hUS : USr c sw sn si sb (rowsOf u f c)) (hcd : d = c) (hc : 0 ≤ c ∧ c ≤ 8)
    (P1 : ((¬ (0 ≤ p.toInt ∧ p.toInt < nd.toInt) → r1 = -1) ∧ ((0 ≤ p.toInt ∧ p.toInt < nd.toInt) → (h p.toInt.toNat).toInt = -1 → r1 = 1) ∧ ((0 ≤ p.toInt ∧ p.toInt < nd.toInt) → ¬ (h p.toInt.toNat).toInt = -1 → r1 = 0)))
    (F1 : ((r1 = 0 → (PUs c c' sw sw' (0 : Int32) ∧ PUs c c' sn sn' p ∧ PUs c c' si si' (0 : Int32) ∧ PUs c c' sb sb' (h p.toInt.toNat)) ∧ SetC (absC nd k y n w h t x) A' (109 + p.toInt.toNat) (-1 : Int32).toInt) ∧ (¬ r1 = 0 → c' = c ∧ sw' = sw ∧ sn' = sn ∧ si' = si ∧ sb' = sb ∧ EqC A' (absC nd k y n w h t x))))
    (P2 : ((¬ (0 ≤ p.toInt ∧ p.toInt < (f 0).toInt) → r2 = -1) ∧ ((0 ≤ p.toInt ∧ p.toInt < (f 0).toInt) → (f (109 + p.toInt.toNat)).toInt = -1 → r2 = 1) ∧ ((0 ≤ p.toInt ∧ p.toInt < (f 0).toInt) → ¬ (f (109 + p.toInt.toNat)).toInt = -1 → r2 = 0)))
    (F2 : ((r2 = 0 → PUr d d' u u' f ∧ f' = upd f (109 + p.toInt.toNat) (-1)) ∧ (¬ r2 = 0 → d' = d ∧ u' = u ∧ f' = f))) : r1 = r2 ∧ AEq A' (absR f') ∧ USr c' sw' sn' si' sb' (rowsOf u' f' c') ∧ d' = c' := by
  obtain ⟨a0, a1⟩ := ae_in hAE h12 hw p
  have e : r1 = r2 := ans_same ⟨fun z => by omega, fun z => by omega⟩ (fun z => by have b := a1 z; exact b.2.2.2.2.1) P1 P2
  refine ⟨e, tie_chg hAE (absC_lim h12 hw).1 (absC_lim h12 hw).2 hUS hcd hc.1 hc.2 F1 F2 e (fun q9 => ?_)⟩
  have z := ans_zero P1 q9
  have b := a1 z
  exact ⟨cell_h (by decide), b.2.2.2.2.1, by omega, by omega, by omega⟩
theorem ae_zero : AEq (absC 0 (fun _ => 0) (fun _ => 0) (fun _ => 0) (fun _ => 0) (fun _ => 0) (fun _ => 0) (fun _ => 0)) (absR (fun _ => 0)) := by
  refine ⟨?_, fun p hp => ?_⟩
  · rw [absC_0, absR_lo (by decide)]
  · rw [absC_0] at hp
    have z : (0 : Int32).toInt = 0 := by decide
    omega
theorem im_zero {A0 A1 : Nat → Int} {f : Nat → Int32} : IMr (fun _ => 0) A0 A1 f := ⟨fun h => absurd (show ((0 : Int32)).toInt = 0 by decide) h, fun h => absurd (show ((0 : Int32)).toInt = 0 by decide) h⟩
theorem gr_bw {f : Nat → Int32} (h : GR f) : BW (absR f) := fun p hp i hi => by
  rw [absR_lo (by decide)] at hp
  have p12 : p < 12 := by have := h.1.2; omega
  have w3 := (h.2.1 p p12).2.2.1.2
  rw [absR_lo (by omega)] at hi
  rw [absR_lo (by omega), show 73 + 3 * p + i = 73 + (3 * p + i) by omega]
  exact (h.2.2 (3 * p + i) (by omega)).2
theorem tie_count {nd : Int32} {k y n w h t x f : Nat → Int32} {l1 l2 what : Int} {r1 r2 : Int32} (hAE : AEq (absC nd k y n w h t x) (absR f)) (h12 : nd.toInt ≤ 12) (hl : l1 = l2) (P1 : CNT nd.toInt (fun p => (k p).toInt) (fun p => (w p).toInt) (fun p => (h p).toInt) l1 what r1) (P2 : CNT (f 0).toInt (fun p => (f (1 + p)).toInt) (fun p => (f (25 + p)).toInt) (fun p => (f (109 + p)).toInt) l2 what r2) : r1.toInt = r2.toInt := by
  obtain ⟨a0, a1⟩ := ae_at hAE h12
  exact P1.det P2 a0 hl (fun p hp => by
    obtain ⟨b1, b2, b3, b4, -⟩ := a1 p (by omega)
    exact ⟨b1, b3, b4⟩)
theorem tie_node {nd p q r1 r2 th : Int32} {k y n w h t x f : Nat → Int32} {z : Int64} (hAE : AEq (absC nd k y n w h t x) (absR f)) (h12 : nd.toInt ≤ 12) (hw : ∀ p : Nat, 0 ≤ (w p).toInt ∧ (w p).toInt ≤ 3) (hr : 0 ≤ r1.toInt ∧ r1.toInt ≤ 1) (P1 : (r1.toInt = 0 → ∃ v : Int32, (((0 ≤ p.toInt ∧ p.toInt < nd.toInt) ∧ 0 ≤ q.toInt ∧ q.toInt ≤ 3) ∧ (q.toInt = 0 → v.toInt = (k p.toInt.toNat).toInt) ∧ (q.toInt = 1 → ((k p.toInt.toNat).toInt = 0 → v.toInt = (y p.toInt.toNat).toInt) ∧ (¬ (k p.toInt.toNat).toInt = 0 → v.toInt = -1)) ∧ (q.toInt = 2 → v.toInt = (w p.toInt.toNat).toInt) ∧ (q.toInt = 3 → v.toInt = (h p.toInt.toNat).toInt)) ∧ z = v.toInt64) ∧ (¬ r1.toInt = 0 → ¬ ((0 ≤ p.toInt ∧ p.toInt < nd.toInt) ∧ 0 ≤ q.toInt ∧ q.toInt ≤ 3))) (P2 : (((0 ≤ p.toInt ∧ p.toInt < (f 0).toInt) ∧ 0 ≤ q.toInt ∧ q.toInt ≤ 3) → th.toInt = 0 ∧ (q.toInt = 0 → r2.toInt = (f (1 + p.toInt.toNat)).toInt) ∧ (q.toInt = 1 → ((f (1 + p.toInt.toNat)).toInt = 0 → r2.toInt = (f (13 + p.toInt.toNat)).toInt) ∧ (¬ (f (1 + p.toInt.toNat)).toInt = 0 → r2.toInt = -1)) ∧ (q.toInt = 2 → r2.toInt = (f (25 + p.toInt.toNat)).toInt) ∧ (q.toInt = 3 → r2.toInt = (f (109 + p.toInt.toNat)).toInt)) ∧ (¬ ((0 ≤ p.toInt ∧ p.toInt < (f 0).toInt) ∧ 0 ≤ q.toInt ∧ q.toInt ≤ 3) → th.toInt = 1)) : th.toInt = r1.toInt ∧ (r1.toInt = 0 → z = r2.toInt64) := by
  obtain ⟨a0, a1⟩ := ae_in hAE h12 hw p
  by_cases z0 : r1.toInt = 0
  · obtain ⟨v, h1, h2⟩ := P1.1 z0
    have b := a1 h1.1.1
    obtain ⟨b0, b1, b2, b3, b4, -, -⟩ := b
    have h3 := P2.1 (by have := h1.1; omega)
    refine ⟨by omega, fun _ => ?_⟩
    have e : v = r2 := Int32.toInt_inj.mp (by omega)
    rw [h2, e]
  · have h1 := P1.2 z0
    have h2 := P2.2 (fun g => h1 (by omega))
    exact ⟨by omega, fun q9 => absurd q9 z0⟩
theorem tie_way {nd p q o r1 r2 th : Int32} {k y n w h t x f : Nat → Int32} {z : Int64} (hAE : AEq (absC nd k y n w h t x) (absR f)) (h12 : nd.toInt ≤ 12) (hw : ∀ p : Nat, 0 ≤ (w p).toInt ∧ (w p).toInt ≤ 3) (hr : 0 ≤ r1.toInt ∧ r1.toInt ≤ 1) (P1 : (r1.toInt = 0 → ∃ v : Int32, ((((0 ≤ p.toInt ∧ p.toInt < nd.toInt) ∧ 0 ≤ q.toInt ∧ q.toInt < (w p.toInt.toNat).toInt) ∧ 0 ≤ o.toInt ∧ o.toInt ≤ 1) ∧ (o.toInt = 0 → v.toInt = (t (3 * p.toInt.toNat + q.toInt.toNat)).toInt) ∧ (o.toInt = 1 → v.toInt = (x (3 * p.toInt.toNat + q.toInt.toNat)).toInt)) ∧ z = v.toInt64) ∧ (¬ r1.toInt = 0 → ¬ (((0 ≤ p.toInt ∧ p.toInt < nd.toInt) ∧ 0 ≤ q.toInt ∧ q.toInt < (w p.toInt.toNat).toInt) ∧ 0 ≤ o.toInt ∧ o.toInt ≤ 1))) (P2 : ((((0 ≤ p.toInt ∧ p.toInt < (f 0).toInt) ∧ 0 ≤ q.toInt ∧ q.toInt < (f (25 + p.toInt.toNat)).toInt) ∧ 0 ≤ o.toInt ∧ o.toInt ≤ 1) → th.toInt = 0 ∧ (o.toInt = 0 → r2.toInt = (f (37 + 3 * p.toInt.toNat + q.toInt.toNat)).toInt) ∧ (o.toInt = 1 → r2.toInt = (f (73 + 3 * p.toInt.toNat + q.toInt.toNat)).toInt)) ∧ (¬ (((0 ≤ p.toInt ∧ p.toInt < (f 0).toInt) ∧ 0 ≤ q.toInt ∧ q.toInt < (f (25 + p.toInt.toNat)).toInt) ∧ 0 ≤ o.toInt ∧ o.toInt ≤ 1) → th.toInt = 1)) : th.toInt = r1.toInt ∧ (r1.toInt = 0 → z = r2.toInt64) := by
  obtain ⟨a0, a1⟩ := ae_in hAE h12 hw p
  by_cases z0 : r1.toInt = 0
  · obtain ⟨v, h1, h2⟩ := P1.1 z0
    have b := a1 h1.1.1.1
    obtain ⟨b0, b1, b2, b3, b4, b5, -⟩ := b
    have c := b5 q.toInt.toNat (by have := h1.1.1; omega)
    have h3 := P2.1 (by have := h1.1; omega)
    refine ⟨by omega, fun _ => ?_⟩
    have e : v = r2 := Int32.toInt_inj.mp (by omega)
    rw [h2, e]
  · have h1 := P1.2 z0
    have h2 := P2.2 (fun g => h1 (by have b := a1 ⟨g.1.1.1, by omega⟩; obtain ⟨b0, b1, b2, b3, b4, -, -⟩ := b; omega))
    exact ⟨by omega, fun q9 => absurd q9 z0⟩
theorem cmp_self (x : Int64) : lg_cmp x x = 0 := by
  unfold lg_cmp
  rw [if_neg (by intro h; exact absurd (Int64.lt_iff_toInt_lt.mp h) (Int.lt_irrefl _)), if_pos rfl]
theorem tie_forced {nd who x r1 r2 : Int32} {k y n w h t e f : Nat → Int32} (hAE : AEq (absC nd k y n w h t e) (absR f)) (h12 : nd.toInt ≤ 12) (hw : ∀ p : Nat, 0 ≤ (w p).toInt ∧ (w p).toInt ≤ 3)
    (P1 : (((who.toInt = 1 ∨ who.toInt = 2) ∧ 0 ≤ x.toInt ∧ x.toInt < (bit1 nd.toInt.toNat).toInt) → ∃ j : Nat, r1 = itF who.toInt (fun p => (k p).toInt) (fun p => ahF (h p).toInt (fun i => t (3 * p + i)) (w p).toInt.toNat) nd.toInt.toNat x j ∧ (j = 12 ∨ (1 ≤ j ∧ itF who.toInt (fun p => (k p).toInt) (fun p => ahF (h p).toInt (fun i => t (3 * p + i)) (w p).toInt.toNat) nd.toInt.toNat x j = itF who.toInt (fun p => (k p).toInt) (fun p => ahF (h p).toInt (fun i => t (3 * p + i)) (w p).toInt.toNat) nd.toInt.toNat x (j - 1)))) ∧ (¬ ((who.toInt = 1 ∨ who.toInt = 2) ∧ 0 ≤ x.toInt ∧ x.toInt < (bit1 nd.toInt.toNat).toInt) → r1.toInt = -1))
    (P2 : (((who.toInt = 1 ∨ who.toInt = 2) ∧ 0 ≤ x.toInt ∧ x.toInt < (bit1 (f 0).toInt.toNat).toInt) → ∃ i : Nat, r2 = itF who.toInt (fun p => (f (1 + p)).toInt) (fun p => ahF (f (109 + p)).toInt (fun i => f (37 + 3 * p + i)) (f (25 + p)).toInt.toNat) (f 0).toInt.toNat x i ∧ 1 ≤ i ∧ itF who.toInt (fun p => (f (1 + p)).toInt) (fun p => ahF (f (109 + p)).toInt (fun i => f (37 + 3 * p + i)) (f (25 + p)).toInt.toNat) (f 0).toInt.toNat x i = itF who.toInt (fun p => (f (1 + p)).toInt) (fun p => ahF (f (109 + p)).toInt (fun i => f (37 + 3 * p + i)) (f (25 + p)).toInt.toNat) (f 0).toInt.toNat x (i - 1)) ∧ (¬ ((who.toInt = 1 ∨ who.toInt = 2) ∧ 0 ≤ x.toInt ∧ x.toInt < (bit1 (f 0).toInt.toNat).toInt) → r2.toInt = -1)) : r1.toInt = r2.toInt := by
  obtain ⟨a0, a1⟩ := ae_at hAE h12
  rw [← a0] at P2
  by_cases c : ((who.toInt = 1 ∨ who.toInt = 2) ∧ 0 ≤ x.toInt ∧ x.toInt < (bit1 nd.toInt.toNat).toInt)
  · refine congrArg Int32.toInt (fo_same (by omega) (fun p hp => ?_) (P1.1 c) (P2.1 c))
    obtain ⟨b1, b2, b3, b4, b5⟩ := a1 p (by omega)
    refine ⟨b1, ?_⟩
    have w3 := hw p
    show ahF (h p).toInt (fun i => t (3 * p + i)) (w p).toInt.toNat = ahF (f (109 + p)).toInt (fun i => f (37 + 3 * p + i)) (f (25 + p)).toInt.toNat
    rw [← b4, ← b3]
    exact ahF_congr (fun i hi => Int32.toInt_inj.mp (b5 i (by omega) (by omega)).1)
  · rw [P1.2 c, P2.2 c]
theorem tr_ofn {x : Int32} (h : 0 ≤ x.toInt) : x.toBitVec.toNat = x.toInt.toNat ∧ x.toBitVec.toNat < 2147483648 := by
  have e : x.toInt = x.toBitVec.toInt := rfl
  have q := BitVec.toInt_eq_toNat_cond x.toBitVec
  rw [← e] at q
  have := x.toBitVec.isLt
  split at q <;> omega
theorem tr_ofb {x : Int32} (h : x.toBitVec.toNat < 2147483648) : x.toInt = (x.toBitVec.toNat : Int) := by
  have e : x.toInt = x.toBitVec.toInt := rfl
  rw [e, BitVec.toInt_eq_toNat_cond]
  split <;> omega
theorem tr_orN {x y : Int32} (hx : 0 ≤ x.toInt ∧ x.toInt ≤ 4095) (hy : 0 ≤ y.toInt ∧ y.toInt ≤ 4095) : (x ||| y).toInt = ((x.toInt.toNat ||| y.toInt.toNat : Nat) : Int) ∧ (x.toInt.toNat ||| y.toInt.toNat) < 4096 := by
  have h1 := tr_ofn hx.1
  have h2 := tr_ofn hy.1
  have e : (x ||| y).toBitVec.toNat = x.toBitVec.toNat ||| y.toBitVec.toNat := BitVec.toNat_or ..
  have l : x.toInt.toNat ||| y.toInt.toNat < 2 ^ 12 := Nat.or_lt_two_pow (by omega) (by omega)
  have e2 : (x ||| y).toBitVec.toNat = x.toInt.toNat ||| y.toInt.toNat := by rw [e, h1.1, h2.1]
  refine ⟨?_, by omega⟩
  rw [tr_ofb (by rw [e2]; omega), e2]
theorem tr_or12 {x y : Int32} (hx : 0 ≤ x.toInt ∧ x.toInt ≤ 4095) (hy : 0 ≤ y.toInt ∧ y.toInt ≤ 4095) : (0 ≤ (x ||| y).toInt ∧ (x ||| y).toInt ≤ 4095) ∧ x.toInt ≤ (x ||| y).toInt := by
  have h := tr_orN (x := x) (y := y) hx hy
  have l : x.toInt.toNat ≤ x.toInt.toNat ||| y.toInt.toNat := Nat.left_le_or
  have := h.2
  rw [h.1]
  omega
theorem tr_shl (k : Nat) (hk : k < 12) : ((1 : Int32) <<< (Int32.ofNat k &&& 31)).toInt = ((2 ^ k : Nat) : Int) := by
  rcases (show k = 0 ∨ k = 1 ∨ k = 2 ∨ k = 3 ∨ k = 4 ∨ k = 5 ∨ k = 6 ∨ k = 7 ∨ k = 8 ∨ k = 9 ∨ k = 10 ∨ k = 11 by omega) with rfl | rfl | rfl | rfl | rfl | rfl | rfl | rfl | rfl | rfl | rfl | rfl <;> decide +kernel
theorem tr_ofNat {x : Int32} (h : 0 ≤ x.toInt ∧ x.toInt ≤ 4095) : x = Int32.ofNat x.toInt.toNat := by
  apply Int32.toInt_inj.mp
  rw [Int32.toInt_ofNat_of_lt (by omega)]
  omega
theorem tr_shl1 {k : Int32} (h : 0 ≤ k.toInt ∧ k.toInt ≤ 11) : ((1 : Int32) <<< (k &&& 31)).toInt = ((2 ^ k.toInt.toNat : Nat) : Int) := by
  have e := tr_ofNat (x := k) (by omega)
  have h2 := tr_shl k.toInt.toNat (by omega)
  rwa [← e] at h2
theorem tr_pow12 {k : Nat} (h : k < 12) : 1 ≤ 2 ^ k ∧ 2 ^ k ≤ 2048 := by
  rcases (show k = 0 ∨ k = 1 ∨ k = 2 ∨ k = 3 ∨ k = 4 ∨ k = 5 ∨ k = 6 ∨ k = 7 ∨ k = 8 ∨ k = 9 ∨ k = 10 ∨ k = 11 by omega) with rfl | rfl | rfl | rfl | rfl | rfl | rfl | rfl | rfl | rfl | rfl | rfl <;> decide
theorem tr_shl12 {k : Int32} (h : 0 ≤ k.toInt ∧ k.toInt ≤ 11) : 0 ≤ ((1 : Int32) <<< (k &&& 31)).toInt ∧ ((1 : Int32) <<< (k &&& 31)).toInt ≤ 4095 := by
  rw [tr_shl1 h]
  have := tr_pow12 (k := k.toInt.toNat) (by omega)
  omega
/-- a set of places as a number: whether a place is in it -/
def bt (x : Int32) (k : Nat) : Prop := x.toInt.toNat.testBit k = true
/-- the places that a node's ways lead to by the choice -/
def ON (f c : Nat → Int32) (k j : Nat) : Prop := ∃ i : Nat, (i : Int) < (f (25 + k)).toInt ∧ ((f (1 + k)).toInt = 3 ∨ (c k).toInt = (i : Int)) ∧ (f (37 + 3 * k + i)).toInt = (j : Int)
/-- closed: what leads into it is in it -/
def CL (f c : Nat → Int32) (S : Nat → Prop) : Prop := ∀ k j : Nat, (k : Int) < (f 0).toInt → ¬ (f (1 + k)).toInt = 0 → ON f c k j → S j → S k
/-- what belongs to every closed set that holds the first one -/
def LF (f c : Nat → Int32) (x y : Int32) : Prop := (∀ j : Nat, bt x j → bt y j) ∧ ∀ S : Nat → Prop, (∀ j : Nat, bt x j → S j) → CL f c S → ∀ j : Nat, bt y j → S j
theorem qw_121 : Cond.methodLink RX12 197 yX12_to ∈ wsL_law := tseg_6 (by decide +kernel) (List.mem_of_getElem? (i := 106) (by decide +kernel))
theorem qw_122 : Cond.instanceMethod yX12_to ∈ wsL_law := tseg_6 (by decide +kernel) (List.mem_of_getElem? (i := 108) (by decide +kernel))
theorem qw_123 : Cond.selects RX12 yX12_to yX12_to ∈ wsL_law := List.mem_filter.mpr ⟨List.mem_append_left _ (List.mem_of_getElem? (i := 66) (by decide +kernel)), by decide +kernel⟩
theorem qw_124 : Cond.code yX12_to cX12_to 3 (some .int) ∈ wsL_law := tseg_6 (by decide +kernel) (List.mem_of_getElem? (i := 109) (by decide +kernel))
theorem qw_125 : Cond.fieldLink RX12 40 "ChanceRingsModel" "choice" "[I" ∈ wsL_law := tseg_5 (by decide +kernel) (List.mem_of_getElem? (i := 147) (by decide +kernel))
/-! the reference's rows of rows: 12 rows of 13 longs -/
def tup (ct : Nat → Nat → Int64) (R J : Nat) (x : Int64) : Nat → Nat → Int64 := fun k => if k = R then vp_updL (ct R) J x else ct k
theorem tup_at (ct : Nat → Nat → Int64) (R J : Nat) (x : Int64) : tup ct R J x R J = x := by
  unfold tup vp_updL
  rw [if_pos rfl, if_pos rfl]
theorem tup_ne (ct : Nat → Nat → Int64) {R J i j : Nat} (x : Int64) (h : i ≠ R ∨ j ≠ J) : tup ct R J x i j = ct i j := by
  unfold tup
  by_cases e : i = R
  · subst e
    rw [if_pos rfl]
    unfold vp_updL
    rw [if_neg (by omega)]
  · rw [if_neg e]
theorem tup_cg {ct : Nat → Nat → Int64} {a a2 b b2 : Nat} {x : Int64} (h1 : a = a2) (h2 : b = b2) : tup ct a b x = tup ct a2 b2 x := by rw [h1, h2]
section TQ2
variable {p : Program} {l : Launch} {e : Env} {R : Room} {s : State} {m : MethodId} {args : Array Value} {below : List Frame} {meth : Method} {c : Code} {H H0 : Heap} {locs : List Loc} {cells slots : Nat} {Q : State → Prop} {pc : Nat} {ls : Array Slot} {rest : List Value} {cc : ByteArray} {D : va_G} {g : Nat → ClassId} {A : Nat → Prop} {rr : Nat → Nat} {WS : (Nat → Nat → Int64) → va_W} {ct : Nat → Nat → Int64}
theorem tq_ald12 (hx : p.tables.exec = Jvm.exec) (hb : c.code = cc) (hK : va_K D vwCl (TY g) s) (hP : va_P D vwCl (WS ct) H) (q0 : Nat) (hget : ∀ (ct : Nat → Nat → Int64) (i : Nat), i < 12 → (WS ct)[q0 + i]? = some (rr i, .inl (g 1, 13, .inr (.inl (ct i))))) {r j : Int32} (hr : vp_in r 12) (hj : vp_in j 13) (hdg : decode cc pc = .ok (.laload, 1))
    (kk : W p l e R s m args below meth c H locs cells slots Q (F0 m (pc + 1) ls (.long (ct r.toNatClampNeg j.toNatClampNeg) :: rest))) : W p l e R s m args below meth c H locs cells slots Q (F0 m pc ls (.int j :: .ref (rr r.toNatClampNeg) :: rest)) :=
  va_lald hx hb hK hP (q0 + r.toNatClampNeg) 1 (hget ct _ (tr_cl hr)) rfl hj hdg kk
theorem tq_ast12 (hx : p.tables.exec = Jvm.exec) (hb : c.code = cc) (hK : va_K D vwCl (TY g) s) (hP : va_P D vwCl (WS ct) H) (hD : va_D A (WS ct)) (hS : va_S A H0 H locs) (q0 : Nat) (hget : ∀ (ct : Nat → Nat → Int64) (i : Nat), i < 12 → (WS ct)[q0 + i]? = some (rr i, .inl (g 1, 13, .inr (.inl (ct i))))) (hset : ∀ (ct : Nat → Nat → Int64) (i : Nat) (f : Nat → Int64), i < 12 → (WS ct).set (q0 + i) (rr i, .inl (g 1, 13, .inr (.inl f))) = WS (fun k => if k = i then f else ct k)) {r j : Int32} {x : Int64} (hr : vp_in r 12) (hj : vp_in j 13) (hdg : decode cc pc = .ok (.lastore, 1))
    (kk : ∀ (ct1 : Nat → Nat → Int64), ct1 = tup ct r.toNatClampNeg j.toNatClampNeg x → ∀ (H1 : Heap) (locs1 : List Loc), va_P D vwCl (WS ct1) H1 → va_D A (WS ct1) → va_S A H0 H1 locs1 → W p l e R s m args below meth c H1 locs1 cells slots Q (F0 m (pc + 1) ls rest)) : W p l e R s m args below meth c H locs cells slots Q (F0 m pc ls (.long x :: .int j :: .ref (rr r.toNatClampNeg) :: rest)) := by
  refine va_last hx hb hK hP hD hS (q0 + r.toNatClampNeg) 1 (hget ct _ (tr_cl hr)) rfl hj hdg (fun H1 locs1 hP hD hS => ?_)
  rw [hset ct _ _ (tr_cl hr)] at hP hD
  exact kk _ rfl H1 locs1 hP hD hS
end TQ2
/-! longs -/
theorem tl_any (x : Int64) : -9223372036854775808 ≤ x.toInt ∧ x.toInt ≤ 9223372036854775807 := by
  have h1 := Int64.le_toInt x
  have h2 := Int64.toInt_le x
  have e1 : Int64.maxValue.toInt = 9223372036854775807 := by decide
  have e2 : Int64.minValue.toInt = -9223372036854775808 := by decide
  omega
theorem tl_bmod {z : Int} (h1 : -9223372036854775808 ≤ z) (h2 : z ≤ 9223372036854775807) : z.bmod 18446744073709551616 = z := by
  rw [Int.bmod_eq_of_le] <;> omega
theorem tl_add {x y : Int64} (h1 : -9223372036854775808 ≤ x.toInt + y.toInt) (h2 : x.toInt + y.toInt ≤ 9223372036854775807) : (x + y).toInt = x.toInt + y.toInt := by
  rw [Int64.toInt_add]; exact tl_bmod h1 h2
theorem tl_sub {x y : Int64} (h1 : -9223372036854775808 ≤ x.toInt - y.toInt) (h2 : x.toInt - y.toInt ≤ 9223372036854775807) : (x - y).toInt = x.toInt - y.toInt := by
  rw [Int64.toInt_sub]; exact tl_bmod h1 h2
theorem tl_mul {x y : Int64} (h1 : -9223372036854775808 ≤ x.toInt * y.toInt) (h2 : x.toInt * y.toInt ≤ 9223372036854775807) : (x * y).toInt = x.toInt * y.toInt := by
  rw [Int64.toInt_mul]; exact tl_bmod h1 h2
/-- a quotient that comes out even, by a number above 0 -/
theorem tl_div {x y : Int64} {q : Int} (h : x.toInt = q * y.toInt) (hy : ¬ y.toInt = 0) (h1 : -9223372036854775808 ≤ q) (h2 : q ≤ 9223372036854775807) : (x / y).toInt = q := by
  rw [Int64.toInt_div, h, Int.mul_tdiv_cancel _ hy]
  exact tl_bmod h1 h2
theorem tl_absmul {a b A B : Int} (h1 : -A ≤ a ∧ a ≤ A) (h2 : -B ≤ b ∧ b ≤ B) : -(A * B) ≤ a * b ∧ a * b ≤ A * B := by
  have hA : 0 ≤ A := by omega
  have hB : 0 ≤ B := by omega
  have e1 : 0 ≤ (A - a) * (B + b) := Int.mul_nonneg (by omega) (by omega)
  have e2 : 0 ≤ (A + a) * (B - b) := Int.mul_nonneg (by omega) (by omega)
  have e3 : 0 ≤ (A - a) * (B - b) := Int.mul_nonneg (by omega) (by omega)
  have e4 : 0 ≤ (A + a) * (B + b) := Int.mul_nonneg (by omega) (by omega)
  constructor <;> grind
theorem tl_step {u v w y b : Int64} {U V Wi Y B z : Int} (hu : u.toInt = U) (hv : v.toInt = V) (hw : w.toInt = Wi) (hy : y.toInt = Y) (hb : b.toInt = B) (bu : -3600000000 ≤ U ∧ U ≤ 3600000000) (bv : -400000000 ≤ V ∧ V ≤ 400000000) (bw : -400000000 ≤ Wi ∧ Wi ≤ 400000000) (by_ : -3600000000 ≤ Y ∧ Y ≤ 3600000000) (hB : 0 < B) (hz : z * B = U * V - Wi * Y) (bz : -3600000000 ≤ z ∧ z ≤ 3600000000) : ((u * v - w * y) / b).toInt = z := by
  subst hu hv hw hy hb
  have m1 := tl_absmul bu bv
  have m2 := tl_absmul bw by_
  have e1 := tl_mul (x := u) (y := v) (by omega) (by omega)
  have e2 := tl_mul (x := w) (y := y) (by omega) (by omega)
  have e3 := tl_sub (x := u * v) (y := w * y) (by omega) (by omega)
  exact tl_div (by rw [e3, e1, e2, hz]) (by omega) (by omega) (by omega)
/-- the rows as whole numbers -/
def tI (ct : Nat → Nat → Int64) : Nat → Nat → Int := fun i j => (ct i j).toInt
/-- the last column is bounded by the rows' sums -/
def LOK (n : Nat) (A : Nat → Nat → Int) : Prop := ∀ i, i < n → eA A i n ≤ 9 * pm_s n (eA A) (fun _ => 1) i ∧ -(9 * pm_s n (eA A) (fun _ => 1) i) ≤ eA A i n
def JOK (n : Nat) (A : Nat → Nat → Int) (j : Nat) : Prop := j < n ∨ (j = n ∧ LOK n A)
theorem JOK.le {n : Nat} {A : Nat → Nat → Int} {j : Nat} (h : JOK n A j) : j ≤ n := by rcases h with h | h <;> omega
theorem EH.jb {n : Nat} {A : Nat → Nat → Int} (h : EH n A) {c i j : Nat} (hc : c ≤ n) (hi : i < n) (hj : JOK n A j) : -3600000000 ≤ eX A c i j ∧ eX A c i j ≤ 3600000000 := by
  rcases hj with q | ⟨rfl, q⟩
  · have := h.bnd hc hi q; omega
  · exact h.last q hc hi
def SM (n : Nat) (A : Nat → Nat → Int) (c : Nat) (ct : Nat → Nat → Int64) : Prop := ∀ i j, i < n → JOK n A j → (ct i j).toInt = eX A c i j
def sX (A : Nat → Nat → Int) (c i j : Nat) : Int := if i = c ∨ j = c then eX A c i j else eX A (c + 1) i j
def SY (n : Nat) (A : Nat → Nat → Int) (c i : Nat) (j : Int) (ct : Nat → Nat → Int64) : Prop := ∀ i' j', i' < n → JOK n A j' → (ct i' j').toInt = if i' < i ∨ (i' = i ∧ j < (j' : Int)) then sX A c i' j' else eX A c i' j'
def SZ (n : Nat) (A : Nat → Nat → Int) (c i : Nat) (ct : Nat → Nat → Int64) : Prop := ∀ i' j', i' < n → JOK n A j' → (ct i' j').toInt = if i' < i then eX A (c + 1) i' j' else sX A c i' j'
section SO
variable {n c : Nat} {A : Nat → Nat → Int} {ct : Nat → Nat → Int64}
theorem SM_zero (ct : Nat → Nat → Int64) : SM n (tI ct) 0 ct := fun i j _ _ => (e_X0 (tI ct) i j).symm
theorem SM_piv (h : EH n A) (hS : SM n A c ct) (hc : c < n) : 0 < (ct c c).toInt := by
  rw [hS c c hc (Or.inl hc)]; exact h.ppos hc
theorem SY_start (h : SM n A c ct) {i : Nat} {j : Int} (hi : i = 0) (hj : (n : Int) ≤ j) : SY n A c i j ct := fun i' j' q1 q2 => by
  have := q2.le
  rw [if_neg (by omega)]; exact h i' j' q1 q2
theorem SY_row {i i2 : Nat} {j j2 : Int} (h : SY n A c i j ct) (hj : j < 0) (hi : i2 = i + 1) (hj2 : (n : Int) ≤ j2) : SY n A c i2 j2 ct := fun i' j' q1 q2 => by
  have := q2.le
  rw [h i' j' q1 q2]
  by_cases e : i' < i ∨ (i' = i ∧ j < (j' : Int))
  · rw [if_pos e, if_pos (by omega)]
  · rw [if_neg e, if_neg (by omega)]
theorem SY_skip {i : Nat} {j j2 : Int} (h : SY n A c i j ct) (hq : i = c ∨ j = (c : Int)) (hj : j2 = j - 1) : SY n A c i j2 ct := fun i' j' q1 q2 => by
  rw [h i' j' q1 q2]
  by_cases e : i' < i ∨ (i' = i ∧ j < (j' : Int))
  · rw [if_pos e, if_pos (by omega)]
  · rw [if_neg e]
    by_cases e2 : i' < i ∨ (i' = i ∧ j2 < (j' : Int))
    · rw [if_pos e2]
      unfold sX
      rw [if_pos (by omega)]
    · rw [if_neg e2]
theorem SY_put {i J : Nat} {j j2 : Int} {ct2 : Nat → Nat → Int64} {w : Int64} (h : SY n A c i j ct) (hJ : j = (J : Int)) (hct : ct2 = tup ct i J w) (hw : JOK n A J → w.toInt = eX A (c + 1) i J) (hi : i ≠ c) (hjc : J ≠ c) (hj : j2 = j - 1) : SY n A c i j2 ct2 := fun i' j' q1 q2 => by
  subst hct
  by_cases e0 : i' = i ∧ j' = J
  · obtain ⟨rfl, rfl⟩ := e0
    rw [tup_at, hw q2, if_pos (by omega)]
    unfold sX
    rw [if_neg (by omega)]
  · rw [tup_ne _ _ (by omega), h i' j' q1 q2]
    by_cases e : i' < i ∨ (i' = i ∧ j < (j' : Int))
    · rw [if_pos e, if_pos (by omega)]
    · rw [if_neg e, if_neg (by omega)]
theorem SY_at {i i' j' : Nat} {j : Int} (h : SY n A c i j ct) (q1 : i' < n) (q2 : JOK n A j') (hq : i' = c ∨ j' = c ∨ (i' = i ∧ (j' : Int) = j)) : (ct i' j').toInt = eX A c i' j' := by
  rw [h i' j' q1 q2]
  by_cases e : i' < i ∨ (i' = i ∧ j < (j' : Int))
  · rw [if_pos e]
    unfold sX
    rw [if_pos (by omega)]
  · rw [if_neg e]
theorem SY_val (h : EH n A) {i J : Nat} {j : Int} {b u v w y : Int64} (hS : SY n A c i j ct) (hJ : j = (J : Int)) (hb : b.toInt = eb A c) (hc : c < n) (hi : i < n) (hic : i ≠ c) (hu : u = ct i J) (hv : v = ct c c) (hw : w = ct i c) (hy : y = ct c J) (hj : JOK n A J) : ((u * v - w * y) / b).toInt = eX A (c + 1) i J := by
  have jc : JOK n A c := Or.inl hc
  exact tl_step (by rw [hu]; exact SY_at hS hi hj (by omega)) (by rw [hv]; exact SY_at hS hc jc (by omega)) (by rw [hw]; exact SY_at hS hi jc (by omega)) (by rw [hy]; exact SY_at hS hc hj (by omega)) hb (h.jb (by omega) hi hj) (h.bnd (by omega) hc hc) (h.bnd (by omega) hi hc) (h.jb (by omega) hc hj) (h.bpos (by omega)) (h.step hc hic J) (h.jb (by omega) hi hj)
theorem SZ_start {i : Nat} {j : Int} (h : SY n A c i j ct) (hi : n ≤ i) : SZ n A c 0 ct := fun i' j' q1 q2 => by
  rw [h i' j' q1 q2, if_pos (by omega), if_neg (by omega)]
theorem SZ_skip (hE : EH n A) {i i2 : Nat} (h : SZ n A c i ct) (hc : c < n) (hi : i = c) (hi2 : i2 = i + 1) : SZ n A c i2 ct := fun i' j' q1 q2 => by
  rw [h i' j' q1 q2]
  by_cases e : i' < i
  · rw [if_pos e, if_pos (by omega)]
  · rw [if_neg e]
    by_cases e2 : i' < i2
    · rw [if_pos e2]
      obtain rfl : i' = c := by omega
      unfold sX
      rw [if_pos (Or.inl rfl), hE.row hc]
    · rw [if_neg e2]
theorem SZ_one (hE : EH n A) {i i2 : Nat} {ct2 : Nat → Nat → Int64} {z : Int64} (h : SZ n A c i ct) (hc : c < n) (hi : c < i) (hin : i < n) (hi2 : i2 = i + 1) (hz : z.toInt = 0) (hct : ct2 = tup ct i c z) : SZ n A c i2 ct2 := fun i' j' q1 q2 => by
  subst hct
  by_cases e0 : i' = i ∧ j' = c
  · obtain ⟨rfl, rfl⟩ := e0
    rw [tup_at, hz, if_pos (by omega), hE.unit (by omega) i' j' (by omega), if_neg (by omega)]
  · rw [tup_ne _ _ (by omega), h i' j' q1 q2]
    by_cases e : i' < i
    · rw [if_pos e, if_pos (by omega)]
    · rw [if_neg e]
      by_cases e2 : i' < i2
      · rw [if_pos e2]
        unfold sX
        rw [if_neg (by omega)]
      · rw [if_neg e2]
theorem SZ_two (hE : EH n A) {i i2 : Nat} {ct2 ct3 : Nat → Nat → Int64} {z v : Int64} (h : SZ n A c i ct) (hc : c < n) (hi : i < c) (hi2 : i2 = i + 1) (hz : z.toInt = 0) (hct : ct2 = tup ct i c z) (hv : v = ct2 c c) (hct3 : ct3 = tup ct2 i i v) : SZ n A c i2 ct3 := fun i' j' q1 q2 => by
  have jc : JOK n A c := Or.inl hc
  have ev : v.toInt = eb A (c + 1) := by
    rw [hv, hct, tup_ne _ _ (by omega), h c c hc jc, if_neg (by omega), e_bS]
    unfold sX
    rw [if_pos (Or.inl rfl)]
  subst hct3
  by_cases e1 : i' = i ∧ j' = i
  · obtain ⟨rfl, rfl⟩ := e1
    rw [tup_at, ev, if_pos (by omega), hE.unit (by omega) j' j' (by omega), if_pos rfl]
  · rw [tup_ne _ _ (by omega), hct]
    by_cases e0 : i' = i ∧ j' = c
    · obtain ⟨rfl, rfl⟩ := e0
      rw [tup_at, hz, if_pos (by omega), hE.unit (by omega) i' j' (by omega), if_neg (by omega)]
    · rw [tup_ne _ _ (by omega), h i' j' q1 q2]
      by_cases e : i' < i
      · rw [if_pos e, if_pos (by omega)]
      · rw [if_neg e]
        by_cases e2 : i' < i2
        · rw [if_pos e2]
          unfold sX
          rw [if_neg (by omega)]
        · rw [if_neg e2]
theorem SZ_end {i c2 : Nat} (h : SZ n A c i ct) (hi : n ≤ i) (hc2 : c2 = c + 1) : SM n A c2 ct := fun i' j' q1 q2 => by
  subst hc2
  rw [h i' j' q1 q2, if_pos (by omega)]
theorem SZ_piv (hE : EH n A) {i c2 : Nat} (h : SZ n A c i ct) (hi : n ≤ i) (hc : c < n) {v : Int64} (hv : v = ct c c) (hc2 : c2 = c + 1) : v.toInt = eb A c2 := by
  subst hc2
  rw [hv, h c c hc (Or.inl hc), if_pos (by omega), e_bS, hE.row hc]
end SO
theorem tl_cmp0 {w : Int64} (h : lg_cmp w 0 = 0) : w.toInt = 0 := by
  have h1 := Int64.le_iff_toInt_le.mp ((lg_cmp_ge w 0).mp (by rw [h]; decide))
  have h2 := Int64.le_iff_toInt_le.mp ((lg_cmp_le w 0).mp (by rw [h]; decide))
  have z : (0 : Int64).toInt = 0 := by decide
  omega
theorem tl_nz {b : Int64} {B : Int} (h : b.toInt = B) (hB : 0 < B) : ¬ b = 0 := fun e => by
  rw [e] at h
  have z : (0 : Int64).toInt = 0 := by decide
  omega
theorem tl_nz0 {b : Int64} (h : ¬ b = 0) : ¬ b.toInt = 0 := fun e => h (Int64.toInt_inj.mp (e.trans (by decide)))
/-! the common divisor -/
def GD (a b x y : Int) : Prop := (∀ d : Int, d ∣ x → d ∣ y → d ∣ a ∧ d ∣ b) ∧ ¬ (x = 0 ∧ y = 0) ∧ (0 ≤ a → 0 ≤ x ∧ 0 ≤ y)
theorem GD_start {a b : Int} (hb : 0 < b) : GD a b a b := ⟨fun _ h1 h2 => ⟨h1, h2⟩, fun h => by omega, fun h => ⟨h, by omega⟩⟩
theorem tl_tmod (a : Int) {b : Int} (h : ¬ b = 0) : (a.tmod b).natAbs < b.natAbs := by
  rw [Int.natAbs_tmod]
  exact Nat.mod_lt _ (Int.natAbs_pos.mpr h)
theorem tl_rem {x y z : Int64} (hz : z = x - x / y * y) (hy : ¬ y = 0) : ∃ q : Int, x.toInt = q * y.toInt + z.toInt ∧ z.toInt.natAbs < y.toInt.natAbs ∧ (0 ≤ x.toInt → 0 ≤ z.toInt) := by
  have hy0 := tl_nz0 hy
  have bx := tl_any x
  have b_y := tl_any y
  have h1 : z.toInt = x.toInt.tmod y.toInt := by
    rw [hz, Int64.toInt_sub, Int64.toInt_mul, Int64.toInt_div]
    have e := Int.tmod_add_mul_tdiv x.toInt y.toInt
    have m1 := tl_tmod x.toInt hy0
    have e2 : x.toInt - x.toInt.tdiv y.toInt * y.toInt = x.toInt.tmod y.toInt := by grind
    rw [← e2]
    simp only [Int.sub_bmod_bmod, Int.bmod_mul_bmod]
    rw [e2]
    exact tl_bmod (by omega) (by omega)
  refine ⟨x.toInt.tdiv y.toInt, ?_, ?_, ?_⟩
  · rw [h1]
    have e := Int.tmod_add_mul_tdiv x.toInt y.toInt
    grind
  · rw [h1]; exact tl_tmod x.toInt hy0
  · intro h; rw [h1]; exact Int.tmod_nonneg _ h
theorem GD_next {a b : Int} {x y z : Int64} (h : GD a b x.toInt y.toInt) (hz : z = x - x / y * y) (hy : ¬ y = 0) : GD a b y.toInt z.toInt := by
  obtain ⟨q, e, -, hn⟩ := tl_rem hz hy
  refine ⟨fun d h1 h2 => h.1 d ?_ h1, fun h1 => tl_nz0 hy h1.1, fun ha => ⟨(h.2.2 ha).2, hn (h.2.2 ha).1⟩⟩
  rw [e]
  exact Int.dvd_add (Int.dvd_mul_of_dvd_right h1) h2
theorem GD_end {a b x y : Int} (h : GD a b x y) (hy : y = 0) : ¬ x = 0 ∧ x ∣ a ∧ x ∣ b ∧ (0 ≤ a → 0 < x) := by
  subst hy
  have h0 : ¬ x = 0 := fun e => h.2.1 ⟨e, rfl⟩
  obtain ⟨h1, h2⟩ := h.1 x (Int.dvd_refl x) (Int.dvd_zero x)
  exact ⟨h0, h1, h2, fun ha => by have := (h.2.2 ha).1; omega⟩
theorem qw_130 : Cond.fieldLink RX12 55 "ChanceRingsModel" "m" "[[J" ∈ wsL_law := tseg_5 (by decide +kernel) (List.mem_of_getElem? (i := 151) (by decide +kernel))
/-! the rows that a play lays -/
abbrev wsel (f c : Nat → Int32) (k i : Nat) : Prop := (f (1 + k)).toInt = 3 ∨ (c k).toInt = (i : Int)
def wwt (f : Nat → Int32) (k i : Nat) : Int := if (f (1 + k)).toInt = 3 then (f (73 + 3 * k + i)).toInt else 1
def wtg (f : Nat → Int32) (k i : Nat) : Nat := (f (37 + 3 * k + i)).toInt.toNat
def gsm (f c : Nat → Int32) (k : Nat) (u : Nat → Int) : Nat → Int
  | 0 => 0
  | i + 1 => gsm f c k u i + (if wsel f c k i then wwt f k i * u (wtg f k i) else 0)
def gsR (f c : Nat → Int32) (k : Nat) (u : Nat → Rat) : Nat → Rat
  | 0 => 0
  | i + 1 => gsR f c k u i + (if wsel f c k i then ((wwt f k i : Int) : Rat) * u (wtg f k i) else 0)
def wys (f : Nat → Int32) (k : Nat) : Nat := (f (25 + k)).toInt.toNat
section GM
variable {f c : Nat → Int32} {k : Nat}
theorem gsR_cast (u : Nat → Int) : ∀ m, ((gsm f c k u m : Int) : Rat) = gsR f c k (fun t => ((u t : Int) : Rat)) m
  | 0 => rfl
  | m + 1 => by
    show ((gsm f c k u m + _ : Int) : Rat) = gsR f c k _ m + _
    rw [Rat.intCast_add, gsR_cast u m]
    by_cases q : wsel f c k m
    · rw [if_pos q, if_pos q, Rat.intCast_mul]
    · rw [if_neg q, if_neg q]; rfl
theorem gsR_lin (a : Rat) (u v : Nat → Rat) : ∀ m, gsR f c k (fun t => a * u t + v t) m = a * gsR f c k u m + gsR f c k v m
  | 0 => by show (0 : Rat) = a * 0 + 0; grind
  | m + 1 => by
    show gsR f c k _ m + _ = a * (gsR f c k u m + _) + (gsR f c k v m + _)
    rw [gsR_lin a u v m]
    by_cases q : wsel f c k m
    · rw [if_pos q, if_pos q, if_pos q]; grind
    · rw [if_neg q, if_neg q, if_neg q]; grind
theorem gsR_congr {u v : Nat → Rat} : ∀ m, (∀ i, i < m → wsel f c k i → u (wtg f k i) = v (wtg f k i)) → gsR f c k u m = gsR f c k v m
  | 0, _ => rfl
  | m + 1, h => by
    show gsR f c k u m + _ = gsR f c k v m + _
    rw [gsR_congr m (fun i hi => h i (by omega))]
    by_cases q : wsel f c k m
    · rw [if_pos q, if_pos q, h m (by omega) q]
    · rw [if_neg q, if_neg q]
theorem gsR_le {u v : Nat → Rat} : ∀ m, (∀ i, i < m → 0 ≤ wwt f k i) → (∀ i, i < m → wsel f c k i → u (wtg f k i) ≤ v (wtg f k i)) → gsR f c k u m ≤ gsR f c k v m
  | 0, _, _ => Rat.le_refl
  | m + 1, hw, h => by
    show gsR f c k u m + _ ≤ gsR f c k v m + _
    have ih := gsR_le m (fun i hi => hw i (by omega)) (fun i hi => h i (by omega))
    by_cases q : wsel f c k m
    · rw [if_pos q, if_pos q]
      have w0 : (0 : Rat) ≤ ((wwt f k m : Int) : Rat) := by exact_mod_cast hw m (by omega)
      have := Rat.mul_le_mul_of_nonneg_left (c := ((wwt f k m : Int) : Rat)) (h m (by omega) q) w0
      grind
    · rw [if_neg q, if_neg q]; grind
theorem gsR_zero : ∀ m, gsR f c k (fun _ => 0) m = 0
  | 0 => rfl
  | m + 1 => by
    show gsR f c k _ m + _ = 0
    rw [gsR_zero m]
    by_cases q : wsel f c k m
    · rw [if_pos q]; grind
    · rw [if_neg q]; grind
/-- one way's value lies lower: so much lower lies the sum -/
theorem gsR_gap {u : Nat → Rat} {e : Rat} {i0 : Nat} (he : 0 ≤ e) (hi : wsel f c k i0) : ∀ m, i0 < m → (∀ i, i < m → 1 ≤ wwt f k i) → (∀ i, i < m → wsel f c k i → u (wtg f k i) ≤ 1) → u (wtg f k i0) ≤ 1 - e → gsR f c k u m ≤ gsR f c k (fun _ => 1) m - e
  | 0, h, _, _, _ => absurd h (by omega)
  | m + 1, h, hw, hu, h0 => by
    show gsR f c k u m + _ ≤ gsR f c k _ m + _ - e
    have w1 : (1 : Rat) ≤ ((wwt f k m : Int) : Rat) := by exact_mod_cast hw m (by omega)
    by_cases q0 : i0 = m
    · subst q0
      rw [if_pos hi, if_pos hi]
      have ih := gsR_le (u := u) (v := fun _ => 1) (c := c) i0 (fun i hi => by have := hw i (by omega); omega) (fun i hi => hu i (by omega))
      have a1 := Rat.mul_le_mul_of_nonneg_left (c := ((wwt f k i0 : Int) : Rat)) h0 (by grind)
      have a2 := Rat.mul_le_mul_of_nonneg_right (c := e) w1 he
      grind
    · have ih := gsR_gap he hi m (by omega) (fun i hi => hw i (by omega)) (fun i hi => hu i (by omega)) h0
      by_cases q : wsel f c k m
      · rw [if_pos q, if_pos q]
        have a1 := Rat.mul_le_mul_of_nonneg_left (c := ((wwt f k m : Int) : Rat)) (hu m (by omega) q) (by grind)
        grind
      · rw [if_neg q, if_neg q]; grind
theorem gsm_one_chance (h : (f (1 + k)).toInt = 3) : ∀ m, gsm f c k (fun _ => 1) m = gw f k m
  | 0 => rfl
  | m + 1 => by
    show gsm f c k _ m + _ = gw f k m + _
    rw [gsm_one_chance h m, if_pos (Or.inl h)]
    unfold wwt
    rw [if_pos h]
    show gw f k m + (f (73 + 3 * k + m)).toInt * 1 = gw f k m + (f (73 + 3 * k + m)).toInt
    omega
theorem gsm_one_player (h : ¬ (f (1 + k)).toInt = 3) : ∀ m : Nat, gsm f c k (fun _ => 1) m = if 0 ≤ (c k).toInt ∧ (c k).toInt < (m : Int) then 1 else 0
  | 0 => by rw [if_neg (by omega)]; rfl
  | m + 1 => by
    show gsm f c k _ m + _ = _
    rw [gsm_one_player h m]
    by_cases q : wsel f c k m
    · rw [if_pos q]
      have q2 : (c k).toInt = (m : Int) := by rcases q with q | q; exact absurd q h; exact q
      unfold wwt
      rw [if_neg h, if_neg (by omega), if_pos (by omega)]
      rfl
    · rw [if_neg q]
      have q2 : ¬ (c k).toInt = (m : Int) := fun e => q (Or.inr e)
      by_cases q3 : 0 ≤ (c k).toInt ∧ (c k).toInt < (m : Int)
      · rw [if_pos q3, if_pos (by omega)]; omega
      · rw [if_neg q3, if_neg (by omega)]; omega
theorem gs_w1 (h : GS f) (hk : k < 12) {i : Nat} (hi : i < wys f k) : 1 ≤ wwt f k i ∧ wwt f k i ≤ 3 ∧ (wtg f k i : Int) < (f 0).toInt ∧ (wtg f k i : Int) = (f (37 + 3 * k + i)).toInt := by
  have h3 := (h.r.2.1 k hk).2.2.1
  have hi2 : (i : Int) < (f (25 + k)).toInt := by unfold wys at hi; omega
  have h4 := h.1.2.2.2.1 k i hk hi2
  have h5 := (h.r.2.2 (3 * k + i) (by omega))
  rw [← Nat.add_assoc, ← Nat.add_assoc] at h5
  unfold wwt wtg
  refine ⟨?_, ?_, by omega, by omega⟩
  · split <;> omega
  · split <;> omega
theorem gs_all (h : GS f) (hk : k < 12) : gsm f c k (fun _ => 1) (wys f k) ≤ (if (f (1 + k)).toInt = 3 then 4 else 1) ∧ 0 ≤ gsm f c k (fun _ => 1) (wys f k) := by
  by_cases q : (f (1 + k)).toInt = 3
  · rw [gsm_one_chance q, if_pos q]
    have h1 := h.1.2.2.2.2.1 k hk q
    refine ⟨h1, gw_nonneg _ (fun i hi => ?_)⟩
    have h3 := (h.r.2.1 k hk).2.2.1
    have h5 := (h.r.2.2 (3 * k + i) (by unfold wys at hi; omega)).2
    rw [← Nat.add_assoc] at h5
    exact h5.1
  · rw [gsm_one_player q, if_neg q]
    split <;> omega
end GM
/-- an end is come to in at most m moves -/
def RK (f c : Nat → Int32) : Nat → Nat → Prop
  | 0, k => (k : Int) < (f 0).toInt ∧ (f (1 + k)).toInt = 0
  | m + 1, k => RK f c m k ∨ ((k : Int) < (f 0).toInt ∧ ¬ (f (1 + k)).toInt = 0 ∧ ∃ j, ON f c k j ∧ RK f c m j)
def RC (f c : Nat → Int32) (k : Nat) : Prop := ∃ m, RK f c m k
theorem RC_closed (f c : Nat → Int32) : CL f c (RC f c) := fun k j h1 h2 h3 ⟨m, h4⟩ => ⟨m + 1, Or.inr ⟨h1, h2, j, h3, h4⟩⟩
theorem RC_of {f c : Nat → Int32} {x y : Int32} (hx : ∀ j : Nat, bt x j ↔ (j < (f 0).toInt.toNat ∧ (f (1 + j)).toInt = 0)) (h : LF f c x y ∧ CL f c (bt y)) (k : Nat) : bt y k ↔ RC f c k := by
  constructor
  · exact h.1.2 (RC f c) (fun j hj => ⟨0, by have := (hx j).mp hj; exact ⟨by omega, this.2⟩⟩) (RC_closed f c) k
  · rintro ⟨m, hm⟩
    induction m generalizing k with
    | zero => exact h.1.1 k ((hx k).mpr ⟨by have := hm.1; omega, hm.2⟩)
    | succ m ih =>
      rcases hm with hm | ⟨h1, h2, j, h3, h4⟩
      · exact ih k hm
      · exact h.2 k j h1 h2 h3 (ih j h4)
/-- how far an end is -/
theorem RC_rank (f c : Nat → Int32) : ∃ d : Nat → Nat, ∀ k, RC f c k → ¬ (f (1 + k)).toInt = 0 → 1 ≤ d k ∧ ∃ j, ON f c k j ∧ RC f c j ∧ d j + 1 ≤ d k := by
  have h : ∀ k, ∃ d : Nat, RC f c k → RK f c d k ∧ ∀ m, RK f c m k → d ≤ m := by
    intro k
    by_cases q : RC f c k
    · obtain ⟨m, hm⟩ := q
      induction m using Nat.strongRecOn with
      | _ m ih =>
        by_cases q2 : ∃ m2, m2 < m ∧ RK f c m2 k
        · obtain ⟨m2, h1, h2⟩ := q2
          exact ih m2 h1 h2
        · exact ⟨m, fun _ => ⟨hm, fun m3 h3 => Nat.le_of_not_lt fun h4 => q2 ⟨m3, h4, h3⟩⟩⟩
    · exact ⟨0, fun h => absurd h q⟩
  refine ⟨fun k => (h k).choose, fun k hk he => ?_⟩
  obtain ⟨h1, h2⟩ := (h k).choose_spec hk
  obtain ⟨m, hm⟩ : ∃ m, m = (h k).choose := ⟨_, rfl⟩
  rw [← hm] at h1 h2
  show 1 ≤ (h k).choose ∧ ∃ j, ON f c k j ∧ RC f c j ∧ (h j).choose + 1 ≤ (h k).choose
  rw [← hm]
  cases m with
  | zero => exact absurd h1.2 he
  | succ m =>
    rcases h1 with h1 | ⟨_, _, j, h3, h4⟩
    · have := h2 m h1; omega
    · have hj : RC f c j := ⟨m, h4⟩
      have := ((h j).choose_spec hj).2 m h4
      exact ⟨by omega, j, h3, hj, by omega⟩
/-! the numbers of the rows, and the rows' good nature -/
def rwS (f c : Nat → Int32) (k : Nat) : Prop := ¬ (f (1 + k)).toInt = 0 ∧ RC f c k
def DK (f : Nat → Int32) (k : Nat) : Int := if (f (1 + k)).toInt = 3 then 20 else 5
def PD (f : Nat → Int32) : Nat → Int
  | 0 => 1
  | k + 1 => PD f k * (if (f (1 + k)).toInt = 0 then 1 else DK f k)
def pE (E : Nat → Int) : Nat → Int
  | 0 => 1
  | k + 1 => pE E k * E k
def RWI (f c w : Nat → Int32) (m N : Nat) : Prop := (∀ k, k < m → (0 ≤ (w k).toInt ↔ rwS f c k) ∧ (w k).toInt < (N : Int)) ∧ (∀ i, i < N → ∃ k, k < m ∧ (w k).toInt = (i : Int)) ∧ (∀ k j, k < m → j < m → (w k).toInt = (w j).toInt → 0 ≤ (w k).toInt → k = j) ∧ N ≤ m ∧ ∀ E : Nat → Int, (∀ k, k < m → 0 ≤ (w k).toInt → 0 ≤ E (w k).toInt.toNat ∧ E (w k).toInt.toNat ≤ DK f k) → pE E N ≤ PD f m
theorem DK_pos (f : Nat → Int32) (k : Nat) : 5 ≤ DK f k ∧ DK f k ≤ 20 := by unfold DK; split <;> omega
theorem PD_pos (f : Nat → Int32) : ∀ m, 1 ≤ PD f m
  | 0 => by show (1 : Int) ≤ 1; omega
  | m + 1 => by
    have h1 := PD_pos f m
    have h2 := DK_pos f m
    show 1 ≤ PD f m * _
    split
    · omega
    · have := Int.mul_le_mul h1 (show (1 : Int) ≤ DK f m by omega) (by omega) (by omega)
      omega
theorem pE_nonneg {E : Nat → Int} : ∀ N, (∀ i, i < N → 0 ≤ E i) → 0 ≤ pE E N
  | 0, _ => by show (0 : Int) ≤ 1; omega
  | N + 1, h => Int.mul_nonneg (pE_nonneg N (fun i hi => h i (by omega))) (h N (by omega))
theorem RWI_zero (f c w : Nat → Int32) : RWI f c w 0 0 := ⟨fun k h => absurd h (by omega), fun i h => absurd h (by omega), fun k j h => absurd h (by omega), by omega, fun E _ => by show (1 : Int) ≤ 1; omega⟩
theorem RWI_row {f c w v : Nat → Int32} {m m2 N N2 : Nat} (h : RWI f c w m N) (hv : ∀ k, k < m → v k = w k) (hn : (v m).toInt = (N : Int)) (hS : rwS f c m) (hm : m2 = m + 1) (hN : N2 = N + 1) : RWI f c v m2 N2 := by
  subst hm hN
  obtain ⟨h1, h2, h3, h4, h5⟩ := h
  refine ⟨fun k hk => ?_, fun i hi => ?_, fun k j hk hj e e0 => ?_, by omega, fun E hE => ?_⟩
  · by_cases q : k = m
    · subst q; exact ⟨⟨fun _ => hS, fun _ => by omega⟩, by omega⟩
    · rw [hv k (by omega)]; have := h1 k (by omega); exact ⟨this.1, by omega⟩
  · by_cases q : i = N
    · subst q; exact ⟨m, by omega, hn⟩
    · obtain ⟨k, hk, e⟩ := h2 i (by omega)
      exact ⟨k, by omega, by rw [hv k hk]; exact e⟩
  · by_cases q : k = m
    · by_cases q2 : j = m
      · omega
      · subst q
        rw [hv j (by omega)] at e
        have := (h1 j (by omega)).2
        omega
    · by_cases q2 : j = m
      · subst q2
        rw [hv k (by omega)] at e
        have := (h1 k (by omega)).2
        omega
      · rw [hv k (by omega)] at e e0
        rw [hv j (by omega)] at e
        exact h3 k j (by omega) (by omega) e e0
  · show pE E N * E N ≤ PD f m * _
    rw [if_neg hS.1]
    have a1 := h5 E (fun k hk e => by have := hE k (by omega) (by rw [hv k hk]; exact e); rw [hv k hk] at this; exact this)
    have a2 := hE m (by omega) (by omega)
    rw [hn, Int.toNat_natCast] at a2
    have a3 : 0 ≤ pE E N := pE_nonneg N (fun i hi => by
      obtain ⟨k, hk, e⟩ := h2 i hi
      have := hE k (by omega) (by rw [hv k hk]; omega)
      rw [hv k hk, e, Int.toNat_natCast] at this
      exact this.1)
    have a4 := PD_pos f m
    exact Int.mul_le_mul a1 a2.2 a2.1 (by omega)
theorem RWI_not {f c w v : Nat → Int32} {m m2 N : Nat} (h : RWI f c w m N) (hv : ∀ k, k < m → v k = w k) (hn : (v m).toInt = -1) (hS : ¬ rwS f c m) (hm : m2 = m + 1) : RWI f c v m2 N := by
  subst hm
  obtain ⟨h1, h2, h3, h4, h5⟩ := h
  refine ⟨fun k hk => ?_, fun i hi => ?_, fun k j hk hj e e0 => ?_, by omega, fun E hE => ?_⟩
  · by_cases q : k = m
    · subst q; exact ⟨⟨fun _ => by omega, fun z => absurd z hS⟩, by omega⟩
    · rw [hv k (by omega)]; exact h1 k (by omega)
  · obtain ⟨k, hk, e⟩ := h2 i (by omega)
    exact ⟨k, by omega, by rw [hv k hk]; exact e⟩
  · by_cases q : k = m
    · subst q; omega
    · by_cases q2 : j = m
      · subst q2; omega
      · rw [hv k (by omega)] at e e0
        rw [hv j (by omega)] at e
        exact h3 k j (by omega) (by omega) e e0
  · have a1 := h5 E (fun k hk e => by have := hE k (by omega) (by rw [hv k hk]; exact e); rw [hv k hk] at this; exact this)
    have a4 := PD_pos f m
    have a5 := DK_pos f m
    show pE E N ≤ PD f m * _
    split
    · omega
    · have : PD f m * 1 ≤ PD f m * DK f m := Int.mul_le_mul_of_nonneg_left (by omega) (by omega)
      omega
/-- chance's nodes and players' nodes, counted -/
theorem PD_count (f : Nat → Int32) : ∀ m : Nat, ∃ a b : Nat, (a : Int) = gc f 3 m ∧ (a : Int) + b = (m : Int) - gc f 0 m ∧ PD f m = 20 ^ a * 5 ^ b
  | 0 => ⟨0, 0, rfl, rfl, rfl⟩
  | m + 1 => by
    obtain ⟨a, b, h1, h2, h3⟩ := PD_count f m
    have e3 : gc f 3 (m + 1) = gc f 3 m + (if (f (1 + m)).toInt = 3 then 1 else 0) := rfl
    have e0 : gc f 0 (m + 1) = gc f 0 m + (if (f (1 + m)).toInt = 0 then 1 else 0) := rfl
    have eP : PD f (m + 1) = PD f m * (if (f (1 + m)).toInt = 0 then 1 else DK f m) := rfl
    rw [e3, e0, eP, h3]
    by_cases q0 : (f (1 + m)).toInt = 0
    · rw [if_pos q0, if_pos q0, if_neg (by omega)]
      exact ⟨a, b, by omega, by omega, by omega⟩
    · rw [if_neg q0, if_neg q0]
      unfold DK
      by_cases q3 : (f (1 + m)).toInt = 3
      · rw [if_pos q3, if_pos q3]
        exact ⟨a + 1, b, by omega, by omega, by rw [Int.pow_succ]; grind⟩
      · rw [if_neg q3, if_neg q3]
        exact ⟨a, b + 1, by omega, by omega, by rw [Int.pow_succ]; grind⟩
theorem PD_le {f : Nat → Int32} (h : GS f) : PD f (f 0).toInt.toNat ≤ 400000000 := by
  obtain ⟨a, b, h1, h2, h3⟩ := PD_count f (f 0).toInt.toNat
  have k1 := h.1.2.2.2.2.2.2.2.1
  have k2 := h.1.2.2.2.2.2.2.2.2
  have k0 := h.r.1
  rw [h3]
  have ha : a ≤ 5 := by omega
  have hb : a + b ≤ 8 := by omega
  rcases (show a = 0 ∨ a = 1 ∨ a = 2 ∨ a = 3 ∨ a = 4 ∨ a = 5 by omega) with rfl | rfl | rfl | rfl | rfl | rfl <;> rcases (show b = 0 ∨ b = 1 ∨ b = 2 ∨ b = 3 ∨ b = 4 ∨ b = 5 ∨ b = 6 ∨ b = 7 ∨ b = 8 by omega) with rfl | rfl | rfl | rfl | rfl | rfl | rfl | rfl | rfl <;> first | omega | decide
/-- what stands in the row of node k -/
def arow (f c w : Nat → Int32) (N : Nat) (a b e : Int) (u : Nat → Int) (k j : Nat) : Int :=
  if j = N then b * gsm f c k (fun t => if (w t).toInt < 0 then u t else 0) (wys f k) + e * gsm f c k (fun _ => 1) (wys f k)
  else (if (w k).toInt = (j : Int) then a * gsm f c k (fun _ => 1) (wys f k) else 0) - b * gsm f c k (fun t => if (w t).toInt = (j : Int) then 1 else 0) (wys f k)
def MAT (f c w : Nat → Int32) (N : Nat) (a b e : Int) (u : Nat → Int) (m : Nat) (A : Nat → Nat → Int) : Prop := ∀ k, k < m → 0 ≤ (w k).toInt → ∀ j, j ≤ N → A (w k).toInt.toNat j = arow f c w N a b e u k j
theorem pz_m_delta (y : Nat → Rat) (c : Rat) (i : Nat) : ∀ N, pz_m N (fun j => (if i = j then c else 0) * y j) = if i < N then c * y i else 0
  | 0 => by rw [if_neg (by omega)]; rfl
  | N + 1 => by
    show pz_m N _ + _ = _
    rw [pz_m_delta y c i N]
    dsimp only
    by_cases q : i = N
    · subst q; rw [if_neg (by omega), if_pos rfl, if_pos (by omega)]; grind
    · rw [if_neg q]
      by_cases q2 : i < N
      · rw [if_pos q2, if_pos (by omega)]; grind
      · rw [if_neg q2, if_neg (by omega)]; grind
theorem pz_m_pick (y : Nat → Rat) {r : Int} {N : Nat} (hr : r < (N : Int)) : pz_m N (fun j => (((if r = (j : Int) then 1 else 0 : Int) : Int) : Rat) * y j) = if 0 ≤ r then y r.toNat else 0 := by
  by_cases q : 0 ≤ r
  · rw [if_pos q, pz_m_congr N (v := fun j => (if r.toNat = j then (1 : Rat) else 0) * y j) (fun j _ => ?_), pz_m_delta, if_pos (by omega)]
    · grind
    · by_cases q2 : r = (j : Int)
      · rw [if_pos q2, if_pos (by omega)]; rfl
      · rw [if_neg q2, if_neg (by omega)]; rfl
  · rw [if_neg q]
    exact pz_m_zero (fun j _ => by rw [if_neg (by omega)]; show (0 : Rat) * y j = 0; grind)
section RS
variable {f c w : Nat → Int32} {k N : Nat}
theorem gsR_pick (y : Nat → Rat) : ∀ m, (∀ i, i < m → (w (wtg f k i)).toInt < (N : Int)) → pz_m N (fun j => gsR f c k (fun t => (((if (w t).toInt = (j : Int) then 1 else 0 : Int) : Int) : Rat)) m * y j) = gsR f c k (fun t => if 0 ≤ (w t).toInt then y (w t).toInt.toNat else 0) m
  | 0, _ => pz_m_zero (fun j _ => by show (0 : Rat) * y j = 0; grind)
  | m + 1, h => by
    have ih := gsR_pick y m (fun i hi => h i (by omega))
    show pz_m N (fun j => (gsR f c k _ m + _) * y j) = gsR f c k _ m + _
    rw [← ih]
    dsimp only
    by_cases q : wsel f c k m
    · rw [if_pos q, ← pz_m_pick y (h m (by omega)), pz_m_congr N (v := fun j => ((wwt f k m : Int) : Rat) * ((((if (w (wtg f k m)).toInt = (j : Int) then 1 else 0 : Int) : Int) : Rat) * y j) + gsR f c k (fun t => (((if (w t).toInt = (j : Int) then 1 else 0 : Int) : Int) : Rat)) m * y j) (fun j _ => by rw [if_pos q]; grind), pz_m_lin]
      grind
    · rw [if_neg q, pz_m_congr N (v := fun j => gsR f c k (fun t => (((if (w t).toInt = (j : Int) then 1 else 0 : Int) : Int) : Rat)) m * y j) (fun j _ => by rw [if_neg q]; grind)]
      grind
end RS
def p5 : Nat → Rat
  | 0 => 1
  | d + 1 => p5 d / 5
theorem p5_pos : ∀ d, 0 < p5 d
  | 0 => by show (0 : Rat) < 1; decide
  | d + 1 => pm_div_pos (p5_pos d) (by decide)
theorem p5_le : ∀ {a b : Nat}, a ≤ b → p5 b ≤ p5 a := by
  intro a b h
  induction b with
  | zero => rw [show a = 0 by omega]; exact Rat.le_refl
  | succ b ih =>
    by_cases e : a = b + 1
    · rw [e]; exact Rat.le_refl
    · have h1 := ih (by omega)
      have h2 := p5_pos b
      have h3 : p5 (b + 1) = p5 b / 5 := rfl
      grind
/-! the rows of a play can be solved -/
theorem eP_pE (A : Nat → Nat → Int) : ∀ N, eP A N = pE (fun i => A i i) N
  | 0 => rfl
  | N + 1 => by show eP A N * A N N = pE _ N * A N N; rw [eP_pE A N]
section EHS
variable {f c w : Nat → Int32} {N : Nat} {a b e : Int} {u : Nat → Int} {A : Nat → Nat → Int}
theorem gsm_le {k : Nat} {u v : Nat → Int} : ∀ m, (∀ i, i < m → 0 ≤ wwt f k i) → (∀ i, i < m → wsel f c k i → u (wtg f k i) ≤ v (wtg f k i)) → gsm f c k u m ≤ gsm f c k v m
  | 0, _, _ => Int.le_refl _
  | m + 1, hw, h => by
    show gsm f c k u m + _ ≤ gsm f c k v m + _
    have ih := gsm_le m (fun i hi => hw i (by omega)) (fun i hi => h i (by omega))
    by_cases q : wsel f c k m
    · rw [if_pos q, if_pos q]
      have := Int.mul_le_mul_of_nonneg_left (h m (by omega) q) (hw m (by omega))
      omega
    · rw [if_neg q, if_neg q]; omega
theorem gsm_zero {k : Nat} : ∀ m, gsm f c k (fun _ => 0) m = 0
  | 0 => rfl
  | m + 1 => by
    show gsm f c k _ m + _ = 0
    rw [gsm_zero m]
    by_cases q : wsel f c k m
    · rw [if_pos q]; show 0 + wwt f k m * 0 = 0; omega
    · rw [if_neg q]; omega
/-- what a row makes of numbers for the rows: numbers for the nodes -/
def Yw (w : Nat → Int32) (y : Nat → Rat) : Nat → Rat := fun t => if 0 ≤ (w t).toInt then y (w t).toInt.toNat else 0
theorem Yw1_le (t : Nat) : Yw w (fun _ => 1) t ≤ 1 := by
  unfold Yw
  split
  · exact Rat.le_refl
  · decide
theorem Yw1_nn (t : Nat) : 0 ≤ Yw w (fun _ => 1) t := by
  unfold Yw
  split
  · show (0 : Rat) ≤ 1; decide
  · exact Rat.le_refl
theorem p5_lt {d : Nat} (h : 1 ≤ d) : 0 < 1 - p5 d := by
  have h5 := p5_le h
  have h6 : p5 1 = 1 / 5 := rfl
  rw [h6] at h5
  grind
theorem p5_in (d : Nat) : 1 - p5 d ≤ 1 ∧ 0 ≤ 1 - p5 d := by
  have h5 := p5_pos d
  have h6 := p5_le (Nat.zero_le d)
  have h7 : p5 0 = 1 := rfl
  rw [h7] at h6
  constructor <;> grind
theorem gs_wn (hG : GS f) {k : Nat} (hk : k < 12) : ∀ i, i < wys f k → 0 ≤ wwt f k i := fun i hi => by have := (gs_w1 hG hk hi).1; omega
theorem MAT_sum (hG : GS f) (hR : RWI f c w (f 0).toInt.toNat N) (hM : MAT f c w N a b e u (f 0).toInt.toNat A) {k i : Nat} (hk : k < (f 0).toInt.toNat) (hw : (w k).toInt = (i : Int)) (y : Nat → Rat) :
    pm_s N (eA A) y i = (a : Rat) * gsR f c k (fun _ => 1) (wys f k) * y i - (b : Rat) * gsR f c k (Yw w y) (wys f k) := by
  have h0 := hG.r.1
  have hN := (hR.1 k hk).2
  have hA := hM k hk (by omega)
  rw [show (w k).toInt.toNat = i by omega] at hA
  have hp := gsR_pick (f := f) (c := c) (w := w) (k := k) (N := N) y (wys f k) (fun i2 hi2 => by
    have h1 := (gs_w1 hG (k := k) (by omega) hi2).2.2.1
    exact (hR.1 _ (by omega)).2)
  have hd := pz_m_delta y ((a : Rat) * gsR f c k (fun _ => 1) (wys f k)) i N
  rw [if_pos (by omega)] at hd
  unfold pm_s
  rw [pz_m_congr N (v := fun j => (-(b : Rat)) * (gsR f c k (fun t => (((if (w t).toInt = (j : Int) then 1 else 0 : Int) : Int) : Rat)) (wys f k) * y j) + (if i = j then (a : Rat) * gsR f c k (fun _ => 1) (wys f k) else 0) * y j) (fun j hj => ?_), pz_m_lin, hp, hd]
  · unfold Yw; grind
  · show (A i j : Rat) * y j = _
    rw [hA j (by omega)]
    unfold arow
    rw [if_neg (by omega), Rat.intCast_sub, Rat.intCast_mul, gsR_cast]
    by_cases q : i = j
    · rw [if_pos (by omega), if_pos q, Rat.intCast_mul, gsR_cast]
      show ((a : Rat) * gsR f c k (fun _ => ((1 : Int) : Rat)) (wys f k) - _) * y j = _
      rw [show ((1 : Int) : Rat) = 1 from rfl]
      grind
    · rw [if_neg (by omega), if_neg q, show ((0 : Int) : Rat) = 0 from rfl]
      grind
theorem gs_allR (hG : GS f) {k : Nat} (hk : k < 12) : gsR f c k (fun _ => 1) (wys f k) ≤ 4 ∧ 0 ≤ gsR f c k (fun _ => 1) (wys f k) := by
  have h := gs_all (c := c) hG hk
  have e := gsR_cast (f := f) (c := c) (k := k) (fun _ => 1) (wys f k)
  rw [show ((1 : Int) : Rat) = 1 from rfl] at e
  rw [← e]
  have h4 : gsm f c k (fun _ => 1) (wys f k) ≤ 4 := by
    have := h.1
    split at this <;> omega
  exact ⟨by exact_mod_cast h4, by exact_mod_cast h.2⟩
theorem MAT_EH (hG : GS f) (hR : RWI f c w (f 0).toInt.toNat N) (hM : MAT f c w N a b e u (f 0).toInt.toNat A) (ha : 1 ≤ a ∧ a ≤ 5) (hb : 0 ≤ b ∧ b ≤ a) : EH N A := by
  have h0 := hG.r.1
  have haR : (0 : Rat) < (a : Rat) := by exact_mod_cast (by omega : (0 : Int) < a)
  have hbR : (0 : Rat) ≤ (b : Rat) := by exact_mod_cast hb.1
  have hbaR : (b : Rat) ≤ (a : Rat) := by exact_mod_cast hb.2
  refine ⟨fun i j hi hj hij => ?_, ?_, fun i hi => ?_, ?_⟩
  · obtain ⟨k, hk, e1⟩ := hR.2.1 i hi
    have hA := hM k hk (by omega) j (by omega)
    rw [show (w k).toInt.toNat = i by omega] at hA
    rw [hA]
    unfold arow
    rw [if_neg (by omega), if_neg (by omega)]
    have h1 := gsm_le (f := f) (c := c) (k := k) (u := fun _ => 0) (v := fun t => if (w t).toInt = (j : Int) then 1 else 0) (wys f k) (gs_wn hG (by omega)) (fun i _ _ => by split <;> omega)
    rw [gsm_zero] at h1
    have := Int.mul_nonneg hb.1 h1
    omega
  · obtain ⟨d, hd⟩ := RC_rank f c
    have hx : ∀ j, ∃ r : Nat, j < N → r < (f 0).toInt.toNat ∧ (w r).toInt = (j : Int) := fun j => by
      by_cases q : j < N
      · obtain ⟨k, hk, e1⟩ := hR.2.1 j q
        exact ⟨k, fun _ => ⟨hk, e1⟩⟩
      · exact ⟨0, fun z => absurd z q⟩
    have hrw : ∀ t, t < (f 0).toInt.toNat → 0 ≤ (w t).toInt → (hx (w t).toInt.toNat).choose = t := fun t ht hw => by
      have h1 := (hR.1 t ht).2
      obtain ⟨h2, h3⟩ := (hx (w t).toInt.toNat).choose_spec (by omega)
      exact hR.2.2.1 _ _ h2 ht (by omega) (by omega)
    refine ⟨fun j => 1 - p5 (d (hx j).choose), fun j hj => ?_, fun i hi => ?_⟩
    · obtain ⟨h2, h3⟩ := (hx j).choose_spec hj
      have hS := (hR.1 _ h2).1.mp (by omega)
      obtain ⟨h4, _⟩ := hd _ hS.2 hS.1
      exact p5_lt h4
    · obtain ⟨k, hk, e1⟩ := hR.2.1 i hi
      rw [MAT_sum hG hR hM hk e1]
      have ek := hrw k hk (by omega)
      rw [show (w k).toInt.toNat = i by omega] at ek
      have hS := (hR.1 k hk).1.mp (by omega)
      obtain ⟨h4, j, ⟨i0, hi0, hsel, hto⟩, hRj, hdj⟩ := hd k hS.2 hS.1
      have hi0w : i0 < wys f k := by unfold wys; omega
      have hjw : wtg f k i0 = j := by unfold wtg; omega
      have hjn := (gs_w1 hG (k := k) (by omega) hi0w).2.2.1
      have hle1 : ∀ t, t < (f 0).toInt.toNat → Yw w (fun j => 1 - p5 (d (hx j).choose)) t ≤ 1 ∧ 0 ≤ Yw w (fun j => 1 - p5 (d (hx j).choose)) t := fun t ht => by
        unfold Yw
        by_cases q : 0 ≤ (w t).toInt
        · rw [if_pos q]
          exact p5_in _
        · rw [if_neg q]; constructor <;> decide
      have hq := p5_pos (d k - 1)
      have hgap := gsR_gap (f := f) (c := c) (k := k) (u := Yw w (fun j => 1 - p5 (d (hx j).choose))) (e := p5 (d k - 1)) (i0 := i0) (Rat.le_of_lt hq) hsel (wys f k) hi0w (fun i2 hi2 => (gs_w1 hG (by omega) hi2).1) (fun i2 hi2 _ => (hle1 _ (by have := (gs_w1 hG (k := k) (by omega) hi2).2.2.1; omega)).1) (by
        rw [hjw]
        rw [hjw] at hjn
        unfold Yw
        by_cases q : 0 ≤ (w j).toInt
        · rw [if_pos q]
          show 1 - p5 (d (hx (w j).toInt.toNat).choose) ≤ 1 - p5 (d k - 1)
          rw [hrw j (by omega) q]
          have := p5_le (show d j ≤ d k - 1 by omega)
          clear hM hR hG hle1 hrw hd ek hx
          grind
        · rw [if_neg q]
          exact (p5_in (d k - 1)).2)
      have hnn := gsR_le (f := f) (c := c) (k := k) (u := fun _ => 0) (v := Yw w (fun j => 1 - p5 (d (hx j).choose))) (wys f k) (gs_wn hG (by omega)) (fun i2 hi2 _ => (hle1 _ (by have := (gs_w1 hG (k := k) (by omega) hi2).2.2.1; omega)).2)
      rw [gsR_zero] at hnn
      have hall := gs_allR (c := c) hG (k := k) (by omega)
      rw [ek]
      generalize gsR f c k (Yw w (fun j => 1 - p5 (d (hx j).choose))) (wys f k) = Z at hgap hnn ⊢
      generalize gsR f c k (fun _ => 1) (wys f k) = all at hgap hall ⊢
      have h5 : p5 (d k) = p5 (d k - 1) / 5 := by rw [show d k = (d k - 1) + 1 by omega]; rfl
      rw [h5]
      generalize p5 (d k - 1) = q at hq hgap ⊢
      clear hle1 hrw hd ek hx hM hR hG
      have m1 := Rat.mul_le_mul_of_nonneg_right (c := Z) hbaR hnn
      have m2 := Rat.mul_le_mul_of_nonneg_left (c := (a : Rat)) hgap (Rat.le_of_lt haR)
      have m3 := Rat.mul_le_mul_of_nonneg_right (c := q) hall.1 (Rat.le_of_lt hq)
      have m4 : (a : Rat) * (all * q) ≤ (a : Rat) * (4 * q) := Rat.mul_le_mul_of_nonneg_left m3 (Rat.le_of_lt haR)
      have m5 : 0 < (a : Rat) * q := Rat.mul_pos haR hq
      grind
  · obtain ⟨k, hk, e1⟩ := hR.2.1 i hi
    rw [MAT_sum hG hR hM hk e1]
    have hall := gs_allR (c := c) hG (k := k) (by omega)
    have h1 := gsR_le (f := f) (c := c) (k := k) (u := Yw w (fun _ => 1)) (v := fun _ => 1) (wys f k) (gs_wn hG (by omega)) (fun i2 hi2 _ => Yw1_le _)
    have h2 := gsR_le (f := f) (c := c) (k := k) (u := fun _ => 0) (v := Yw w (fun _ => 1)) (wys f k) (gs_wn hG (by omega)) (fun i2 hi2 _ => Yw1_nn _)
    rw [gsR_zero] at h2
    generalize gsR f c k (Yw w (fun _ => 1)) (wys f k) = Z at h1 h2 ⊢
    generalize gsR f c k (fun _ => 1) (wys f k) = all at h1 hall ⊢
    clear hM hR hG
    have m1 := Rat.mul_le_mul_of_nonneg_right (c := Z) hbaR h2
    have m2 := Rat.mul_le_mul_of_nonneg_left (c := (a : Rat)) h1 (Rat.le_of_lt haR)
    grind
  · rw [eP_pE]
    refine Int.le_trans (hR.2.2.2.2 (fun i => A i i) (fun k hk hw => ?_)) (PD_le hG)
    have hN := (hR.1 k hk).2
    have hA := hM k hk hw (w k).toInt.toNat (by omega)
    show 0 ≤ A _ _ ∧ A _ _ ≤ _
    rw [hA]
    unfold arow
    rw [if_neg (by omega), if_pos (by omega)]
    have hall := gs_all (c := c) hG (k := k) (by omega)
    have h1 := gsm_le (f := f) (c := c) (k := k) (u := fun _ => 0) (v := fun t => if (w t).toInt = (((w k).toInt.toNat : Nat) : Int) then 1 else 0) (wys f k) (gs_wn hG (by omega)) (fun i _ _ => by split <;> omega)
    have h2 := gsm_le (f := f) (c := c) (k := k) (u := fun t => if (w t).toInt = (((w k).toInt.toNat : Nat) : Int) then 1 else 0) (v := fun _ => 1) (wys f k) (gs_wn hG (by omega)) (fun i _ _ => by split <;> omega)
    rw [gsm_zero] at h1
    generalize gsm f c k (fun t => if (w t).toInt = (((w k).toInt.toNat : Nat) : Int) then 1 else 0) (wys f k) = Z at h1 h2 ⊢
    have m1 : b * Z ≤ a * Z := Int.mul_le_mul_of_nonneg_right hb.2 h1
    have m2 : a * Z ≤ a * gsm f c k (fun _ => 1) (wys f k) := Int.mul_le_mul_of_nonneg_left h2 (by omega)
    have m3 := Int.mul_nonneg hb.1 h1
    unfold DK
    by_cases q : (f (1 + k)).toInt = 3
    · rw [if_pos q] at hall
      rw [if_pos q]
      have m4 : a * gsm f c k (fun _ => 1) (wys f k) ≤ 5 * 4 := Int.mul_le_mul ha.2 hall.1 hall.2 (by omega)
      omega
    · rw [if_neg q] at hall
      rw [if_neg q]
      have m4 : a * gsm f c k (fun _ => 1) (wys f k) ≤ 5 * 1 := Int.mul_le_mul ha.2 hall.1 hall.2 (by omega)
      omega
/-- the last column lies within 9 rows' sums, where nothing is added by a move -/
theorem MAT_LOK (hG : GS f) (hR : RWI f c w (f 0).toInt.toNat N) (hM : MAT f c w N a b 0 u (f 0).toInt.toNat A) (hb : 0 ≤ b ∧ b ≤ a) (hu : ∀ t, t < (f 0).toInt.toNat → 0 ≤ u t ∧ u t ≤ 9) : LOK N A := by
  intro i hi
  have h0 := hG.r.1
  have hbR : (0 : Rat) ≤ (b : Rat) := by exact_mod_cast hb.1
  have hbaR : (b : Rat) ≤ (a : Rat) := by exact_mod_cast hb.2
  obtain ⟨k, hk, e1⟩ := hR.2.1 i hi
  rw [MAT_sum hG hR hM hk e1]
  have hA := hM k hk (by omega) N (Nat.le_refl _)
  rw [show (w k).toInt.toNat = i by omega] at hA
  unfold arow at hA
  rw [if_pos rfl, Int.zero_mul, Int.add_zero] at hA
  have hAR : eA A i N = (b : Rat) * gsR f c k (fun t => ((if (w t).toInt < 0 then u t else 0 : Int) : Rat)) (wys f k) := by
    show ((A i N : Int) : Rat) = _
    rw [hA, Rat.intCast_mul, gsR_cast]
  rw [hAR]
  have hall := gs_allR (c := c) hG (k := k) (by omega)
  have htn : ∀ i2, i2 < wys f k → wtg f k i2 < (f 0).toInt.toNat := fun i2 hi2 => by have := (gs_w1 hG (k := k) (by omega) hi2).2.2.1; omega
  have h1 := gsR_le (f := f) (c := c) (k := k) (u := fun t => ((if (w t).toInt < 0 then u t else 0 : Int) : Rat)) (v := fun t => (-9) * Yw w (fun _ => 1) t + 9) (wys f k) (gs_wn hG (by omega)) (fun i2 hi2 _ => by
    have h3 := hu _ (htn i2 hi2)
    unfold Yw
    by_cases q : 0 ≤ (w (wtg f k i2)).toInt
    · rw [if_pos q, if_neg (by omega)]
      show ((0 : Int) : Rat) ≤ -9 * 1 + 9
      rw [show ((0 : Int) : Rat) = 0 from rfl]
      clear hM hR hG hu htn
      grind
    · rw [if_neg q, if_pos (by omega)]
      have : ((u (wtg f k i2) : Int) : Rat) ≤ ((9 : Int) : Rat) := by exact_mod_cast h3.2
      rw [show ((9 : Int) : Rat) = 9 from rfl] at this
      clear hM hR hG hu htn
      grind)
  have h2 := gsR_le (f := f) (c := c) (k := k) (u := fun _ => 0) (v := fun t => ((if (w t).toInt < 0 then u t else 0 : Int) : Rat)) (wys f k) (gs_wn hG (by omega)) (fun i2 hi2 _ => by
    have h3 := hu _ (htn i2 hi2)
    split
    · exact_mod_cast h3.1
    · decide)
  have h3 := gsR_le (f := f) (c := c) (k := k) (u := Yw w (fun _ => 1)) (v := fun _ => 1) (wys f k) (gs_wn hG (by omega)) (fun i2 hi2 _ => Yw1_le _)
  rw [gsR_lin] at h1
  rw [gsR_zero] at h2
  have h9 : gsR f c k (fun _ => 9) (wys f k) = 9 * gsR f c k (fun _ => 1) (wys f k) := by
    have := gsR_lin (f := f) (c := c) (k := k) 9 (fun _ => 1) (fun _ => 0) (wys f k)
    rw [gsR_zero] at this
    rw [show (fun (_ : Nat) => (9 : Rat)) = (fun _ => 9 * 1 + 0) from funext (fun _ => by grind), this]
    grind
  rw [h9] at h1
  generalize gsR f c k (fun t => ((if (w t).toInt < 0 then u t else 0 : Int) : Rat)) (wys f k) = X at h1 h2 ⊢
  generalize gsR f c k (Yw w (fun _ => 1)) (wys f k) = Z at h1 h3 ⊢
  generalize gsR f c k (fun _ => 1) (wys f k) = all at h1 h3 hall ⊢
  clear hM hR hG hu htn
  have m1 := Rat.mul_le_mul_of_nonneg_left (c := (b : Rat)) h1 hbR
  have m2 := Rat.mul_le_mul_of_nonneg_right (c := all) hbaR hall.2
  have m3 := Rat.mul_nonneg hbR h2
  constructor <;> grind
end EHS
