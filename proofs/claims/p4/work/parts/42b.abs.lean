/-! the class's network as a row of numbers -/
def absC (nd : Int32) (kd' py nm wy hd tg wt : Nat → Int32) : Nat → Int := fun j => if j = 0 then nd.toInt else if j < 13 then (kd' (j - 1)).toInt else if j < 25 then (py (j - 13)).toInt else if j < 37 then (wy (j - 25)).toInt else if j < 73 then (tg (j - 37)).toInt else if j < 109 then (wt (j - 73)).toInt else if j < 121 then (hd (j - 109)).toInt else (nm (j - 121)).toInt
theorem absC_0 {nd : Int32} {k y n w h t x : Nat → Int32} : absC nd k y n w h t x 0 = nd.toInt := rfl
theorem absC_k {nd : Int32} {k y n w h t x : Nat → Int32} {p : Nat} (hp : p < 12) : absC nd k y n w h t x (1 + p) = (k p).toInt := by
  unfold absC
  rw [if_neg (by omega), if_pos (by omega), show 1 + p - 1 = p by omega]
theorem absC_y {nd : Int32} {k y n w h t x : Nat → Int32} {p : Nat} (hp : p < 12) : absC nd k y n w h t x (13 + p) = (y p).toInt := by
  unfold absC
  rw [if_neg (by omega), if_neg (by omega), if_pos (by omega), show 13 + p - 13 = p by omega]
theorem absC_w {nd : Int32} {k y n w h t x : Nat → Int32} {p : Nat} (hp : p < 12) : absC nd k y n w h t x (25 + p) = (w p).toInt := by
  unfold absC
  rw [if_neg (by omega), if_neg (by omega), if_neg (by omega), if_pos (by omega), show 25 + p - 25 = p by omega]
theorem absC_t {nd : Int32} {k y n w h t x : Nat → Int32} {p i : Nat} (hp : p < 12) (hi : i < 3) : absC nd k y n w h t x (37 + 3 * p + i) = (t (3 * p + i)).toInt := by
  unfold absC
  rw [if_neg (by omega), if_neg (by omega), if_neg (by omega), if_neg (by omega), if_pos (by omega), show 37 + 3 * p + i - 37 = 3 * p + i by omega]
theorem absC_x {nd : Int32} {k y n w h t x : Nat → Int32} {p i : Nat} (hp : p < 12) (hi : i < 3) : absC nd k y n w h t x (73 + 3 * p + i) = (x (3 * p + i)).toInt := by
  unfold absC
  rw [if_neg (by omega), if_neg (by omega), if_neg (by omega), if_neg (by omega), if_neg (by omega), if_pos (by omega), show 73 + 3 * p + i - 73 = 3 * p + i by omega]
theorem absC_h {nd : Int32} {k y n w h t x : Nat → Int32} {p : Nat} (hp : p < 12) : absC nd k y n w h t x (109 + p) = (h p).toInt := by
  unfold absC
  rw [if_neg (by omega), if_neg (by omega), if_neg (by omega), if_neg (by omega), if_neg (by omega), if_neg (by omega), if_pos (by omega), show 109 + p - 109 = p by omega]
theorem absC_n {nd : Int32} {k y n w h t x : Nat → Int32} (p : Nat) : absC nd k y n w h t x (121 + p) = (n p).toInt := by
  unfold absC
  rw [if_neg (by omega), if_neg (by omega), if_neg (by omega), if_neg (by omega), if_neg (by omega), if_neg (by omega), if_neg (by omega), show 121 + p - 121 = p by omega]
/-- a node that is found in the row of names -/
theorem absC_fd {nd : Int32} {k y n w h t x : Nat → Int32} {v r : Int} (q : FN nd.toInt (fun p => (n p).toInt) v r) : FDn (absC nd k y n w h t x) v r := by
  have e : (fun p => absC nd k y n w h t x (121 + p)) = fun p => (n p).toInt := funext (fun p => absC_n p)
  unfold FDn
  rw [e]; exact q
theorem absC_cn {nd : Int32} {k y n w h t x : Nat → Int32} {z : Int} {m : Nat} (hm : m ≤ 12) : cn (absC nd k y n w h t x) z m = cnf (fun p => (k p).toInt) z m := cnf_congr (fun p hp => absC_k (by omega))
theorem absC_ws {nd : Int32} {k y n w h t x : Nat → Int32} {p m : Nat} (hp : p < 12) (hm : m ≤ 3) : wsum (absC nd k y n w h t x) p m = wsf (fun i => (x (3 * p + i)).toInt) m := wsf_congr (fun i hi => absC_x hp (by omega))
theorem absC_addN {nd nd' c v z a0 am : Int32} {c9 y9 : Int} {k y n w h t x k' y' n' w' h' : Nat → Int32} (h0 : 0 ≤ nd.toInt) (h1 : nd.toInt < 12) (e0 : nd'.toInt = nd.toInt + 1) (ek : k' = upd k nd.toNatClampNeg c) (ey : y' = upd y nd.toNatClampNeg z) (en : n' = upd n nd.toNatClampNeg v) (ew : w' = upd w nd.toNatClampNeg a0) (eh : h' = upd h nd.toNatClampNeg am) (ha : a0.toInt = 0) (hm : am.toInt = -1) (hw : ∀ p : Nat, 0 ≤ (w p).toInt ∧ (w p).toInt ≤ 3) (hc : c.toInt = c9) (hz : z.toInt = y9) : AddN (absC nd k y n w h t x) (absC nd' k' y' n' w' h' t x) c9 v.toInt y9 := by
  have hN : nd.toNatClampNeg = nd.toInt.toNat := rfl
  have hb : nd.toInt.toNat < 12 := by omega
  rw [hN] at ek ey en ew eh
  refine ⟨e0, fun p hp => ?_, ?_, ?_, ?_, ?_, ?_⟩
  · have hp' : (p : Int) < nd.toInt := hp
    have hp2 : p < 12 := by omega
    have ne : p ≠ nd.toInt.toNat := by omega
    refine ⟨?_, ?_, ?_, ?_, ?_, fun i hi => ?_⟩
    · rw [absC_k hp2, absC_k hp2, ek, upd_ne _ _ ne]
    · rw [absC_y hp2, absC_y hp2, ey, upd_ne _ _ ne]
    · rw [absC_w hp2, absC_w hp2, ew, upd_ne _ _ ne]
    · rw [absC_h hp2, absC_h hp2, eh, upd_ne _ _ ne]
    · rw [absC_n, absC_n, en, upd_ne _ _ ne]
    · rw [absC_w hp2] at hi
      have hi2 : i < 3 := by have := (hw p).2; omega
      exact ⟨by rw [absC_t hp2 hi2, absC_t hp2 hi2], by rw [absC_x hp2 hi2, absC_x hp2 hi2]⟩
  · rw [absC_0, absC_k hb, ek, upd_at, hc]
  · rw [absC_0, absC_y hb, ey, upd_at, hz]
  · rw [absC_0, absC_w hb, ew, upd_at, ha]
  · rw [absC_0, absC_h hb, eh, upd_at, hm]
  · rw [absC_0, absC_n, en, upd_at]
theorem absC_addW {nd r q v wv : Int32} {v9 : Int} {i1 : Nat} {k y n w h t x t' x' w' : Nat → Int32} (h1 : nd.toInt ≤ 12) (r0 : 0 ≤ r.toInt) (r1 : r.toInt < nd.toInt) (w0 : 0 ≤ (w r.toInt.toNat).toInt) (w1 : (w r.toInt.toNat).toInt < 3) (hi1 : i1 = 3 * r.toInt.toNat + (w r.toInt.toNat).toInt.toNat) (et : t' = upd t i1 q) (ex : x' = upd x i1 v) (ew : w' = upd w r.toInt.toNat wv) (hv : wv.toInt = (w r.toInt.toNat).toInt + 1) (hw : ∀ p : Nat, 0 ≤ (w p).toInt ∧ (w p).toInt ≤ 3) (hv9 : v.toInt = v9) : AddW (absC nd k y n w h t x) (absC nd k y n w' h t' x') r.toInt q.toInt v9 := by
  have hb : r.toInt.toNat < 12 := by omega
  refine ⟨by rw [absC_0, absC_0], r0, by rw [absC_0]; exact r1, ?_, fun p hp hne => ?_, ?_, ?_, ?_, ?_, ?_, fun i hi => ?_, ?_, ?_⟩
  · rw [absC_w hb]; exact w0
  · have hp' : (p : Int) < nd.toInt := hp
    have hp2 : p < 12 := by omega
    have ne : p ≠ r.toInt.toNat := by omega
    refine ⟨by rw [absC_k hp2, absC_k hp2], by rw [absC_y hp2, absC_y hp2], by rw [absC_w hp2, absC_w hp2, ew, upd_ne _ _ ne], by rw [absC_h hp2, absC_h hp2], by rw [absC_n, absC_n], fun i hi => ?_⟩
    rw [absC_w hp2] at hi
    have hi2 : i < 3 := by have := (hw p).2; omega
    have ni : 3 * p + i ≠ i1 := by omega
    exact ⟨by rw [absC_t hp2 hi2, absC_t hp2 hi2, et, upd_ne _ _ ni], by rw [absC_x hp2 hi2, absC_x hp2 hi2, ex, upd_ne _ _ ni]⟩
  · rw [absC_k hb, absC_k hb]
  · rw [absC_y hb, absC_y hb]
  · rw [absC_h hb, absC_h hb]
  · rw [absC_n, absC_n]
  · rw [absC_w hb, absC_w hb, ew, upd_at, hv]
  · rw [absC_w hb] at hi
    have hi2 : i < 3 := by omega
    have ni : 3 * r.toInt.toNat + i ≠ i1 := by omega
    exact ⟨by rw [absC_t hb hi2, absC_t hb hi2, et, upd_ne _ _ ni], by rw [absC_x hb hi2, absC_x hb hi2, ex, upd_ne _ _ ni]⟩
  · rw [absC_w hb, absC_t hb (by omega), et, ← hi1, upd_at]
  · rw [absC_w hb, absC_x hb (by omega), ex, ← hi1, upd_at, hv9]
def LKc (nd : Int) (k w : Nat → Int32) : Prop := ∃ p : Nat, (p : Int) < nd ∧ (k p).toInt ≠ 0 ∧ (w p).toInt = 0
/-- how many nodes there can be -/
def BDn (a : Nat → Int) : Prop := 0 ≤ a 0 ∧ cn a 0 (a 0).toNat ≤ 4 ∧ a 0 - cn a 0 (a 0).toNat ≤ 8 ∧ ∀ p : Nat, (p : Int) < a 0 → 0 ≤ a (25 + p) ∧ a (25 + p) ≤ 3
theorem cn_succ (a : Nat → Int) (k : Int) (n : Nat) : cn a k (n + 1) = cn a k n + if a (1 + n) = k then 1 else 0 := rfl
theorem BDn.addN {a a' : Nat → Int} {k v y : Int} (h : BDn a) (nf : ¬ FULL a k) (q : AddN a a' k v y) : BDn a' := by
  obtain ⟨q0, q1, q2, q3, q4, q5, q6⟩ := q
  obtain ⟨b0, b1, b2, b3⟩ := h
  have e : (a' 0).toNat = (a 0).toNat + 1 := by omega
  have c : cn a' 0 (a 0).toNat = cn a 0 (a 0).toNat := cn_congr (fun p hp => (q1 p (by omega)).1.symm)
  have nf' : ¬ (k = 0 ∧ 4 ≤ cn a 0 (a 0).toNat) ∧ ¬ (k ≠ 0 ∧ 8 ≤ a 0 - cn a 0 (a 0).toNat) := ⟨fun z => nf (Or.inl z), fun z => nf (Or.inr ⟨z.1, Or.inl z.2⟩)⟩
  refine ⟨by omega, ?_, ?_, fun p hp => ?_⟩
  · rw [e, cn_succ, c, q2]
    by_cases z : k = 0
    · rw [if_pos z]; omega
    · rw [if_neg z]; omega
  · rw [e, cn_succ, c, q2]
    by_cases z : k = 0
    · rw [if_pos z]; omega
    · rw [if_neg z]; omega
  · by_cases z : (p : Int) < a 0
    · have s := (q1 p z).2.2.1
      rw [← s]; exact b3 p z
    · have : p = (a 0).toNat := by omega
      subst this
      rw [q4]; omega
theorem BDn.addW {a a' : Nat → Int} {r q w : Int} (h : BDn a) (hr : a (25 + r.toNat) < 3) (x : AddW a a' r q w) : BDn a' := by
  obtain ⟨x0, x1, x2, x3, x4, x5, x6, x7, x8, x9, x10, x11, x12⟩ := x
  obtain ⟨b0, b1, b2, b3⟩ := h
  have c : cn a' 0 (a 0).toNat = cn a 0 (a 0).toNat := cn_congr (fun p hp => by
    by_cases z : (p : Int) = r
    · have : p = r.toNat := by omega
      subst this; exact x5
    · exact (x4 p (by omega) z).1.symm)
  refine ⟨by omega, by rw [x0, c]; exact b1, by rw [x0, c]; exact b2, fun p hp => ?_⟩
  by_cases z : (p : Int) = r
  · have : p = r.toNat := by omega
    subst this
    rw [x9]; omega
  · have s := (x4 p (by omega) z).2.2.1
    rw [← s]; exact b3 p (by omega)
theorem BDn.line {g : Nat → Int} {t : Int} {j e : Nat} {v : Int} {a : Nat → Int} {t' : Int} {j' e' : Nat} {v' : Int} {a' : Nat → Int} (h : BDn a) (q : LOk g t j e v a t' j' e' v' a') : BDn a' := by
  obtain ⟨-, t1, j1, e1, v1, c, -, -⟩ := q
  rcases c with ⟨-, -, nf, u1, i1, f1, w1, -, -, -, u2, i2, f2, w2, -, c⟩ | ⟨-, u1, i1, f1, w1, r1, -, -, -, -, -, hw3, u2, i2, f2, w2, r2, -, -, -, -, u3, i3, f3, w3, -, c⟩
  · rcases c with ⟨-, c, -⟩ | ⟨k0, -, -, -, c⟩
    · exact h.addN nf c
    · rw [k0] at nf; exact h.addN nf c
  · rcases c with ⟨-, -, -, -, -, -, c⟩ | ⟨-, -, -, -, c⟩ | ⟨-, -, c⟩
    · exact h.addW hw3 c
    · exact h.addW hw3 c
    · exact h.addW hw3 c
theorem RCH.bd {g : Nat → Int} : ∀ {k : Nat} {t : Int} {j e : Nat} {v : Int} {a : Nat → Int}, RCH g k t j e v a → BDn a
  | 0, _, _, _, _, a, x => by
    have h0 := x.2
    refine ⟨by omega, ?_, ?_, fun p hp => by omega⟩
    · rw [h0]; show (0 : Int) ≤ 4; decide
    · rw [h0]; show (0 : Int) - 0 ≤ 8; decide
  | _ + 1, _, _, _, _, _, x => by
    obtain ⟨_, _, _, _, _, x1, -, x3⟩ := x
    exact (RCH.bd x1).line x3
/-- the five words' numbers in the class -/
def KWs (f : Nat → Int32) : Prop := (f 0).toInt = 4027 ∧ (f 1).toInt = 9528 ∧ (f 2).toInt = 9734 ∧ (f 3).toInt = 47328224
def kd3 (v : Int) : Int := if v = 4027 then 0 else if v = 9528 then 1 else if v = 9734 then 2 else if v = 47328224 then 3 else -1
theorem kd3_rng (v : Int) : -1 ≤ kd3 v ∧ kd3 v ≤ 3 := by
  unfold kd3; repeat' split
  all_goals omega
theorem kd_kd3 (v : Int) (h : kd3 v ≠ -1) : kd v = kd3 v := by
  unfold kd3 at h ⊢; unfold kd
  repeat' split
  all_goals first | rfl | omega | (exfalso; simp_all)
theorem kd_way {v : Int} (h : v = 16819) : kd v = 4 := by subst h; decide
theorem kd_none {v : Int} (h : kd3 v = -1) (h2 : v ≠ 16819) : kd v = -1 := by
  unfold kd3 at h; unfold kd
  repeat' split
  all_goals first | rfl | omega | (exfalso; simp_all)
theorem nmc_no3 {t v : Int} (h : kd3 v ≠ -1) : ¬ NMC t v := fun q => by
  have e := kd_kd3 v h
  have := kd3_rng v
  have := q.2
  omega
theorem nmc_noW {t v : Int} (h : v = 16819) : ¬ NMC t v := fun q => by
  have e := kd_way h
  have := q.2
  omega
theorem BDn.lt {a : Nat → Int} {k : Int} (h : BDn a) (nf : ¬ FULL a k) : a 0 ≤ 11 := by
  obtain ⟨b0, b1, b2, b3⟩ := h
  have nf' : ¬ (k = 0 ∧ 4 ≤ cn a 0 (a 0).toNat) ∧ ¬ (k ≠ 0 ∧ 8 ≤ a 0 - cn a 0 (a 0).toNat) := ⟨fun z => nf (Or.inl z), fun z => nf (Or.inr ⟨z.1, Or.inl z.2⟩)⟩
  by_cases z : k = 0
  · omega
  · omega
def FLk (nd : Int) (k : Nat → Int32) (c : Int) : Prop := (c = 0 ∧ 4 ≤ cnf (fun p => (k p).toInt) 0 nd.toNat) ∨ (c ≠ 0 ∧ (8 ≤ nd - cnf (fun p => (k p).toInt) 0 nd.toNat ∨ (c = 3 ∧ 5 ≤ cnf (fun p => (k p).toInt) 3 nd.toNat)))
theorem absC_full {nd : Int32} {k y n w h t x : Nat → Int32} {c : Int} (h1 : nd.toInt ≤ 12) : FLk nd.toInt k c ↔ FULL (absC nd k y n w h t x) c := by
  have e : ∀ z : Int, cn (absC nd k y n w h t x) z nd.toInt.toNat = cnf (fun p => (k p).toInt) z nd.toInt.toNat := fun z => absC_cn (by omega)
  unfold FLk FULL
  rw [absC_0, e 0, e 3]
theorem absC_lack {nd : Int32} {k y n w h t x : Nat → Int32} (h1 : nd.toInt ≤ 12) : LKc nd.toInt k w ↔ LACK (absC nd k y n w h t x) := by
  constructor
  · rintro ⟨p, a, b, c⟩
    exact ⟨p, a, by rw [absC_k (by omega)]; exact b, by rw [absC_w (by omega)]; exact c⟩
  · rintro ⟨p, a, b, c⟩
    have a' : (p : Int) < nd.toInt := a
    exact ⟨p, a, by rw [absC_k (by omega)] at b; exact b, by rw [absC_w (by omega)] at c; exact c⟩
theorem absC_hwr {nd r : Int32} {k y n w h t x : Nat → Int32} (hb : BW (absC nd k y n w h t x)) (h1 : nd.toInt ≤ 12) (r0 : 0 ≤ r.toInt) (r1 : r.toInt < nd.toInt) (hw : ∀ p : Nat, 0 ≤ (w p).toInt ∧ (w p).toInt ≤ 3) : ∀ i : Nat, (i : Int) < (w r.toInt.toNat).toInt → 0 ≤ (x (3 * r.toInt.toNat + i)).toInt ∧ (x (3 * r.toInt.toNat + i)).toInt ≤ 3 := fun i hi => by
  have q := hb r.toInt.toNat (by rw [absC_0]; omega) i (by rw [absC_w (by omega)]; exact hi)
  have hi3 : i < 3 := by have := (hw r.toInt.toNat).2; omega
  rw [absC_x (by omega) hi3] at q; exact q
