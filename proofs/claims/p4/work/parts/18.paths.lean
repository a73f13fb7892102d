/-! the ways through a line, one by one -/
theorem nok_in {g : Nat → Int} {e : Nat} {a a' : Nat → Int} {k : Int} {t1 : Int} {j1 e1 : Nat} {v1 : Int} {t2 : Int} {j2 e2 : Nat} {v2 : Int} (nf : ¬ FULL a k) (h1 : TK g e t1 j1 e1 v1) (n1 : NMC t1 v1) {r : Int} (fd : FDn a v1 r) (hr : r = -1) (h2 : TK g e1 t2 j2 e2 v2) (k0 : k ≠ 0) (ad : AddN a a' k v1 0) : NOk g e a k a' t2 j2 e2 v2 := by
  refine ⟨nf, t1, j1, e1, v1, h1, n1, ?_, t2, j2, e2, v2, h2, Or.inl ⟨k0, ad, h2⟩⟩
  rcases fd with ⟨q, _⟩ | ⟨_, q⟩
  · omega
  · exact q
theorem nok_end {g : Nat → Int} {e : Nat} {a a' : Nat → Int} {k : Int} {t1 : Int} {j1 e1 : Nat} {v1 : Int} {t2 : Int} {j2 e2 : Nat} {v2 : Int} {t3 : Int} {j3 e3 : Nat} {v3 : Int} (nf : ¬ FULL a k) (h1 : TK g e t1 j1 e1 v1) (n1 : NMC t1 v1) {r : Int} (fd : FDn a v1 r) (hr : r = -1) (h2 : TK g e1 t2 j2 e2 v2) (k0 : k = 0) (t0 : t2 = 2) (v0 : v2 ≤ 9) (h3 : TK g e2 t3 j3 e3 v3) (ad : AddN a a' 0 v1 v2) : NOk g e a k a' t3 j3 e3 v3 := by
  refine ⟨nf, t1, j1, e1, v1, h1, n1, ?_, t2, j2, e2, v2, h2, Or.inr ⟨k0, t0, v0, h3, ad⟩⟩
  rcases fd with ⟨q, _⟩ | ⟨_, q⟩
  · omega
  · exact q
theorem nfl_full {g : Nat → Int} {pl e : Nat} {a : Nat → Int} {k P : Int} (h : FULL a k) (hP : P = pl) : NFl g pl e a k P := Or.inl ⟨h, hP⟩
theorem nfl_name {g : Nat → Int} {pl e : Nat} {a : Nat → Int} {k P : Int} {t1 : Int} {j1 e1 : Nat} {v1 : Int} (nf : ¬ FULL a k) (h1 : TK g e t1 j1 e1 v1) (n1 : ¬ NMC t1 v1) (hP : P = j1) : NFl g pl e a k P := Or.inr ⟨nf, t1, j1, e1, v1, h1, Or.inl ⟨n1, hP⟩⟩
theorem nfl_twice {g : Nat → Int} {pl e : Nat} {a : Nat → Int} {k P : Int} {t1 : Int} {j1 e1 : Nat} {v1 : Int} (nf : ¬ FULL a k) (h1 : TK g e t1 j1 e1 v1) (n1 : NMC t1 v1) {r : Int} (fd : FDn a v1 r) (hr : r ≠ -1) (hP : P = j1) : NFl g pl e a k P := by
  refine Or.inr ⟨nf, t1, j1, e1, v1, h1, Or.inr (Or.inl ⟨n1, ?_, hP⟩)⟩
  rcases fd with ⟨q, w, x, _⟩ | ⟨q, _⟩
  · exact ⟨r.toNat, by omega, x⟩
  · exact absurd q hr
theorem nfl_pay {g : Nat → Int} {pl e : Nat} {a : Nat → Int} {k P : Int} {t1 : Int} {j1 e1 : Nat} {v1 : Int} {t2 : Int} {j2 e2 : Nat} {v2 : Int} (nf : ¬ FULL a k) (h1 : TK g e t1 j1 e1 v1) (n1 : NMC t1 v1) {r : Int} (fd : FDn a v1 r) (hr : r = -1) (k0 : k = 0) (h2 : TK g e1 t2 j2 e2 v2) (h : t2 ≠ 2 ∨ 9 < v2) (hP : P = j2) : NFl g pl e a k P := by
  refine Or.inr ⟨nf, t1, j1, e1, v1, h1, Or.inr (Or.inr ⟨n1, ?_, k0, t2, j2, e2, v2, h2, h, hP⟩)⟩
  rcases fd with ⟨q, _⟩ | ⟨_, q⟩
  · omega
  · exact q
/-- a way's first half and its second half -/
def WS1 (g : Nat → Int) (e : Nat) (a : Nat → Int) (r t : Int) (j e' : Nat) (v : Int) : Prop := TK g e t j e' v ∧ NMC t v ∧ FDn a v r ∧ 0 ≤ r ∧ a (1 + r.toNat) ≠ 0 ∧ a (25 + r.toNat) < 3
def WT1 (g : Nat → Int) (e1 : Nat) (a : Nat → Int) (r1 : Int) (a' : Nat → Int) (t' : Int) (j' e' : Nat) (v' : Int) : Prop :=
  ∃ (t2 : Int) (j2 e2 : Nat) (v2 r2 : Int), TK g e1 t2 j2 e2 v2 ∧ NMC t2 v2 ∧ FDn a v2 r2 ∧ 0 ≤ r2 ∧
  ∃ (t3 : Int) (j3 e3 : Nat) (v3 : Int), TK g e2 t3 j3 e3 v3 ∧
    ((a (1 + r1.toNat) = 3 ∧ t3 = 2 ∧ 1 ≤ v3 ∧ v3 ≤ 3 ∧ wsum a r1.toNat (a (25 + r1.toNat)).toNat + v3 ≤ 4 ∧ TK g e3 t' j' e' v' ∧ AddW a a' r1 r2 v3) ∨
     (a (1 + r1.toNat) = 3 ∧ t3 ≠ 2 ∧ wsum a r1.toNat (a (25 + r1.toNat)).toNat < 4 ∧ TK g e2 t' j' e' v' ∧ AddW a a' r1 r2 1) ∨
     (a (1 + r1.toNat) ≠ 3 ∧ TK g e2 t' j' e' v' ∧ AddW a a' r1 r2 1))
def WTF (g : Nat → Int) (e1 : Nat) (a : Nat → Int) (r1 P : Int) : Prop :=
  ∃ (t2 : Int) (j2 e2 : Nat) (v2 : Int), TK g e1 t2 j2 e2 v2 ∧ ((¬ NMC t2 v2 ∧ P = j2) ∨ (NMC t2 v2 ∧ ∃ r2 : Int, FDn a v2 r2 ∧ ((r2 < 0 ∧ P = j2) ∨ (0 ≤ r2 ∧
  ∃ (t3 : Int) (j3 e3 : Nat) (v3 : Int), TK g e2 t3 j3 e3 v3 ∧
    ((a (1 + r1.toNat) = 3 ∧ t3 = 2 ∧ ¬ (1 ≤ v3 ∧ v3 ≤ 3 ∧ wsum a r1.toNat (a (25 + r1.toNat)).toNat + v3 ≤ 4) ∧ P = j3) ∨
     (a (1 + r1.toNat) = 3 ∧ t3 ≠ 2 ∧ 4 ≤ wsum a r1.toNat (a (25 + r1.toNat)).toNat ∧ P = j2) ∨
     (a (1 + r1.toNat) ≠ 3 ∧ t3 = 2 ∧ P = j3))))))
theorem wok_of {g : Nat → Int} {e : Nat} {a a' : Nat → Int} {r t1 : Int} {j1 e1 : Nat} {v1 t' : Int} {j' e' : Nat} {v' : Int} (h : WS1 g e a r t1 j1 e1 v1) (q : WT1 g e1 a r a' t' j' e' v') : WyOk g e a a' t' j' e' v' := ⟨t1, j1, e1, v1, r, h.1, h.2.1, h.2.2.1, h.2.2.2.1, h.2.2.2.2.1, h.2.2.2.2.2, q⟩
theorem wfl_of {g : Nat → Int} {e : Nat} {a : Nat → Int} {r t1 : Int} {j1 e1 : Nat} {v1 P : Int} (h : WS1 g e a r t1 j1 e1 v1) (q : WTF g e1 a r P) : WFl g e a P := ⟨t1, j1, e1, v1, h.1, Or.inr ⟨h.2.1, r, h.2.2.1, Or.inr ⟨h.2.2.2.1, h.2.2.2.2.1, h.2.2.2.2.2, q⟩⟩⟩
theorem wfl_name {g : Nat → Int} {e : Nat} {a : Nat → Int} {t1 : Int} {j1 e1 : Nat} {v1 P : Int} (h1 : TK g e t1 j1 e1 v1) (n1 : ¬ NMC t1 v1) (hP : P = j1) : WFl g e a P := ⟨t1, j1, e1, v1, h1, Or.inl ⟨n1, hP⟩⟩
theorem wfl_from {g : Nat → Int} {e : Nat} {a : Nat → Int} {t1 : Int} {j1 e1 : Nat} {v1 P r : Int} (h1 : TK g e t1 j1 e1 v1) (n1 : NMC t1 v1) (fd : FDn a v1 r) (h : r < 0 ∨ a (1 + r.toNat) = 0 ∨ 3 ≤ a (25 + r.toNat)) (hP : P = j1) : WFl g e a P := ⟨t1, j1, e1, v1, h1, Or.inr ⟨n1, r, fd, Or.inl ⟨h, hP⟩⟩⟩
theorem wtf_name {g : Nat → Int} {e : Nat} {a : Nat → Int} {r t2 : Int} {j2 e2 : Nat} {v2 P : Int} (h : TK g e t2 j2 e2 v2) (n : ¬ NMC t2 v2) (hP : P = j2) : WTF g e a r P := ⟨t2, j2, e2, v2, h, Or.inl ⟨n, hP⟩⟩
theorem wtf_to {g : Nat → Int} {e : Nat} {a : Nat → Int} {r t2 : Int} {j2 e2 : Nat} {v2 P r2 : Int} (h : TK g e t2 j2 e2 v2) (n : NMC t2 v2) (fd : FDn a v2 r2) (h0 : r2 < 0) (hP : P = j2) : WTF g e a r P := ⟨t2, j2, e2, v2, h, Or.inr ⟨n, r2, fd, Or.inl ⟨h0, hP⟩⟩⟩
/-- all that a chance node has is given out: one way or the other, the fault is at the second name -/
theorem wtf_all {g : Nat → Int} {e : Nat} {a : Nat → Int} {r t2 : Int} {j2 e2 : Nat} {v2 P r2 : Int} {t3 : Int} {j3 e3 : Nat} {v3 : Int} (h : TK g e t2 j2 e2 v2) (n : NMC t2 v2) (fd : FDn a v2 r2) (h3 : TK g e2 t3 j3 e3 v3) (kc : a (1 + r.toNat) = 3) (t0 : t3 ≠ 2) (ws : 4 ≤ wsum a r.toNat (a (25 + r.toNat)).toNat) (hP : P = j2) : WTF g e a r P := by
  by_cases h0 : r2 < 0
  · exact wtf_to h n fd h0 hP
  · exact ⟨t2, j2, e2, v2, h, Or.inr ⟨n, r2, fd, Or.inr ⟨by omega, t3, j3, e3, v3, h3, Or.inr (Or.inl ⟨kc, t0, ws, hP⟩)⟩⟩⟩
theorem wtf_weight {g : Nat → Int} {e : Nat} {a : Nat → Int} {r t2 : Int} {j2 e2 : Nat} {v2 P r2 : Int} {t3 : Int} {j3 e3 : Nat} {v3 : Int} (h : TK g e t2 j2 e2 v2) (n : NMC t2 v2) (fd : FDn a v2 r2) (h0 : 0 ≤ r2) (h3 : TK g e2 t3 j3 e3 v3) (kc : a (1 + r.toNat) = 3) (t0 : t3 = 2) (ws : ¬ (1 ≤ v3 ∧ v3 ≤ 3 ∧ wsum a r.toNat (a (25 + r.toNat)).toNat + v3 ≤ 4)) (hP : P = j3) : WTF g e a r P := ⟨t2, j2, e2, v2, h, Or.inr ⟨n, r2, fd, Or.inr ⟨h0, t3, j3, e3, v3, h3, Or.inl ⟨kc, t0, ws, hP⟩⟩⟩⟩
theorem wtf_sure {g : Nat → Int} {e : Nat} {a : Nat → Int} {r t2 : Int} {j2 e2 : Nat} {v2 P r2 : Int} {t3 : Int} {j3 e3 : Nat} {v3 : Int} (h : TK g e t2 j2 e2 v2) (n : NMC t2 v2) (fd : FDn a v2 r2) (h0 : 0 ≤ r2) (h3 : TK g e2 t3 j3 e3 v3) (kc : a (1 + r.toNat) ≠ 3) (t0 : t3 = 2) (hP : P = j3) : WTF g e a r P := ⟨t2, j2, e2, v2, h, Or.inr ⟨n, r2, fd, Or.inr ⟨h0, t3, j3, e3, v3, h3, Or.inr (Or.inr ⟨kc, t0, hP⟩)⟩⟩⟩
theorem wt_weight {g : Nat → Int} {e : Nat} {a a' : Nat → Int} {r t2 : Int} {j2 e2 : Nat} {v2 r2 : Int} {t3 : Int} {j3 e3 : Nat} {v3 t' : Int} {j' e' : Nat} {v' : Int} (h : TK g e t2 j2 e2 v2) (n : NMC t2 v2) (fd : FDn a v2 r2) (h0 : 0 ≤ r2) (h3 : TK g e2 t3 j3 e3 v3) (kc : a (1 + r.toNat) = 3) (t0 : t3 = 2) (v0 : 1 ≤ v3) (v1 : v3 ≤ 3) (ws : wsum a r.toNat (a (25 + r.toNat)).toNat + v3 ≤ 4) (h4 : TK g e3 t' j' e' v') (ad : AddW a a' r r2 v3) : WT1 g e a r a' t' j' e' v' := ⟨t2, j2, e2, v2, r2, h, n, fd, h0, t3, j3, e3, v3, h3, Or.inl ⟨kc, t0, v0, v1, ws, h4, ad⟩⟩
theorem wt_one {g : Nat → Int} {e : Nat} {a a' : Nat → Int} {r t2 : Int} {j2 e2 : Nat} {v2 r2 : Int} {t3 : Int} {j3 e3 : Nat} {v3 : Int} (h : TK g e t2 j2 e2 v2) (n : NMC t2 v2) (fd : FDn a v2 r2) (h0 : 0 ≤ r2) (h3 : TK g e2 t3 j3 e3 v3) (kc : a (1 + r.toNat) = 3) (t0 : t3 ≠ 2) (ws : wsum a r.toNat (a (25 + r.toNat)).toNat < 4) (ad : AddW a a' r r2 1) : WT1 g e a r a' t3 j3 e3 v3 := ⟨t2, j2, e2, v2, r2, h, n, fd, h0, t3, j3, e3, v3, h3, Or.inr (Or.inl ⟨kc, t0, ws, h3, ad⟩)⟩
theorem wt_sure {g : Nat → Int} {e : Nat} {a a' : Nat → Int} {r t2 : Int} {j2 e2 : Nat} {v2 r2 : Int} {t3 : Int} {j3 e3 : Nat} {v3 : Int} (h : TK g e t2 j2 e2 v2) (n : NMC t2 v2) (fd : FDn a v2 r2) (h0 : 0 ≤ r2) (h3 : TK g e2 t3 j3 e3 v3) (kc : a (1 + r.toNat) ≠ 3) (ad : AddW a a' r r2 1) : WT1 g e a r a' t3 j3 e3 v3 := ⟨t2, j2, e2, v2, r2, h, n, fd, h0, t3, j3, e3, v3, h3, Or.inr (Or.inr ⟨kc, h3, ad⟩)⟩
theorem lok_node {g : Nat → Int} {t : Int} {j e : Nat} {v : Int} {a : Nat → Int} {k t1 : Int} {j1 e1 : Nat} {v1 t' : Int} {j' e' : Nat} {v' : Int} {a' : Nat → Int} (ht : t = 1) (hk : kd v = k) (k0 : 0 ≤ k) (k1 : k ≤ 3) (n : NOk g e a k a' t1 j1 e1 v1) (t3 : t1 = 3) (h : TK g e1 t' j' e' v') : LOk g t j e v a t' j' e' v' a' := by
  subst hk; exact ⟨ht, t1, j1, e1, v1, Or.inl ⟨k0, k1, n⟩, t3, h⟩
theorem lok_way {g : Nat → Int} {t : Int} {j e : Nat} {v : Int} {a : Nat → Int} {t1 : Int} {j1 e1 : Nat} {v1 t' : Int} {j' e' : Nat} {v' : Int} {a' : Nat → Int} (ht : t = 1) (hk : kd v = 4) (n : WyOk g e a a' t1 j1 e1 v1) (t3 : t1 = 3) (h : TK g e1 t' j' e' v') : LOk g t j e v a t' j' e' v' a' := ⟨ht, t1, j1, e1, v1, Or.inr ⟨hk, n⟩, t3, h⟩
theorem lfl_word {g : Nat → Int} {t : Int} {j e : Nat} {v : Int} {a : Nat → Int} {P : Int} (h : t ≠ 1 ∨ kd v = -1) (hP : P = j) : LFl g t j e v a P := Or.inl ⟨h, hP⟩
theorem lfl_node {g : Nat → Int} {t : Int} {j e : Nat} {v : Int} {a : Nat → Int} {k P : Int} (ht : t = 1) (hk : kd v = k) (k0 : 0 ≤ k) (k1 : k ≤ 3) (n : NFl g j e a k P) : LFl g t j e v a P := by
  subst hk; exact Or.inr ⟨ht, Or.inl ⟨k0, k1, Or.inl n⟩⟩
theorem lfl_nodeS {g : Nat → Int} {t : Int} {j e : Nat} {v : Int} {a : Nat → Int} {k P t1 : Int} {j1 e1 : Nat} {v1 : Int} {a' : Nat → Int} (ht : t = 1) (hk : kd v = k) (k0 : 0 ≤ k) (k1 : k ≤ 3) (n : NOk g e a k a' t1 j1 e1 v1) (t3 : t1 ≠ 3) (hP : P = j1) : LFl g t j e v a P := by
  subst hk; exact Or.inr ⟨ht, Or.inl ⟨k0, k1, Or.inr ⟨a', t1, j1, e1, v1, n, t3, hP⟩⟩⟩
theorem lfl_way {g : Nat → Int} {t : Int} {j e : Nat} {v : Int} {a : Nat → Int} {P : Int} (ht : t = 1) (hk : kd v = 4) (n : WFl g e a P) : LFl g t j e v a P := Or.inr ⟨ht, Or.inr ⟨hk, Or.inl n⟩⟩
theorem lfl_wayS {g : Nat → Int} {t : Int} {j e : Nat} {v : Int} {a : Nat → Int} {P t1 : Int} {j1 e1 : Nat} {v1 : Int} {a' : Nat → Int} (ht : t = 1) (hk : kd v = 4) (n : WyOk g e a a' t1 j1 e1 v1) (t3 : t1 ≠ 3) (hP : P = j1) : LFl g t j e v a P := Or.inr ⟨ht, Or.inr ⟨hk, Or.inr ⟨a', t1, j1, e1, v1, n, t3, hP⟩⟩⟩
/-- each line goes on -/
theorem NOk.on {g : Nat → Int} {e : Nat} {a a' : Nat → Int} {k t : Int} {j f : Nat} {v : Int} (h : NOk g e a k a' t j f v) : e ≤ j := by
  obtain ⟨-, t1, j1, e1, v1, h1, n1, -, t2, j2, e2, v2, h2, c⟩ := h
  have p1 := h1.place
  have o1 := h1.on (Or.inl n1.1)
  rcases c with ⟨-, -, h3⟩ | ⟨-, q, -, h3, -⟩
  · have p3 := h3.place
    omega
  · have p2 := h2.place
    have o2 := h2.on (Or.inr (Or.inl q))
    have p3 := h3.place
    omega
theorem WyOk.on {g : Nat → Int} {e : Nat} {a a' : Nat → Int} {t : Int} {j f : Nat} {v : Int} (h : WyOk g e a a' t j f v) : e ≤ j := by
  obtain ⟨t1, j1, e1, v1, r1, xa, xb, -, -, -, -, t2, j2, e2, v2, r2, xg, xh, -, -, t3, j3, e3, v3, xk, xl⟩ := h
  have p1 := xa.place
  have o1 := xa.on (Or.inl xb.1)
  have p2 := xg.place
  have o2 := xg.on (Or.inl xh.1)
  rcases xl with ⟨-, c2, -, -, -, c6, -⟩ | ⟨-, -, -, c4, -⟩ | ⟨-, c2, -⟩
  · have p3 := xk.place
    have o3 := xk.on (Or.inr (Or.inl c2))
    have p4 := c6.place
    omega
  · have p4 := c4.place
    omega
  · have p4 := c2.place
    omega
theorem RCH.tk {g : Nat → Int} : ∀ {k : Nat} {t : Int} {j e : Nat} {v : Int} {a : Nat → Int}, RCH g k t j e v a → (∃ i : Nat, TK g i t j e v) ∧ k ≤ j
  | 0, _, _, _, _, _, x => ⟨⟨0, x.1⟩, Nat.zero_le _⟩
  | k + 1, _, _, _, _, _, x => by
    obtain ⟨t0, j0, e0, v0, a0, x1, -, x3⟩ := x
    obtain ⟨⟨i, q⟩, hk⟩ := RCH.tk x1
    obtain ⟨y0, t1, j1, e1, v1, c, y3, y4⟩ := x3
    refine ⟨⟨e1, y4⟩, ?_⟩
    have o0 := q.on (Or.inl y0)
    have p4 := y4.place
    have le : e0 ≤ j1 := by
      rcases c with ⟨-, -, c⟩ | ⟨-, c⟩
      · exact c.on
      · exact c.on
    have o1 : j1 < e1 := by
      rcases c with ⟨-, -, -, u1, i1, f1, w1, -, -, -, u2, i2, f2, w2, h2, c⟩ | ⟨-, u1, i1, f1, w1, r1, -, -, -, -, -, -, u2, i2, f2, w2, r2, -, -, -, -, u3, i3, f3, w3, -, c⟩
      · rcases c with ⟨-, -, h3⟩ | ⟨-, -, -, h3, -⟩
        · exact h3.on (Or.inr (Or.inr y3))
        · exact h3.on (Or.inr (Or.inr y3))
      · rcases c with ⟨-, -, -, -, -, h3, -⟩ | ⟨-, -, -, h3, -⟩ | ⟨-, h3, -⟩
        · exact h3.on (Or.inr (Or.inr y3))
        · exact h3.on (Or.inr (Or.inr y3))
        · exact h3.on (Or.inr (Or.inr y3))
    omega
/-- a token stands at a sign of the tape -/
theorem TK.sign {g : Nat → Int} {i : Nat} {t : Int} {j e : Nat} {v : Int} (h : TK g i t j e v) (h0 : t ≠ 0) : g j ≠ -1 := by
  rcases h.2 with ⟨_, q, _⟩ | ⟨q, _, _⟩ | ⟨q, _⟩ | ⟨q, _⟩
  · exact absurd q h0
  · omega
  · exact q
  · unfold ltr dgt at q; omega
theorem RCH.lt {f : Nat → Int32} {z : Int} {k : Nat} {t : Int} {j e : Nat} {v : Int} {a : Nat → Int} (h : RCH (bg f z) k t j e v a) (h0 : t ≠ 0) : (k : Int) < z := by
  obtain ⟨⟨i, q⟩, hk⟩ := h.tk
  have := bg_lt (q.sign h0)
  omega
/-- weights of ways that are told -/
def BW (a : Nat → Int) : Prop := ∀ p : Nat, (p : Int) < a 0 → ∀ i : Nat, (i : Int) < a (25 + p) → 0 ≤ a (73 + 3 * p + i) ∧ a (73 + 3 * p + i) ≤ 3
theorem BW.addN {a a' : Nat → Int} {k v y : Int} (h : BW a) (q : AddN a a' k v y) : BW a' := by
  obtain ⟨q0, q1, q2, q3, q4, q5, q6⟩ := q
  intro p hp i hi
  by_cases z : (p : Int) < a 0
  · have s := q1 p z
    have hi' : (i : Int) < a (25 + p) := by rw [s.2.2.1]; exact hi
    rw [← (s.2.2.2.2.2 i hi').2]; exact h p z i hi'
  · have : p = (a 0).toNat := by omega
    subst this
    rw [q4] at hi; omega
theorem BW.addW {a a' : Nat → Int} {r q w : Int} (h : BW a) (h0 : 0 ≤ w) (h1 : w ≤ 3) (x : AddW a a' r q w) : BW a' := by
  obtain ⟨x0, x1, x2, x3, x4, x5, x6, x7, x8, x9, x10, x11, x12⟩ := x
  intro p hp i hi
  by_cases z : (p : Int) = r
  · have : p = r.toNat := by omega
    subst this
    rw [x9] at hi
    by_cases u : (i : Int) < a (25 + r.toNat)
    · rw [(x10 i u).2]; exact h _ (by omega) i u
    · have : i = (a (25 + r.toNat)).toNat := by omega
      subst this
      rw [x12]; omega
  · have s := x4 p (by omega) z
    have hi' : (i : Int) < a (25 + p) := by rw [s.2.2.1]; exact hi
    rw [← (s.2.2.2.2.2 i hi').2]; exact h p (by omega) i hi'
theorem BW.line {g : Nat → Int} {t : Int} {j e : Nat} {v : Int} {a : Nat → Int} {t' : Int} {j' e' : Nat} {v' : Int} {a' : Nat → Int} (h : BW a) (q : LOk g t j e v a t' j' e' v' a') : BW a' := by
  obtain ⟨-, t1, j1, e1, v1, c, -, -⟩ := q
  rcases c with ⟨-, -, -, u1, i1, f1, w1, -, -, -, u2, i2, f2, w2, -, c⟩ | ⟨-, u1, i1, f1, w1, r1, -, -, -, -, -, -, u2, i2, f2, w2, r2, -, -, -, -, u3, i3, f3, w3, -, c⟩
  · rcases c with ⟨-, c, -⟩ | ⟨-, -, -, -, c⟩
    · exact h.addN c
    · exact h.addN c
  · rcases c with ⟨-, -, c3, c4, -, -, c⟩ | ⟨-, -, -, -, c⟩ | ⟨-, -, c⟩
    · exact h.addW (by omega) c4 c
    · exact h.addW (by decide) (by decide) c
    · exact h.addW (by decide) (by decide) c
theorem RCH.bw {g : Nat → Int} : ∀ {k : Nat} {t : Int} {j e : Nat} {v : Int} {a : Nat → Int}, RCH g k t j e v a → BW a
  | 0, _, _, _, _, _, x => fun p hp => by have := x.2; omega
  | _ + 1, _, _, _, _, _, x => by
    obtain ⟨_, _, _, _, _, x1, -, x3⟩ := x
    exact (RCH.bw x1).line x3
