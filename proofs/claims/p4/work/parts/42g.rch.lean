theorem rch_0 {g : Nat → Int} {i : Nat} {t : Int} {j e : Nat} {v : Int} {a : Nat → Int} (h : TK g i t j e v) (hi : i = 0) (h0 : a 0 = 0) : RCH g 0 t j e v a := by
  subst hi; exact ⟨h, h0⟩
theorem rch_s {g : Nat → Int} {k k' : Nat} {t : Int} {j e : Nat} {v : Int} {a : Nat → Int} {t' : Int} {j' e' : Nat} {v' : Int} {a' : Nat → Int} (h : RCH g k t j e v a) (h0 : t ≠ 0) (q : LOk g t j e v a t' j' e' v' a') (hk : k' = k + 1) : RCH g k' t' j' e' v' a' := by
  subst hk; exact ⟨t, j, e, v, a, h, h0, q⟩
theorem rfl_line {g : Nat → Int} {z P : Int} {k : Nat} {t : Int} {j e : Nat} {v : Int} {a : Nat → Int} (hz : z ≤ 400) (h : RCH g k t j e v a) (h0 : t ≠ 0) (q : LFl g t j e v a P) : RFl g z P := Or.inr ⟨hz, k, t, j, e, v, a, h, Or.inl ⟨h0, q⟩⟩
theorem rfl_lack {g : Nat → Int} {z P : Int} {k : Nat} {t : Int} {j e : Nat} {v : Int} {a : Nat → Int} (hz : z ≤ 400) (h : RCH g k t j e v a) (h0 : t = 0) (q : LACK a) (hP : P = z) : RFl g z P := Or.inr ⟨hz, k, t, j, e, v, a, h, Or.inr ⟨h0, q, hP⟩⟩
theorem rok_of {g : Nat → Int} {z : Int} {k : Nat} {t : Int} {j e : Nat} {v : Int} {a : Nat → Int} (hz : z ≤ 400) (h : RCH g k t j e v a) (h0 : t = 0) (q : ¬ LACK a) : ROk g z a := ⟨hz, k, t, j, e, v, h, h0, q⟩
