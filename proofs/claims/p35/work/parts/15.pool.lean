theorem tr_01 {x : Int32} (h : 0 ≤ x.toInt ∧ x.toInt ≤ 1) : x = 0 ∨ x = 1 := by
  rcases (show x.toInt = 0 ∨ x.toInt = 1 by omega) with q | q
  · exact Or.inl (Int32.toInt_inj.mp (q.trans (by decide)))
  · exact Or.inr (Int32.toInt_inj.mp (q.trans (by decide)))
theorem tr_or01 {x y : Int32} (hx : 0 ≤ x.toInt ∧ x.toInt ≤ 1) (hy : 0 ≤ y.toInt ∧ y.toInt ≤ 1) : 0 ≤ (x ||| y).toInt ∧ (x ||| y).toInt ≤ 1 := by
  rcases tr_01 hx with rfl | rfl <;> rcases tr_01 hy with rfl | rfl <;> decide
theorem tr_and01 {x y : Int32} (hx : 0 ≤ x.toInt ∧ x.toInt ≤ 1) (hy : 0 ≤ y.toInt ∧ y.toInt ≤ 1) : 0 ≤ (x &&& y).toInt ∧ (x &&& y).toInt ≤ 1 := by
  rcases tr_01 hx with rfl | rfl <;> rcases tr_01 hy with rfl | rfl <;> decide
theorem tr_cl {x : Int32} {n : Nat} (h : vp_in x n) : x.toNatClampNeg < n := Nat.not_le.mp fun q => h (Or.inr q)
section TQ
variable {p : Program} {l : Launch} {e : Env} {R : Room} {s : State} {m : MethodId} {args : Array Value} {below : List Frame} {meth : Method} {c : Code} {H H0 : Heap} {locs : List Loc} {cells slots : Nat} {Q : State → Prop} {pc : Nat} {ls : Array Slot} {rest : List Value} {cc : ByteArray} {D : va_G} {g : Nat → ClassId} {A : Nat → Prop} {rr : Nat → Nat} {WS : (Nat → Nat → Int64) → va_W} {ct : Nat → Nat → Int64}
theorem tq_ald (hx : p.tables.exec = Jvm.exec) (hb : c.code = cc) (hK : va_K D vwCl (TY g) s) (hP : va_P D vwCl (WS ct) H) (q0 : Nat) (hget : ∀ (ct : Nat → Nat → Int64) (i : Nat), i < 8 → (WS ct)[q0 + i]? = some (rr i, .inl (g 1, 8, .inr (.inl (ct i))))) {r j : Int32} (hr : vp_in r 8) (hj : vp_in j 8) (hdg : decode cc pc = .ok (.laload, 1))
    (kk : ∀ w : Int64, W p l e R s m args below meth c H locs cells slots Q (F0 m (pc + 1) ls (.long w :: rest))) : W p l e R s m args below meth c H locs cells slots Q (F0 m pc ls (.int j :: .ref (rr r.toNatClampNeg) :: rest)) :=
  va_lald hx hb hK hP (q0 + r.toNatClampNeg) 1 (hget ct _ (tr_cl hr)) rfl hj hdg (kk _)
theorem tq_ast (hx : p.tables.exec = Jvm.exec) (hb : c.code = cc) (hK : va_K D vwCl (TY g) s) (hP : va_P D vwCl (WS ct) H) (hD : va_D A (WS ct)) (hS : va_S A H0 H locs) (q0 : Nat) (hget : ∀ (ct : Nat → Nat → Int64) (i : Nat), i < 8 → (WS ct)[q0 + i]? = some (rr i, .inl (g 1, 8, .inr (.inl (ct i))))) (hset : ∀ (ct : Nat → Nat → Int64) (i : Nat) (f : Nat → Int64), i < 8 → (WS ct).set (q0 + i) (rr i, .inl (g 1, 8, .inr (.inl f))) = WS (fun k => if k = i then f else ct k)) {r j : Int32} {x : Int64} (hr : vp_in r 8) (hj : vp_in j 8) (hdg : decode cc pc = .ok (.lastore, 1))
    (kk : ∀ (ct1 : Nat → Nat → Int64) (H1 : Heap) (locs1 : List Loc), va_P D vwCl (WS ct1) H1 → va_D A (WS ct1) → va_S A H0 H1 locs1 → W p l e R s m args below meth c H1 locs1 cells slots Q (F0 m (pc + 1) ls rest)) : W p l e R s m args below meth c H locs cells slots Q (F0 m pc ls (.long x :: .int j :: .ref (rr r.toNatClampNeg) :: rest)) := by
  refine va_last hx hb hK hP hD hS (q0 + r.toNatClampNeg) 1 (hget ct _ (tr_cl hr)) rfl hj hdg (fun H1 locs1 hP hD hS => ?_)
  rw [hset ct _ _ (tr_cl hr)] at hP hD
  exact kk _ H1 locs1 hP hD hS
end TQ
