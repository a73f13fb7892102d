/-- the five words, in a static row that nobody writes -/
def ZK (kn : Nat) (kf : Nat → Int32) (A : Nat → Prop) (U : State) (H : Heap) : Prop := va_Z "ChanceRingsModel" "KNOWN" "[B" (.ref kn) A U H ∧ va_T .byte kn 30 (fun j => .int (kf j)) A U H
theorem ZK.moved {kn : Nat} {kf : Nat → Int32} {A : Nat → Prop} {u U : State} {H : Heap} (hvm : u.vm.Alike U.vm) (h : ZK kn kf A u H) : ZK kn kf A U H := ⟨va_Z.moved hvm h.1, va_T.moved hvm h.2⟩
theorem ZK.kept {kn : Nat} {kf : Nat → Int32} {A B : Nat → Prop} {s : State} {H0 H : Heap} {locs : List Loc} (h : ZK kn kf A s H0) (hS : va_S A H0 H locs) (hB : ∀ q, B q → A q) : ZK kn kf B s H := ⟨(h.1.kept hS.2.1).narrow hB, (h.2.kept hS.2.1).narrow hB⟩
theorem tz_blQK {D : va_G} {av : List Value} {w : va_W} {tys : List (ClassId × FieldType)} {sz : Nat} {A : Nat → Prop} {kn : Nat} {kf : Nat → Int32} : FrameBlind (va_Pc av (fun U => U.heap.size = sz ∧ va_P D vwCl w U.heap ∧ va_K D vwCl tys U ∧ va_D (fun _ => True) w ∧ ZK kn kf A U U.heap)) := fun a U g mk q => by
  obtain ⟨q0, q1, qP, qK, qD, qZ⟩ := q
  exact ⟨q0, q1, qP, va_K.moved (u := U) (U := U.calling g mk a) (Vm.Alike.refl U.vm) qK, qD, ZK.moved (u := U) (U := U.calling g mk a) (Vm.Alike.refl U.vm) qZ⟩
theorem tz_preQK {D : va_G} {s : State} {H : Heap} {w : va_W} {tys : List (ClassId × FieldType)} {av : List Value} {A B : Nat → Prop} {kn : Nat} {kf : Nat → Int32} (hP : va_P D vwCl w H) (hK : va_K D vwCl tys s) (hD : va_D A w) (hZ : ZK kn kf B s H) : ∀ U : State, U.heap = H → s.WarmedH U.vm → va_Pc av (fun U => U.heap.size = H.size ∧ va_P D vwCl w U.heap ∧ va_K D vwCl tys U ∧ va_D (fun _ => True) w ∧ ZK kn kf B U U.heap) av.toArray U := fun U hU hW => ⟨rfl, by rw [hU], by rw [hU]; exact hP, va_K.moved hW.alike hK, hD.weaken (fun _ _ _ _ => trivial), by rw [hU]; exact hZ.moved hW.alike⟩
theorem tz_blSK {D : va_G} {av : List Value} {w : va_W} {tys : List (ClassId × FieldType)} {A : Nat → Prop} {kn : Nat} {kf : Nat → Int32} : FrameBlind (va_Pc av (fun U => va_P D vwCl w U.heap ∧ va_K D vwCl tys U ∧ ZK kn kf A U U.heap)) := fun a U g mk q => by
  obtain ⟨q0, qP, qK, qZ⟩ := q
  exact ⟨q0, qP, va_K.moved (u := U) (U := U.calling g mk a) (Vm.Alike.refl U.vm) qK, ZK.moved (u := U) (U := U.calling g mk a) (Vm.Alike.refl U.vm) qZ⟩
theorem tz_preSK {D : va_G} {s : State} {H : Heap} {w : va_W} {tys : List (ClassId × FieldType)} {av : List Value} {A : Nat → Prop} {kn : Nat} {kf : Nat → Int32} (hP : va_P D vwCl w H) (hK : va_K D vwCl tys s) (hZ : ZK kn kf A s H) : ∀ U : State, U.heap = H → s.WarmedH U.vm → va_Pc av (fun U => va_P D vwCl w U.heap ∧ va_K D vwCl tys U ∧ ZK kn kf A U U.heap) av.toArray U := fun U hU hW => ⟨rfl, by rw [hU]; exact hP, va_K.moved hW.alike hK, by rw [hU]; exact hZ.moved hW.alike⟩
/-- the byte ahead: -1 behind the last -/
def pkb (f : Nat → Int32) (p z : Int32) : Int := if p.toInt < z.toInt then (f p.toNatClampNeg &&& 255).toInt else -1
theorem pkb_in {f : Nat → Int32} {p z : Int32} (h : p.toInt < z.toInt) : (f p.toNatClampNeg &&& 255).toInt = pkb f p z := (if_pos h).symm
theorem pkb_out {f : Nat → Int32} {p z : Int32} (h : ¬ p.toInt < z.toInt) : (-1 : Int) = pkb f p z := (if_neg h).symm
theorem tr_and255 (x : Int32) : 0 ≤ (x &&& 255).toInt ∧ (x &&& 255).toInt ≤ 255 := by
  have h1 : (x &&& 255).toBitVec = x.toBitVec &&& 255#32 := rfl
  have h2 : (x &&& 255).toInt = ((x &&& 255).toBitVec).toInt := rfl
  rw [h2, h1]
  have h3 : (x.toBitVec &&& 255#32).toNat ≤ 255 := by
    rw [BitVec.toNat_and]
    exact Nat.and_le_right
  rw [BitVec.toInt_eq_toNat_cond]
  split <;> omega
/-- the five words' number, or -1: anything else -/
theorem gp_done {f : Nat → Int32} (h : GP f) (hw : ∀ k : Nat, (k : Int) < (f 0).toInt → ¬ (f (1 + k)).toInt = 0 → ¬ (f (25 + k)).toInt = 0) : GS f := by
  refine ⟨h, fun k hk e => ?_⟩
  have h1 := (h.1.2.1 k hk).2.2.1
  by_cases q : (f 0).toInt ≤ k
  · exact absurd (h.2.1 k hk q).1 e
  · have := hw k (by omega) e
    omega
theorem gc_step {f : Nat → Int32} {d v : Int32} {n : Int} {i : Nat} (hn : n = gc f d.toInt i) (hv : v = f (1 + i)) : (v = d → n + 1 = gc f d.toInt (i + 1)) ∧ (¬ v = d → n + 0 = gc f d.toInt (i + 1)) := by
  subst hn hv
  constructor
  · intro e
    show _ = gc f d.toInt i + _
    rw [if_pos (by rw [e])]
  · intro e
    show _ = gc f d.toInt i + _
    rw [if_neg (fun q => e (Int32.toInt_inj.mp q))]
