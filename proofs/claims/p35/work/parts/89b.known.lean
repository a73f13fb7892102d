theorem qw_1010 : Cond.instantiable RX11 18 ∈ wsL_law := tseg_1 (by decide +kernel) (List.mem_of_getElem? (i := 24) (by decide +kernel))
theorem qw_1011 : Cond.instantiable RX12 35 ∈ wsL_law := tseg_5 (by decide +kernel) (List.mem_of_getElem? (i := 121) (by decide +kernel))
theorem qw_1012 : Cond.classLink RL 8 RX11 ∈ wsL_law := tseg_1 (by decide +kernel) (List.mem_of_getElem? (i := 23) (by decide +kernel))
theorem qw_1013 : Cond.code yX11_init cX11_init 1 none ∈ wsL_law := tseg_1 (by decide +kernel) (List.mem_of_getElem? (i := 27) (by decide +kernel))
theorem qw_1014 : Cond.methodLink RL 36 yX11_init ∈ wsL_law := tseg_1 (by decide +kernel) (List.mem_of_getElem? (i := 25) (by decide +kernel))
theorem qw_1015 : Cond.instanceMethod yX11_init ∈ wsL_law := tseg_1 (by decide +kernel) (List.mem_of_getElem? (i := 26) (by decide +kernel))
theorem qw_1016 : Cond.classLink RL 37 RX12 ∈ wsL_law := tseg_5 (by decide +kernel) (List.mem_of_getElem? (i := 120) (by decide +kernel))
theorem qw_1017 : Cond.code yX12_init cX12_init 1 none ∈ wsL_law := tseg_5 (by decide +kernel) (List.mem_of_getElem? (i := 124) (by decide +kernel))
theorem qw_1018 : Cond.methodLink RL 39 yX12_init ∈ wsL_law := tseg_5 (by decide +kernel) (List.mem_of_getElem? (i := 122) (by decide +kernel))
theorem qw_1019 : Cond.instanceMethod yX12_init ∈ wsL_law := tseg_5 (by decide +kernel) (List.mem_of_getElem? (i := 123) (by decide +kernel))
theorem dL_law_0 : decode cL_law 0 = .ok (.new 8, 3) := by decide +kernel
theorem dL_law_3 : decode cL_law 3 = .ok (.dup, 1) := by decide +kernel
theorem dL_law_4 : decode cL_law 4 = .ok (.invokespecial 36, 3) := by decide +kernel
theorem dL_law_7 : decode cL_law 7 = .ok (.astore_n 1, 1) := by decide +kernel
theorem dL_law_8 : decode cL_law 8 = .ok (.new 37, 3) := by decide +kernel
theorem dL_law_11 : decode cL_law 11 = .ok (.dup, 1) := by decide +kernel
theorem dL_law_12 : decode cL_law 12 = .ok (.invokespecial 39, 3) := by decide +kernel
theorem dL_law_15 : decode cL_law 15 = .ok (.astore_n 2, 1) := by decide +kernel
theorem dL_law_16 : decode cL_law 16 = .ok (.iconst 1, 1) := by decide +kernel
theorem dL_law_17 : decode cL_law 17 = .ok (.newarray .long, 2) := by decide +kernel
theorem dL_law_19 : decode cL_law 19 = .ok (.astore_n 3, 1) := by decide +kernel
theorem dL_law_20 : decode cL_law 20 = .ok (.iconst 0, 1) := by decide +kernel
theorem dL_law_21 : decode cL_law 21 = .ok (.istore 4, 2) := by decide +kernel
set_option maxHeartbeats 4000000 in
set_option maxRecDepth 100000 in
theorem start_D {args : Array Value} {s : State} (hts : ∀ w ∈ wsL_law, w.before args s = true) : ∃ D : va_G, ∀ (k : Nat) (q : vw_C), vwCl[k]? = some q → u_Kn s q.1 q.2.1 q.2.2 (D.1 k) (D.2 k) := by
  obtain ⟨c0, i0, h0⟩ := u_known (C := RX0) (T := TX0) (N := 3) (n := 3) hts inlX0 (hts (Cond.instantiable RX0 3) qw_928)
  obtain ⟨c1, i1, h1⟩ := u_known (C := RX1) (T := TX1) (N := 3) (n := 3) hts inlX1 (hts (Cond.instantiable RX1 3) qw_923)
  obtain ⟨c2, i2, h2⟩ := u_known (C := RX2) (T := TX2) (N := 8) (n := 8) hts inlX2 (hts (Cond.instantiable RX2 8) qw_946)
  obtain ⟨c3, i3, h3⟩ := u_known (C := RX3) (T := TX3) (N := 10) (n := 10) hts inlX3 (hts (Cond.instantiable RX3 10) qw_974)
  obtain ⟨c4, i4, h4⟩ := u_known (C := RX4) (T := TX4) (N := 10) (n := 10) hts inlX4 (hts (Cond.instantiable RX4 10) qw_951)
  obtain ⟨c5, i5, h5⟩ := u_known (C := RX5) (T := TX5) (N := 1) (n := 1) hts inlX5 (hts (Cond.instantiable RX5 1) qw_964)
  obtain ⟨c6, i6, h6⟩ := u_known (C := RX6) (T := TX6) (N := 4) (n := 4) hts inlX6 (hts (Cond.instantiable RX6 4) qw_969)
  obtain ⟨c7, i7, h7⟩ := u_known (C := RX7) (T := TX7) (N := 5) (n := 5) hts inlX7 (hts (Cond.instantiable RX7 5) qw_956)
  obtain ⟨c8, i8, h8⟩ := u_known (C := RX8) (T := TX8) (N := 2) (n := 2) hts inlX8 (hts (Cond.instantiable RX8 2) qw_942)
  obtain ⟨c9, i9, h9⟩ := u_known (C := RX9) (T := TX9) (N := 2) (n := 2) hts inlX9 (hts (Cond.instantiable RX9 2) qw_960)
  obtain ⟨c10, i10, h10⟩ := u_known (C := RX10) (T := TX10) (N := 2) (n := 2) hts inlX10 (hts (Cond.instantiable RX10 2) qw_934)
  obtain ⟨c11, i11, h11⟩ := u_known (C := RX11) (T := TX11) (N := 18) (n := 18) hts inlX11 (hts (Cond.instantiable RX11 18) qw_1010)
  obtain ⟨c12, i12, h12⟩ := u_known (C := RX12) (T := TX12) (N := 35) (n := 35) hts inlX12 (hts (Cond.instantiable RX12 35) qw_1011)
  refine ⟨(fun k => ([c0, c1, c2, c3, c4, c5, c6, c7, c8, c9, c10, c11, c12] : List ClassId).getD k c0, fun k => ([i0, i1, i2, i3, i4, i5, i6, i7, i8, i9, i10, i11, i12] : List (Nat → Nat)).getD k i0), ?_⟩
  intro k q hq
  match k, hq with
  | 0, hq => cases hq; exact h0
  | 1, hq => cases hq; exact h1
  | 2, hq => cases hq; exact h2
  | 3, hq => cases hq; exact h3
  | 4, hq => cases hq; exact h4
  | 5, hq => cases hq; exact h5
  | 6, hq => cases hq; exact h6
  | 7, hq => cases hq; exact h7
  | 8, hq => cases hq; exact h8
  | 9, hq => cases hq; exact h9
  | 10, hq => cases hq; exact h10
  | 11, hq => cases hq; exact h11
  | 12, hq => cases hq; exact h12
  | k + 13, hq => simp [vwCl] at hq
theorem start_arr {args : Array Value} {s : State} {ty : FieldType} (h : (Cond.arrayClass ty).before args s = true) (hp : ∀ k : Nat, True) : ∃ cA : ClassId, s.vm.findClass ("[" ++ ty.toString) = some cA ∧ ∃ (k : Class) (comp : ClassId), s.vm.classes[cA]? = some k ∧ k.kind = .array comp ty := by
  obtain ⟨c, k, comp, h1, h2, h3⟩ := Cond.arrayClass_spec h
  exact ⟨c, h1, k, comp, h2, h3⟩
theorem start_of {s : State} {cA comp : ClassId} {k : Class} {ty : FieldType} (h2 : s.vm.classes[cA]? = some k) (h3 : k.kind = .array comp ty) : ArrOfT s cA ty := fun n z => ⟨fun k h => (by cases h), k, h2, comp, h3⟩
theorem start_K {args : Array Value} {s : State} {D : va_G} (hD : ∀ (k : Nat) (q : vw_C), vwCl[k]? = some q → u_Kn s q.1 q.2.1 q.2.2 (D.1 k) (D.2 k)) (hI : (Cond.arrayClass .int).before args s = true) (hJ : (Cond.arrayClass .long).before args s = true) (hB : (Cond.arrayClass .byte).before args s = true) (hZ : (Cond.arrayClass .boolean).before args s = true) (hN : va_AO RX2 s) (hR : va_AOA .long s) : ∃ g : Nat → ClassId, va_K D vwCl (TY g) s := by
  obtain ⟨c0, k0, p0, a0, b0, d0⟩ := Cond.arrayClass_spec hI
  obtain ⟨c1, k1, p1, a1, b1, d1⟩ := Cond.arrayClass_spec hJ
  obtain ⟨c2, k2, p2, a2, b2, d2⟩ := Cond.arrayClass_spec hB
  obtain ⟨c3, k3, p3, a3, b3, d3⟩ := Cond.arrayClass_spec hZ
  obtain ⟨p4, c4, k4, e4, -, b4, d4, a4⟩ := Cond.arrayOver_spec hN
  obtain ⟨p5, c5, k5, e5, -, b5, d5, a5⟩ := va_AOA.spec hR
  refine ⟨fun k => ([c0, c1, c2, c3, c4, c5] : List ClassId).getD k c0, hD, ?_⟩
  intro k q hq
  match k, hq with
  | 0, hq => cases hq; exact ⟨start_of b0 d0, a0⟩
  | 1, hq => cases hq; exact ⟨start_of b1 d1, a1⟩
  | 2, hq => cases hq; exact ⟨start_of b2 d2, a2⟩
  | 3, hq => cases hq; exact ⟨start_of b3 d3, a3⟩
  | 4, hq => cases hq; exact ⟨start_of b4 d4, ⟨k4, p4, b4, d4, e4, a4⟩⟩
  | 5, hq => cases hq; exact ⟨start_of b5 d5, a5⟩
  | k + 6, hq => simp [TY] at hq
theorem start_str {args : Array Value} {s : State} {A : Nat → Prop} (hA : ∀ a : Nat, a < s.heap.size → ¬ A a) (idx n : Nat) (bs : List Int32) (hn : n < 2 ^ 31) (h1 : (Cond.exactly (.string RX4 idx) "java/lang/String").before args s = true) (h2 : (Cond.eq (.field (.string RX4 idx) "java/lang/String" "coder" "B") (.int 0)).before args s = true) (h3 : (Cond.arrayOf (.field (.string RX4 idx) "java/lang/String" "value" "[B") .byte).before args s = true) (h4 : (Cond.eq (.length (.field (.string RX4 idx) "java/lang/String" "value" "[B")) (.int (Int32.ofNat n))).before args s = true) (h5 : ∀ j : Nat, j < n → (Cond.eq (.elem (.field (.string RX4 idx) "java/lang/String" "value" "[B") (.int (Int32.ofNat j))) (.int (bs.getD j 0))).before args s = true)
    (hz : va_Z "java/lang/String" "COMPACT_STRINGS" "Z" (.int 1) A s s.heap) (hf : va_Zq "jdk/internal/util/Preconditions" "SIOOBE_FORMATTER" "Ljava/util/function/BiFunction;" A s s.heap) {tx : String} (h6 : (Cond.stringRef RX4 idx tx).before args s = true) :
    ∃ a v : Nat, vk_R RX4 idx tx a s ∧ tStr a v n (fun j => bs.getD j 0) A s s.heap := by
  have z : ∀ i : Nat, i < 1 → i = 0 := fun i h => by omega
  obtain ⟨adK, adV, hS, he⟩ := vk_Sof (args := args) (N := 1) (tm := fun _ => .string RX4 idx) (len := [n]) (byt := [bs]) (A := A) (fun i hi => by rw [z i hi]; exact hn) (fun _ _ => h1) (fun _ _ => h2) (fun _ _ => h3) (fun i hi => by rw [z i hi]; exact h4) (fun i hi => by rw [z i hi]; exact h5) (fun i j hi hj hne => absurd ((z i hi).trans (z j hj).symm) hne) hA
  obtain ⟨q1, q2, q3, q4⟩ := hS.1 0 (by decide)
  exact ⟨adK 0, adV 0, vk_R.of h6 (he 0 (by decide)), hz, hf, q1, q2, q3, q4⟩
set_option maxHeartbeats 4000000 in
set_option maxRecDepth 100000 in
theorem start_known {p : Program} {s : State} {m : MethodId} {meth : Method} {c : Code} {b L : Nat} {xs : Nat → Int32} (C0 : lw_At p s m meth c b L xs) : ∃ (A : Nat → Prop) (D : va_G) (g : Nat → ClassId) (ka kv : Nat → Nat) (ff : Nat → Nat → Int32) (kn : Nat) (kf : Nat → Int32), (∀ q : Nat, s.heap.size ≤ q → A q) ∧ (∀ q : Nat, A q → s.heap.size ≤ q) ∧ ¬ A b ∧ va_K D vwCl (TY g) s ∧ ZI ka kv ff A s s.heap ∧ ZK kn kf A s s.heap ∧ ZT A s s.heap := by
  obtain ⟨hx, hb, hr, hml, hown, hts0, hX, hbl, hlocks, hgv⟩ := id C0
  have hts : ∀ w ∈ wsL_law, w.before _ s = true := fun w h => hts0 w (wsL_law_in w h)
  have hfl := flat_of_before _ hgv
  obtain ⟨A, hAe⟩ : ∃ A : Nat → Prop, A = fun q : Nat => s.heap.size ≤ q := ⟨_, rfl⟩
  have hA : ∀ q : Nat, s.heap.size ≤ q → A q := fun q h => by rw [hAe]; exact h
  have hAl : ∀ q : Nat, A q → s.heap.size ≤ q := fun q h => by rw [hAe] at h; exact h
  have hbA : ¬ A b := fun h => absurd (hAl b h) (Nat.not_le.mpr hbl)
  have hAn : ∀ a : Nat, a < s.heap.size → ¬ A a := fun a h q => absurd (hAl a q) (Nat.not_le.mpr h)
  have hN : va_AO RX2 s := va_AO.of (hts0 (Cond.arrayOver (.object RX2)) (List.mem_append_right _ (List.mem_append_left _ (List.mem_of_getElem? (i := 109) (by decide +kernel)))))
  have hR : va_AOA .long s := va_AOA.of (hts0 (Cond.arrayOver (.array .long)) (List.mem_append_right _ (List.mem_append_right _ (List.mem_append_left _ (List.mem_of_getElem? (i := 36) (by decide +kernel))))))
  obtain ⟨D, hKD⟩ := start_D hts
  obtain ⟨g, hK⟩ := start_K hKD (hts (Cond.arrayClass .int) qw_913) (hts (Cond.arrayClass .long) qw_916) (hts (Cond.arrayClass .byte) qw_980) (hts (Cond.arrayClass .boolean) qw_949) hN hR
  have hU : vx_Zq Bundle.tN "UNASSIGNED_STACK" Bundle.steD A s s.heap := vx_Zqof (hts0 (Cond.laysStatic Bundle.tN "UNASSIGNED_STACK" Bundle.steD) (List.mem_append_right _ (List.mem_append_right _ (List.mem_append_right _ (List.mem_append_right _ (List.mem_append_right _ (List.mem_append_left _ (List.mem_of_getElem? (i := 23) (by decide +kernel))))))))) (hts0 (Cond.initialized Bundle.tN) (List.mem_append_right _ (List.mem_append_left _ (List.mem_of_getElem? (i := 19) (by decide +kernel))))) (hfl (.isRef (.static Bundle.tN "UNASSIGNED_STACK" Bundle.steD)) (by decide +kernel)) hAn
  have hNn : vx_Zq Bundle.tN "SUPPRESSED_SENTINEL" Bundle.listD A s s.heap := vx_Zqof (hts0 (Cond.laysStatic Bundle.tN "SUPPRESSED_SENTINEL" Bundle.listD) (List.mem_append_right _ (List.mem_append_right _ (List.mem_append_right _ (List.mem_append_right _ (List.mem_append_right _ (List.mem_append_left _ (List.mem_of_getElem? (i := 25) (by decide +kernel))))))))) (hts0 (Cond.initialized Bundle.tN) (List.mem_append_right _ (List.mem_append_left _ (List.mem_of_getElem? (i := 19) (by decide +kernel))))) (hfl (.isRef (.static Bundle.tN "SUPPRESSED_SENTINEL" Bundle.listD)) (by decide +kernel)) hAn
  have hZt : ZT A s s.heap := ⟨hU, hNn, (va_Nw.of rfl (hts0 (Cond.declares (Bundle.init0 "java/lang/RuntimeException")) (List.mem_append_right _ (List.mem_append_right _ (List.mem_append_right _ (List.mem_append_right _ (List.mem_append_left _ (List.mem_of_getElem? (i := 239) (by decide +kernel))))))))), (va_Nw.of rfl (hts0 (Cond.declares (Bundle.init0 "java/lang/Exception")) (List.mem_append_right _ (List.mem_append_right _ (List.mem_append_right _ (List.mem_append_right _ (List.mem_append_right _ (List.mem_append_left _ (List.mem_of_getElem? (i := 1) (by decide +kernel)))))))))), (va_Nw.of rfl (hts0 (Cond.declares (Bundle.init0 Bundle.tN)) (List.mem_append_right _ (List.mem_append_right _ (List.mem_append_right _ (List.mem_append_right _ (List.mem_append_right _ (List.mem_append_left _ (List.mem_of_getElem? (i := 3) (by decide +kernel)))))))))), va_Nw.of rfl (hts0 (Cond.castable "java/util/NoSuchElementException" "java/util/NoSuchElementException") (List.mem_append_right _ (List.mem_append_right _ (List.mem_append_right _ (List.mem_append_right _ (List.mem_append_left _ (List.mem_of_getElem? (i := 238) (by decide +kernel))))))))⟩
  have hz : va_Z "java/lang/String" "COMPACT_STRINGS" "Z" (.int 1) A s s.heap := va_Zof (hts0 (Cond.laysStatic "java/lang/String" "COMPACT_STRINGS" "Z") (List.mem_append_right _ (List.mem_append_left _ (List.mem_of_getElem? (i := 129) (by decide +kernel))))) (hts0 (Cond.initialized "java/lang/String") (List.mem_append_right _ (List.mem_append_left _ (List.mem_of_getElem? (i := 5) (by decide +kernel))))) (va_eqi (hfl (.eq (.static "java/lang/String" "COMPACT_STRINGS" "Z") (.int 1)) (by decide +kernel))) hAn
  have hf : va_Zq "jdk/internal/util/Preconditions" "SIOOBE_FORMATTER" "Ljava/util/function/BiFunction;" A s s.heap := va_Zqof (hts0 (Cond.laysStatic "jdk/internal/util/Preconditions" "SIOOBE_FORMATTER" "Ljava/util/function/BiFunction;") (List.mem_append_right _ (List.mem_append_left _ (List.mem_of_getElem? (i := 145) (by decide +kernel))))) (hts0 (Cond.initialized "jdk/internal/util/Preconditions") (List.mem_append_right _ (List.mem_append_left _ (List.mem_of_getElem? (i := 7) (by decide +kernel))))) (hfl (.isRef (.static "jdk/internal/util/Preconditions" "SIOOBE_FORMATTER" "Ljava/util/function/BiFunction;")) (by decide +kernel)) hAn
  obtain ⟨a0, v0, r0, t0⟩ := start_str hAn 19 3 [101, 110, 100] (by decide) (hfl (.exactly (.string RX4 19) "java/lang/String") (by decide +kernel)) (hfl (.eq (.field (.string RX4 19) "java/lang/String" "coder" "B") (.int 0)) (by decide +kernel)) (hfl (.arrayOf (.field (.string RX4 19) "java/lang/String" "value" "[B") .byte) (by decide +kernel)) (hfl (.eq (.length (.field (.string RX4 19) "java/lang/String" "value" "[B")) (.int (Int32.ofNat 3))) (by decide +kernel)) (fun j hj => by
    rcases (show j = 0 ∨ j = 1 ∨ j = 2 by omega) with rfl | rfl | rfl
    · exact hfl (.eq (.elem (.field (.string RX4 19) "java/lang/String" "value" "[B") (.int (Int32.ofNat 0))) (.int 101)) (by decide +kernel)
    · exact hfl (.eq (.elem (.field (.string RX4 19) "java/lang/String" "value" "[B") (.int (Int32.ofNat 1))) (.int 110)) (by decide +kernel)
    · exact hfl (.eq (.elem (.field (.string RX4 19) "java/lang/String" "value" "[B") (.int (Int32.ofNat 2))) (.int 100)) (by decide +kernel)) hz hf (tx := "end") (hts0 (Cond.stringRef RX4 19 "end") (List.mem_append_right _ (List.mem_append_left _ (List.mem_of_getElem? (i := 116) (by decide +kernel)))))
  obtain ⟨a1, v1, r1, t1⟩ := start_str hAn 25 3 [109, 97, 120] (by decide) (hfl (.exactly (.string RX4 25) "java/lang/String") (by decide +kernel)) (hfl (.eq (.field (.string RX4 25) "java/lang/String" "coder" "B") (.int 0)) (by decide +kernel)) (hfl (.arrayOf (.field (.string RX4 25) "java/lang/String" "value" "[B") .byte) (by decide +kernel)) (hfl (.eq (.length (.field (.string RX4 25) "java/lang/String" "value" "[B")) (.int (Int32.ofNat 3))) (by decide +kernel)) (fun j hj => by
    rcases (show j = 0 ∨ j = 1 ∨ j = 2 by omega) with rfl | rfl | rfl
    · exact hfl (.eq (.elem (.field (.string RX4 25) "java/lang/String" "value" "[B") (.int (Int32.ofNat 0))) (.int 109)) (by decide +kernel)
    · exact hfl (.eq (.elem (.field (.string RX4 25) "java/lang/String" "value" "[B") (.int (Int32.ofNat 1))) (.int 97)) (by decide +kernel)
    · exact hfl (.eq (.elem (.field (.string RX4 25) "java/lang/String" "value" "[B") (.int (Int32.ofNat 2))) (.int 120)) (by decide +kernel)) hz hf (tx := "max") (hts0 (Cond.stringRef RX4 25 "max") (List.mem_append_right _ (List.mem_append_left _ (List.mem_of_getElem? (i := 168) (by decide +kernel)))))
  obtain ⟨a2, v2, r2, t2⟩ := start_str hAn 27 3 [109, 105, 110] (by decide) (hfl (.exactly (.string RX4 27) "java/lang/String") (by decide +kernel)) (hfl (.eq (.field (.string RX4 27) "java/lang/String" "coder" "B") (.int 0)) (by decide +kernel)) (hfl (.arrayOf (.field (.string RX4 27) "java/lang/String" "value" "[B") .byte) (by decide +kernel)) (hfl (.eq (.length (.field (.string RX4 27) "java/lang/String" "value" "[B")) (.int (Int32.ofNat 3))) (by decide +kernel)) (fun j hj => by
    rcases (show j = 0 ∨ j = 1 ∨ j = 2 by omega) with rfl | rfl | rfl
    · exact hfl (.eq (.elem (.field (.string RX4 27) "java/lang/String" "value" "[B") (.int (Int32.ofNat 0))) (.int 109)) (by decide +kernel)
    · exact hfl (.eq (.elem (.field (.string RX4 27) "java/lang/String" "value" "[B") (.int (Int32.ofNat 1))) (.int 105)) (by decide +kernel)
    · exact hfl (.eq (.elem (.field (.string RX4 27) "java/lang/String" "value" "[B") (.int (Int32.ofNat 2))) (.int 110)) (by decide +kernel)) hz hf (tx := "min") (hts0 (Cond.stringRef RX4 27 "min") (List.mem_append_right _ (List.mem_append_left _ (List.mem_of_getElem? (i := 169) (by decide +kernel)))))
  obtain ⟨a3, v3, r3, t3⟩ := start_str hAn 29 6 [99, 104, 97, 110, 99, 101] (by decide) (hfl (.exactly (.string RX4 29) "java/lang/String") (by decide +kernel)) (hfl (.eq (.field (.string RX4 29) "java/lang/String" "coder" "B") (.int 0)) (by decide +kernel)) (hfl (.arrayOf (.field (.string RX4 29) "java/lang/String" "value" "[B") .byte) (by decide +kernel)) (hfl (.eq (.length (.field (.string RX4 29) "java/lang/String" "value" "[B")) (.int (Int32.ofNat 6))) (by decide +kernel)) (fun j hj => by
    rcases (show j = 0 ∨ j = 1 ∨ j = 2 ∨ j = 3 ∨ j = 4 ∨ j = 5 by omega) with rfl | rfl | rfl | rfl | rfl | rfl
    · exact hfl (.eq (.elem (.field (.string RX4 29) "java/lang/String" "value" "[B") (.int (Int32.ofNat 0))) (.int 99)) (by decide +kernel)
    · exact hfl (.eq (.elem (.field (.string RX4 29) "java/lang/String" "value" "[B") (.int (Int32.ofNat 1))) (.int 104)) (by decide +kernel)
    · exact hfl (.eq (.elem (.field (.string RX4 29) "java/lang/String" "value" "[B") (.int (Int32.ofNat 2))) (.int 97)) (by decide +kernel)
    · exact hfl (.eq (.elem (.field (.string RX4 29) "java/lang/String" "value" "[B") (.int (Int32.ofNat 3))) (.int 110)) (by decide +kernel)
    · exact hfl (.eq (.elem (.field (.string RX4 29) "java/lang/String" "value" "[B") (.int (Int32.ofNat 4))) (.int 99)) (by decide +kernel)
    · exact hfl (.eq (.elem (.field (.string RX4 29) "java/lang/String" "value" "[B") (.int (Int32.ofNat 5))) (.int 101)) (by decide +kernel)) hz hf (tx := "chance") (hts0 (Cond.stringRef RX4 29 "chance") (List.mem_append_right _ (List.mem_append_left _ (List.mem_of_getElem? (i := 170) (by decide +kernel)))))
  obtain ⟨a4, v4, r4, t4⟩ := start_str hAn 35 3 [119, 97, 121] (by decide) (hfl (.exactly (.string RX4 35) "java/lang/String") (by decide +kernel)) (hfl (.eq (.field (.string RX4 35) "java/lang/String" "coder" "B") (.int 0)) (by decide +kernel)) (hfl (.arrayOf (.field (.string RX4 35) "java/lang/String" "value" "[B") .byte) (by decide +kernel)) (hfl (.eq (.length (.field (.string RX4 35) "java/lang/String" "value" "[B")) (.int (Int32.ofNat 3))) (by decide +kernel)) (fun j hj => by
    rcases (show j = 0 ∨ j = 1 ∨ j = 2 by omega) with rfl | rfl | rfl
    · exact hfl (.eq (.elem (.field (.string RX4 35) "java/lang/String" "value" "[B") (.int (Int32.ofNat 0))) (.int 119)) (by decide +kernel)
    · exact hfl (.eq (.elem (.field (.string RX4 35) "java/lang/String" "value" "[B") (.int (Int32.ofNat 1))) (.int 97)) (by decide +kernel)
    · exact hfl (.eq (.elem (.field (.string RX4 35) "java/lang/String" "value" "[B") (.int (Int32.ofNat 2))) (.int 121)) (by decide +kernel)) hz hf (tx := "way") (hts0 (Cond.stringRef RX4 35 "way") (List.mem_append_right _ (List.mem_append_left _ (List.mem_of_getElem? (i := 171) (by decide +kernel)))))
  have hZ : ZI (fun k => ([a0, a1, a2, a3, a4] : List Nat).getD k 0) (fun k => ([v0, v1, v2, v3, v4] : List Nat).getD k 0) (fun k => ([fun j => ([101, 110, 100] : List Int32).getD j 0, fun j => ([109, 97, 120] : List Int32).getD j 0, fun j => ([109, 105, 110] : List Int32).getD j 0, fun j => ([99, 104, 97, 110, 99, 101] : List Int32).getD j 0, fun j => ([119, 97, 121] : List Int32).getD j 0] : List (Nat → Int32)).getD k (fun _ => 0)) A s s.heap := ⟨hN, hR, va_Nw.of rfl (hts0 (Cond.methodLinkNest RX0 11 yX1_init "ChanceRings") (List.mem_append_right _ (List.mem_append_right _ (List.mem_append_left _ (List.mem_of_getElem? (i := 31) (by decide +kernel)))))), va_Nw.of rfl (hts0 (Cond.methodLinkNest RX3 17 yX10_init "ChanceRings") (List.mem_append_right _ (List.mem_append_right _ (List.mem_append_left _ (List.mem_of_getElem? (i := 83) (by decide +kernel)))))), va_Nw.of rfl (hts0 (Cond.methodLinkNest RX4 21 yX11_pack "ChanceRings") (List.mem_append_right _ (List.mem_append_left _ (List.mem_of_getElem? (i := 117) (by decide +kernel))))), va_Nw.of rfl (hts0 (Cond.methodLinkNest RX11 9 yX8_init "ChanceRings") (List.mem_append_right _ (List.mem_append_left _ (List.mem_of_getElem? (i := 33) (by decide +kernel))))), va_Nw.of rfl (hts0 (Cond.methodLinkNest RX11 18 yX2_init "ChanceRings") (List.mem_append_right _ (List.mem_append_left _ (List.mem_of_getElem? (i := 50) (by decide +kernel))))), va_Nw.of rfl (hts0 (Cond.methodLinkNest RX11 45 yX7_init "ChanceRings") (List.mem_append_right _ (List.mem_append_left _ (List.mem_of_getElem? (i := 211) (by decide +kernel))))), va_Nw.of rfl (hts0 (Cond.methodLinkNest RX11 52 yX9_init "ChanceRings") (List.mem_append_right _ (List.mem_append_left _ (List.mem_of_getElem? (i := 234) (by decide +kernel))))), va_Nw.of rfl (hts0 (Cond.methodLinkNest RX11 88 yX10_init "ChanceRings") (List.mem_append_right _ (List.mem_append_right _ (List.mem_append_left _ (List.mem_of_getElem? (i := 139) (by decide +kernel)))))), ⟨r0, t0⟩, ⟨r1, t1⟩, ⟨r2, t2⟩, ⟨r3, t3⟩, ⟨r4, t4⟩⟩
  generalize (fun k => ([a0, a1, a2, a3, a4] : List Nat).getD k 0) = ka at hZ
  generalize (fun k => ([v0, v1, v2, v3, v4] : List Nat).getD k 0) = kv at hZ
  generalize (fun k => ([fun j => ([101, 110, 100] : List Int32).getD j 0, fun j => ([109, 97, 120] : List Int32).getD j 0, fun j => ([109, 105, 110] : List Int32).getD j 0, fun j => ([99, 104, 97, 110, 99, 101] : List Int32).getD j 0, fun j => ([119, 97, 121] : List Int32).getD j 0] : List (Nat → Int32)).getD k (fun _ => 0)) = ff at hZ
  obtain ⟨kn, hkn, hkT⟩ := va_Tof (tm := (.static "ChanceRingsModel" "KNOWN" "[B")) (ty := .byte) (N := 30) (f := fun j => .int ((101 :: 110 :: 100 :: 0 :: 0 :: 0 :: 109 :: 97 :: 120 :: 0 :: 0 :: 0 :: 109 :: 105 :: 110 :: 0 :: 0 :: 0 :: 99 :: 104 :: 97 :: 110 :: 99 :: 101 :: 119 :: 97 :: 121 :: 0 :: 0 :: 0 :: [] : List Int32).getD j 0)) (A := A) (by decide) (hfl (.arrayOf (.static "ChanceRingsModel" "KNOWN" "[B") .byte) (by decide +kernel)) (va_eqt (hfl (.eq (.length (.static "ChanceRingsModel" "KNOWN" "[B")) (.int (Int32.ofNat 30))) (by decide +kernel))) (fun j hj => by
    rcases (show j = 0 ∨ j = 1 ∨ j = 2 ∨ j = 3 ∨ j = 4 ∨ j = 5 ∨ j = 6 ∨ j = 7 ∨ j = 8 ∨ j = 9 ∨ j = 10 ∨ j = 11 ∨ j = 12 ∨ j = 13 ∨ j = 14 ∨ j = 15 ∨ j = 16 ∨ j = 17 ∨ j = 18 ∨ j = 19 ∨ j = 20 ∨ j = 21 ∨ j = 22 ∨ j = 23 ∨ j = 24 ∨ j = 25 ∨ j = 26 ∨ j = 27 ∨ j = 28 ∨ j = 29 by omega) with rfl | rfl | rfl | rfl | rfl | rfl | rfl | rfl | rfl | rfl | rfl | rfl | rfl | rfl | rfl | rfl | rfl | rfl | rfl | rfl | rfl | rfl | rfl | rfl | rfl | rfl | rfl | rfl | rfl | rfl
    · exact va_eqt (hfl (.eq (.elem (.static "ChanceRingsModel" "KNOWN" "[B") (.int (Int32.ofNat 0))) (.int 101)) (by decide +kernel))
    · exact va_eqt (hfl (.eq (.elem (.static "ChanceRingsModel" "KNOWN" "[B") (.int (Int32.ofNat 1))) (.int 110)) (by decide +kernel))
    · exact va_eqt (hfl (.eq (.elem (.static "ChanceRingsModel" "KNOWN" "[B") (.int (Int32.ofNat 2))) (.int 100)) (by decide +kernel))
    · exact va_eqt (hfl (.eq (.elem (.static "ChanceRingsModel" "KNOWN" "[B") (.int (Int32.ofNat 3))) (.int 0)) (by decide +kernel))
    · exact va_eqt (hfl (.eq (.elem (.static "ChanceRingsModel" "KNOWN" "[B") (.int (Int32.ofNat 4))) (.int 0)) (by decide +kernel))
    · exact va_eqt (hfl (.eq (.elem (.static "ChanceRingsModel" "KNOWN" "[B") (.int (Int32.ofNat 5))) (.int 0)) (by decide +kernel))
    · exact va_eqt (hfl (.eq (.elem (.static "ChanceRingsModel" "KNOWN" "[B") (.int (Int32.ofNat 6))) (.int 109)) (by decide +kernel))
    · exact va_eqt (hfl (.eq (.elem (.static "ChanceRingsModel" "KNOWN" "[B") (.int (Int32.ofNat 7))) (.int 97)) (by decide +kernel))
    · exact va_eqt (hfl (.eq (.elem (.static "ChanceRingsModel" "KNOWN" "[B") (.int (Int32.ofNat 8))) (.int 120)) (by decide +kernel))
    · exact va_eqt (hfl (.eq (.elem (.static "ChanceRingsModel" "KNOWN" "[B") (.int (Int32.ofNat 9))) (.int 0)) (by decide +kernel))
    · exact va_eqt (hfl (.eq (.elem (.static "ChanceRingsModel" "KNOWN" "[B") (.int (Int32.ofNat 10))) (.int 0)) (by decide +kernel))
    · exact va_eqt (hfl (.eq (.elem (.static "ChanceRingsModel" "KNOWN" "[B") (.int (Int32.ofNat 11))) (.int 0)) (by decide +kernel))
    · exact va_eqt (hfl (.eq (.elem (.static "ChanceRingsModel" "KNOWN" "[B") (.int (Int32.ofNat 12))) (.int 109)) (by decide +kernel))
    · exact va_eqt (hfl (.eq (.elem (.static "ChanceRingsModel" "KNOWN" "[B") (.int (Int32.ofNat 13))) (.int 105)) (by decide +kernel))
    · exact va_eqt (hfl (.eq (.elem (.static "ChanceRingsModel" "KNOWN" "[B") (.int (Int32.ofNat 14))) (.int 110)) (by decide +kernel))
    · exact va_eqt (hfl (.eq (.elem (.static "ChanceRingsModel" "KNOWN" "[B") (.int (Int32.ofNat 15))) (.int 0)) (by decide +kernel))
    · exact va_eqt (hfl (.eq (.elem (.static "ChanceRingsModel" "KNOWN" "[B") (.int (Int32.ofNat 16))) (.int 0)) (by decide +kernel))
    · exact va_eqt (hfl (.eq (.elem (.static "ChanceRingsModel" "KNOWN" "[B") (.int (Int32.ofNat 17))) (.int 0)) (by decide +kernel))
    · exact va_eqt (hfl (.eq (.elem (.static "ChanceRingsModel" "KNOWN" "[B") (.int (Int32.ofNat 18))) (.int 99)) (by decide +kernel))
    · exact va_eqt (hfl (.eq (.elem (.static "ChanceRingsModel" "KNOWN" "[B") (.int (Int32.ofNat 19))) (.int 104)) (by decide +kernel))
    · exact va_eqt (hfl (.eq (.elem (.static "ChanceRingsModel" "KNOWN" "[B") (.int (Int32.ofNat 20))) (.int 97)) (by decide +kernel))
    · exact va_eqt (hfl (.eq (.elem (.static "ChanceRingsModel" "KNOWN" "[B") (.int (Int32.ofNat 21))) (.int 110)) (by decide +kernel))
    · exact va_eqt (hfl (.eq (.elem (.static "ChanceRingsModel" "KNOWN" "[B") (.int (Int32.ofNat 22))) (.int 99)) (by decide +kernel))
    · exact va_eqt (hfl (.eq (.elem (.static "ChanceRingsModel" "KNOWN" "[B") (.int (Int32.ofNat 23))) (.int 101)) (by decide +kernel))
    · exact va_eqt (hfl (.eq (.elem (.static "ChanceRingsModel" "KNOWN" "[B") (.int (Int32.ofNat 24))) (.int 119)) (by decide +kernel))
    · exact va_eqt (hfl (.eq (.elem (.static "ChanceRingsModel" "KNOWN" "[B") (.int (Int32.ofNat 25))) (.int 97)) (by decide +kernel))
    · exact va_eqt (hfl (.eq (.elem (.static "ChanceRingsModel" "KNOWN" "[B") (.int (Int32.ofNat 26))) (.int 121)) (by decide +kernel))
    · exact va_eqt (hfl (.eq (.elem (.static "ChanceRingsModel" "KNOWN" "[B") (.int (Int32.ofNat 27))) (.int 0)) (by decide +kernel))
    · exact va_eqt (hfl (.eq (.elem (.static "ChanceRingsModel" "KNOWN" "[B") (.int (Int32.ofNat 28))) (.int 0)) (by decide +kernel))
    · exact va_eqt (hfl (.eq (.elem (.static "ChanceRingsModel" "KNOWN" "[B") (.int (Int32.ofNat 29))) (.int 0)) (by decide +kernel))) hAn
  have hZk : ZK kn (fun j => (101 :: 110 :: 100 :: 0 :: 0 :: 0 :: 109 :: 97 :: 120 :: 0 :: 0 :: 0 :: 109 :: 105 :: 110 :: 0 :: 0 :: 0 :: 99 :: 104 :: 97 :: 110 :: 99 :: 101 :: 119 :: 97 :: 121 :: 0 :: 0 :: 0 :: [] : List Int32).getD j 0) A s s.heap := ⟨va_Zof (hts0 (Cond.laysStatic "ChanceRingsModel" "KNOWN" "[B") (List.mem_append_right _ (List.mem_append_right _ (List.mem_append_right _ (List.mem_append_right _ (List.mem_append_right _ (List.mem_append_right _ (List.mem_append_left _ (List.mem_of_getElem? (i := 43) (by decide +kernel)))))))))) (hts0 (Cond.initialized "ChanceRingsModel") (List.mem_append_right _ (List.mem_append_left _ (List.mem_of_getElem? (i := 17) (by decide +kernel))))) hkn hAn, hkT⟩
  generalize (fun j => (101 :: 110 :: 100 :: 0 :: 0 :: 0 :: 109 :: 97 :: 120 :: 0 :: 0 :: 0 :: 109 :: 105 :: 110 :: 0 :: 0 :: 0 :: 99 :: 104 :: 97 :: 110 :: 99 :: 101 :: 119 :: 97 :: 121 :: 0 :: 0 :: 0 :: [] : List Int32).getD j 0) = kf at hZk
  exact ⟨A, D, g, ka, kv, ff, kn, kf, hA, hAl, hbA, hK, hZ, hZk, hZt⟩
