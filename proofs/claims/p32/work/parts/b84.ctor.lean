theorem qw_910 : Cond.methodLink RX8 3 objectInit ∈ wsL_law := tseg_1 (by decide +kernel) (List.mem_of_getElem? (i := 36) (by decide +kernel))
theorem qw_911 : Cond.instanceMethod objectInit ∈ wsL_law := tseg_1 (by decide +kernel) (List.mem_of_getElem? (i := 29) (by decide +kernel))
theorem qw_912 : Cond.code objectInit ⟨#[0xb1]⟩ 1 none ∈ wsL_law := tseg_1 (by decide +kernel) (List.mem_of_getElem? (i := 30) (by decide +kernel))
theorem qw_913 : Cond.arrayClass .int ∈ wsL_law := tseg_1 (by decide +kernel) (List.mem_of_getElem? (i := 47) (by decide +kernel))
theorem qw_914 : Cond.methodLink RX2 3 objectInit ∈ wsL_law := tseg_1 (by decide +kernel) (List.mem_of_getElem? (i := 53) (by decide +kernel))
theorem qw_915 : Cond.methodLink RX10 3 objectInit ∈ wsL_law := tseg_2 (by decide +kernel) (List.mem_of_getElem? (i := 86) (by decide +kernel))
theorem qw_916 : Cond.arrayClass .long ∈ wsL_law := tseg_2 (by decide +kernel) (List.mem_of_getElem? (i := 50) (by decide +kernel))
theorem qw_917 : Cond.methodLink RX9 3 objectInit ∈ wsL_law := tseg_1 (by decide +kernel) (List.mem_of_getElem? (i := 237) (by decide +kernel))
theorem qw_918 : Cond.methodLink RX7 3 objectInit ∈ wsL_law := tseg_1 (by decide +kernel) (List.mem_of_getElem? (i := 214) (by decide +kernel))
theorem qw_919 : Cond.methodLink RX5 3 objectInit ∈ wsL_law := tseg_2 (by decide +kernel) (List.mem_of_getElem? (i := 12) (by decide +kernel))
theorem qw_920 : Cond.methodLink RX1 3 objectInit ∈ wsL_law := tseg_2 (by decide +kernel) (List.mem_of_getElem? (i := 34) (by decide +kernel))
theorem qw_921 : Cond.methodLink RX0 3 objectInit ∈ wsL_law := tseg_2 (by decide +kernel) (List.mem_of_getElem? (i := 28) (by decide +kernel))
theorem qw_922 : Cond.classLink RX0 9 RX1 ∈ wsL_law := tseg_2 (by decide +kernel) (List.mem_of_getElem? (i := 29) (by decide +kernel))
theorem qw_923 : Cond.instantiable RX1 3 ∈ wsL_law := tseg_2 (by decide +kernel) (List.mem_of_getElem? (i := 30) (by decide +kernel))
theorem qw_924 : Cond.code yX1_init cX1_init 1 none ∈ wsL_law := tseg_2 (by decide +kernel) (List.mem_of_getElem? (i := 33) (by decide +kernel))
theorem qw_925 : Cond.instanceMethod yX1_init ∈ wsL_law := tseg_2 (by decide +kernel) (List.mem_of_getElem? (i := 32) (by decide +kernel))
theorem qw_926 : Cond.methodLink RX6 3 objectInit ∈ wsL_law := tseg_2 (by decide +kernel) (List.mem_of_getElem? (i := 22) (by decide +kernel))
theorem qw_927 : Cond.classLink RX6 23 RX0 ∈ wsL_law := tseg_2 (by decide +kernel) (List.mem_of_getElem? (i := 23) (by decide +kernel))
theorem qw_928 : Cond.instantiable RX0 3 ∈ wsL_law := tseg_2 (by decide +kernel) (List.mem_of_getElem? (i := 24) (by decide +kernel))
theorem qw_929 : Cond.code yX0_init cX0_init 2 none ∈ wsL_law := tseg_2 (by decide +kernel) (List.mem_of_getElem? (i := 27) (by decide +kernel))
theorem qw_930 : Cond.methodLink RX6 25 yX0_init ∈ wsL_law := tseg_2 (by decide +kernel) (List.mem_of_getElem? (i := 25) (by decide +kernel))
theorem qw_931 : Cond.instanceMethod yX0_init ∈ wsL_law := tseg_2 (by decide +kernel) (List.mem_of_getElem? (i := 26) (by decide +kernel))
theorem qw_932 : Cond.methodLink RX3 3 objectInit ∈ wsL_law := tseg_2 (by decide +kernel) (List.mem_of_getElem? (i := 80) (by decide +kernel))
theorem qw_933 : Cond.classLink RX3 15 RX10 ∈ wsL_law := tseg_2 (by decide +kernel) (List.mem_of_getElem? (i := 81) (by decide +kernel))
theorem qw_934 : Cond.instantiable RX10 2 ∈ wsL_law := tseg_2 (by decide +kernel) (List.mem_of_getElem? (i := 82) (by decide +kernel))
theorem qw_935 : Cond.code yX10_init cX10_init 1 none ∈ wsL_law := tseg_2 (by decide +kernel) (List.mem_of_getElem? (i := 85) (by decide +kernel))
theorem qw_936 : Cond.instanceMethod yX10_init ∈ wsL_law := tseg_2 (by decide +kernel) (List.mem_of_getElem? (i := 84) (by decide +kernel))
theorem dX0_init_0 : decode cX0_init 0 = .ok (.aload_n 0, 1) := by decide +kernel
theorem dX0_init_1 : decode cX0_init 1 = .ok (.invokespecial 3, 3) := by decide +kernel
theorem dX0_init_4 : decode cX0_init 4 = .ok (.aload_n 0, 1) := by decide +kernel
theorem dX0_init_5 : decode cX0_init 5 = .ok (.new 9, 3) := by decide +kernel
theorem dX0_init_8 : decode cX0_init 8 = .ok (.dup, 1) := by decide +kernel
theorem dX0_init_9 : decode cX0_init 9 = .ok (.invokespecial 11, 3) := by decide +kernel
theorem dX0_init_12 : decode cX0_init 12 = .ok (.putfield 12, 3) := by decide +kernel
theorem dX0_init_15 : decode cX0_init 15 = .ok (.aload_n 0, 1) := by decide +kernel
theorem dX0_init_16 : decode cX0_init 16 = .ok (.bipush 12, 2) := by decide +kernel
theorem dX0_init_18 : decode cX0_init 18 = .ok (.newarray .int, 2) := by decide +kernel
theorem dX0_init_20 : decode cX0_init 20 = .ok (.putfield 18, 3) := by decide +kernel
theorem dX0_init_23 : decode cX0_init 23 = .ok (.aload_n 0, 1) := by decide +kernel
theorem dX0_init_24 : decode cX0_init 24 = .ok (.aload_n 1, 1) := by decide +kernel
theorem dX0_init_25 : decode cX0_init 25 = .ok (.putfield 22, 3) := by decide +kernel
theorem dX0_init_28 : decode cX0_init 28 = .ok (.return_, 1) := by decide +kernel
theorem dX10_init_0 : decode cX10_init 0 = .ok (.aload_n 0, 1) := by decide +kernel
theorem dX10_init_1 : decode cX10_init 1 = .ok (.invokespecial 3, 3) := by decide +kernel
theorem dX10_init_4 : decode cX10_init 4 = .ok (.aload_n 0, 1) := by decide +kernel
theorem dX10_init_5 : decode cX10_init 5 = .ok (.bipush 12, 2) := by decide +kernel
theorem dX10_init_7 : decode cX10_init 7 = .ok (.newarray .long, 2) := by decide +kernel
theorem dX10_init_9 : decode cX10_init 9 = .ok (.putfield 9, 3) := by decide +kernel
theorem dX10_init_12 : decode cX10_init 12 = .ok (.aload_n 0, 1) := by decide +kernel
theorem dX10_init_13 : decode cX10_init 13 = .ok (.lconst 1, 1) := by decide +kernel
theorem dX10_init_14 : decode cX10_init 14 = .ok (.putfield 15, 3) := by decide +kernel
theorem dX10_init_17 : decode cX10_init 17 = .ok (.return_, 1) := by decide +kernel
theorem dX1_init_0 : decode cX1_init 0 = .ok (.aload_n 0, 1) := by decide +kernel
theorem dX1_init_1 : decode cX1_init 1 = .ok (.invokespecial 3, 3) := by decide +kernel
theorem dX1_init_4 : decode cX1_init 4 = .ok (.aload_n 0, 1) := by decide +kernel
theorem dX1_init_5 : decode cX1_init 5 = .ok (.bipush 8, 2) := by decide +kernel
theorem dX1_init_7 : decode cX1_init 7 = .ok (.bipush 8, 2) := by decide +kernel
theorem dX1_init_9 : decode cX1_init 9 = .ok (.multianewarray 9 2, 4) := by decide +kernel
theorem dX1_init_13 : decode cX1_init 13 = .ok (.putfield 11, 3) := by decide +kernel
theorem dX1_init_16 : decode cX1_init 16 = .ok (.aload_n 0, 1) := by decide +kernel
theorem dX1_init_17 : decode cX1_init 17 = .ok (.bipush 8, 2) := by decide +kernel
theorem dX1_init_19 : decode cX1_init 19 = .ok (.newarray .long, 2) := by decide +kernel
theorem dX1_init_21 : decode cX1_init 21 = .ok (.putfield 16, 3) := by decide +kernel
theorem dX1_init_24 : decode cX1_init 24 = .ok (.return_, 1) := by decide +kernel
theorem dX2_init_0 : decode cX2_init 0 = .ok (.aload_n 0, 1) := by decide +kernel
theorem dX2_init_1 : decode cX2_init 1 = .ok (.invokespecial 3, 3) := by decide +kernel
theorem dX2_init_4 : decode cX2_init 4 = .ok (.aload_n 0, 1) := by decide +kernel
theorem dX2_init_5 : decode cX2_init 5 = .ok (.bipush 12, 2) := by decide +kernel
theorem dX2_init_7 : decode cX2_init 7 = .ok (.newarray .int, 2) := by decide +kernel
theorem dX2_init_9 : decode cX2_init 9 = .ok (.putfield 9, 3) := by decide +kernel
theorem dX2_init_12 : decode cX2_init 12 = .ok (.aload_n 0, 1) := by decide +kernel
theorem dX2_init_13 : decode cX2_init 13 = .ok (.bipush 12, 2) := by decide +kernel
theorem dX2_init_15 : decode cX2_init 15 = .ok (.newarray .int, 2) := by decide +kernel
theorem dX2_init_17 : decode cX2_init 17 = .ok (.putfield 15, 3) := by decide +kernel
theorem dX2_init_20 : decode cX2_init 20 = .ok (.aload_n 0, 1) := by decide +kernel
theorem dX2_init_21 : decode cX2_init 21 = .ok (.bipush 12, 2) := by decide +kernel
theorem dX2_init_23 : decode cX2_init 23 = .ok (.newarray .int, 2) := by decide +kernel
theorem dX2_init_25 : decode cX2_init 25 = .ok (.putfield 18, 3) := by decide +kernel
theorem dX2_init_28 : decode cX2_init 28 = .ok (.aload_n 0, 1) := by decide +kernel
theorem dX2_init_29 : decode cX2_init 29 = .ok (.bipush 12, 2) := by decide +kernel
theorem dX2_init_31 : decode cX2_init 31 = .ok (.newarray .int, 2) := by decide +kernel
theorem dX2_init_33 : decode cX2_init 33 = .ok (.putfield 21, 3) := by decide +kernel
theorem dX2_init_36 : decode cX2_init 36 = .ok (.aload_n 0, 1) := by decide +kernel
theorem dX2_init_37 : decode cX2_init 37 = .ok (.bipush 12, 2) := by decide +kernel
theorem dX2_init_39 : decode cX2_init 39 = .ok (.newarray .int, 2) := by decide +kernel
theorem dX2_init_41 : decode cX2_init 41 = .ok (.putfield 24, 3) := by decide +kernel
theorem dX2_init_44 : decode cX2_init 44 = .ok (.aload_n 0, 1) := by decide +kernel
theorem dX2_init_45 : decode cX2_init 45 = .ok (.bipush 36, 2) := by decide +kernel
theorem dX2_init_47 : decode cX2_init 47 = .ok (.newarray .int, 2) := by decide +kernel
theorem dX2_init_49 : decode cX2_init 49 = .ok (.putfield 27, 3) := by decide +kernel
theorem dX2_init_52 : decode cX2_init 52 = .ok (.aload_n 0, 1) := by decide +kernel
theorem dX2_init_53 : decode cX2_init 53 = .ok (.bipush 36, 2) := by decide +kernel
theorem dX2_init_55 : decode cX2_init 55 = .ok (.newarray .int, 2) := by decide +kernel
theorem dX2_init_57 : decode cX2_init 57 = .ok (.putfield 30, 3) := by decide +kernel
theorem dX2_init_60 : decode cX2_init 60 = .ok (.return_, 1) := by decide +kernel
theorem dX3_init_0 : decode cX3_init 0 = .ok (.aload_n 0, 1) := by decide +kernel
theorem dX3_init_1 : decode cX3_init 1 = .ok (.invokespecial 3, 3) := by decide +kernel
theorem dX3_init_4 : decode cX3_init 4 = .ok (.aload_n 0, 1) := by decide +kernel
theorem dX3_init_5 : decode cX3_init 5 = .ok (.bipush 12, 2) := by decide +kernel
theorem dX3_init_7 : decode cX3_init 7 = .ok (.newarray .int, 2) := by decide +kernel
theorem dX3_init_9 : decode cX3_init 9 = .ok (.putfield 9, 3) := by decide +kernel
theorem dX3_init_12 : decode cX3_init 12 = .ok (.aload_n 0, 1) := by decide +kernel
theorem dX3_init_13 : decode cX3_init 13 = .ok (.new 15, 3) := by decide +kernel
theorem dX3_init_16 : decode cX3_init 16 = .ok (.dup, 1) := by decide +kernel
theorem dX3_init_17 : decode cX3_init 17 = .ok (.invokespecial 17, 3) := by decide +kernel
theorem dX3_init_20 : decode cX3_init 20 = .ok (.putfield 18, 3) := by decide +kernel
theorem dX3_init_23 : decode cX3_init 23 = .ok (.aload_n 0, 1) := by decide +kernel
theorem dX3_init_24 : decode cX3_init 24 = .ok (.new 15, 3) := by decide +kernel
theorem dX3_init_27 : decode cX3_init 27 = .ok (.dup, 1) := by decide +kernel
theorem dX3_init_28 : decode cX3_init 28 = .ok (.invokespecial 17, 3) := by decide +kernel
theorem dX3_init_31 : decode cX3_init 31 = .ok (.putfield 22, 3) := by decide +kernel
theorem dX3_init_34 : decode cX3_init 34 = .ok (.aload_n 0, 1) := by decide +kernel
theorem dX3_init_35 : decode cX3_init 35 = .ok (.bipush 12, 2) := by decide +kernel
theorem dX3_init_37 : decode cX3_init 37 = .ok (.newarray .int, 2) := by decide +kernel
theorem dX3_init_39 : decode cX3_init 39 = .ok (.putfield 25, 3) := by decide +kernel
theorem dX3_init_42 : decode cX3_init 42 = .ok (.aload_n 0, 1) := by decide +kernel
theorem dX3_init_43 : decode cX3_init 43 = .ok (.bipush 12, 2) := by decide +kernel
theorem dX3_init_45 : decode cX3_init 45 = .ok (.newarray .int, 2) := by decide +kernel
theorem dX3_init_47 : decode cX3_init 47 = .ok (.putfield 28, 3) := by decide +kernel
theorem dX3_init_50 : decode cX3_init 50 = .ok (.aload_n 0, 1) := by decide +kernel
theorem dX3_init_51 : decode cX3_init 51 = .ok (.aload_n 1, 1) := by decide +kernel
theorem dX3_init_52 : decode cX3_init 52 = .ok (.putfield 31, 3) := by decide +kernel
theorem dX3_init_55 : decode cX3_init 55 = .ok (.aload_n 0, 1) := by decide +kernel
theorem dX3_init_56 : decode cX3_init 56 = .ok (.aload_n 2, 1) := by decide +kernel
theorem dX3_init_57 : decode cX3_init 57 = .ok (.putfield 35, 3) := by decide +kernel
theorem dX3_init_60 : decode cX3_init 60 = .ok (.return_, 1) := by decide +kernel
theorem dX5_init_0 : decode cX5_init 0 = .ok (.aload_n 0, 1) := by decide +kernel
theorem dX5_init_1 : decode cX5_init 1 = .ok (.invokespecial 3, 3) := by decide +kernel
theorem dX5_init_4 : decode cX5_init 4 = .ok (.aload_n 0, 1) := by decide +kernel
theorem dX5_init_5 : decode cX5_init 5 = .ok (.aload_n 1, 1) := by decide +kernel
theorem dX5_init_6 : decode cX5_init 6 = .ok (.putfield 9, 3) := by decide +kernel
theorem dX5_init_9 : decode cX5_init 9 = .ok (.return_, 1) := by decide +kernel
theorem dX6_init_0 : decode cX6_init 0 = .ok (.aload_n 0, 1) := by decide +kernel
theorem dX6_init_1 : decode cX6_init 1 = .ok (.invokespecial 3, 3) := by decide +kernel
theorem dX6_init_4 : decode cX6_init 4 = .ok (.aload_n 0, 1) := by decide +kernel
theorem dX6_init_5 : decode cX6_init 5 = .ok (.bipush 12, 2) := by decide +kernel
theorem dX6_init_7 : decode cX6_init 7 = .ok (.newarray .int, 2) := by decide +kernel
theorem dX6_init_9 : decode cX6_init 9 = .ok (.putfield 9, 3) := by decide +kernel
theorem dX6_init_12 : decode cX6_init 12 = .ok (.aload_n 0, 1) := by decide +kernel
theorem dX6_init_13 : decode cX6_init 13 = .ok (.bipush 12, 2) := by decide +kernel
theorem dX6_init_15 : decode cX6_init 15 = .ok (.newarray .long, 2) := by decide +kernel
theorem dX6_init_17 : decode cX6_init 17 = .ok (.putfield 15, 3) := by decide +kernel
theorem dX6_init_20 : decode cX6_init 20 = .ok (.aload_n 0, 1) := by decide +kernel
theorem dX6_init_21 : decode cX6_init 21 = .ok (.aload_n 1, 1) := by decide +kernel
theorem dX6_init_22 : decode cX6_init 22 = .ok (.putfield 19, 3) := by decide +kernel
theorem dX6_init_25 : decode cX6_init 25 = .ok (.aload_n 0, 1) := by decide +kernel
theorem dX6_init_26 : decode cX6_init 26 = .ok (.new 23, 3) := by decide +kernel
theorem dX6_init_29 : decode cX6_init 29 = .ok (.dup, 1) := by decide +kernel
theorem dX6_init_30 : decode cX6_init 30 = .ok (.aload_n 1, 1) := by decide +kernel
theorem dX6_init_31 : decode cX6_init 31 = .ok (.invokespecial 25, 3) := by decide +kernel
theorem dX6_init_34 : decode cX6_init 34 = .ok (.putfield 28, 3) := by decide +kernel
theorem dX6_init_37 : decode cX6_init 37 = .ok (.return_, 1) := by decide +kernel
theorem dX7_init_0 : decode cX7_init 0 = .ok (.aload_n 0, 1) := by decide +kernel
theorem dX7_init_1 : decode cX7_init 1 = .ok (.invokespecial 3, 3) := by decide +kernel
theorem dX7_init_4 : decode cX7_init 4 = .ok (.aload_n 0, 1) := by decide +kernel
theorem dX7_init_5 : decode cX7_init 5 = .ok (.bipush 8, 2) := by decide +kernel
theorem dX7_init_7 : decode cX7_init 7 = .ok (.newarray .int, 2) := by decide +kernel
theorem dX7_init_9 : decode cX7_init 9 = .ok (.putfield 9, 3) := by decide +kernel
theorem dX7_init_12 : decode cX7_init 12 = .ok (.aload_n 0, 1) := by decide +kernel
theorem dX7_init_13 : decode cX7_init 13 = .ok (.bipush 8, 2) := by decide +kernel
theorem dX7_init_15 : decode cX7_init 15 = .ok (.newarray .int, 2) := by decide +kernel
theorem dX7_init_17 : decode cX7_init 17 = .ok (.putfield 15, 3) := by decide +kernel
theorem dX7_init_20 : decode cX7_init 20 = .ok (.aload_n 0, 1) := by decide +kernel
theorem dX7_init_21 : decode cX7_init 21 = .ok (.bipush 8, 2) := by decide +kernel
theorem dX7_init_23 : decode cX7_init 23 = .ok (.newarray .int, 2) := by decide +kernel
theorem dX7_init_25 : decode cX7_init 25 = .ok (.putfield 18, 3) := by decide +kernel
theorem dX7_init_28 : decode cX7_init 28 = .ok (.aload_n 0, 1) := by decide +kernel
theorem dX7_init_29 : decode cX7_init 29 = .ok (.bipush 8, 2) := by decide +kernel
theorem dX7_init_31 : decode cX7_init 31 = .ok (.newarray .int, 2) := by decide +kernel
theorem dX7_init_33 : decode cX7_init 33 = .ok (.putfield 21, 3) := by decide +kernel
theorem dX7_init_36 : decode cX7_init 36 = .ok (.return_, 1) := by decide +kernel
theorem dX8_init_0 : decode cX8_init 0 = .ok (.aload_n 0, 1) := by decide +kernel
theorem dX8_init_1 : decode cX8_init 1 = .ok (.invokespecial 3, 3) := by decide +kernel
theorem dX8_init_4 : decode cX8_init 4 = .ok (.aload_n 0, 1) := by decide +kernel
theorem dX8_init_5 : decode cX8_init 5 = .ok (.sipush 440, 3) := by decide +kernel
theorem dX8_init_8 : decode cX8_init 8 = .ok (.newarray .int, 2) := by decide +kernel
theorem dX8_init_10 : decode cX8_init 10 = .ok (.putfield 9, 3) := by decide +kernel
theorem dX8_init_13 : decode cX8_init 13 = .ok (.return_, 1) := by decide +kernel
theorem dX9_init_0 : decode cX9_init 0 = .ok (.aload_n 0, 1) := by decide +kernel
theorem dX9_init_1 : decode cX9_init 1 = .ok (.invokespecial 3, 3) := by decide +kernel
theorem dX9_init_4 : decode cX9_init 4 = .ok (.aload_n 0, 1) := by decide +kernel
theorem dX9_init_5 : decode cX9_init 5 = .ok (.sipush 700, 3) := by decide +kernel
theorem dX9_init_8 : decode cX9_init 8 = .ok (.newarray .int, 2) := by decide +kernel
theorem dX9_init_10 : decode cX9_init 10 = .ok (.putfield 9, 3) := by decide +kernel
theorem dX9_init_13 : decode cX9_init 13 = .ok (.return_, 1) := by decide +kernel
def tk_P (comp : ClassId) : Class → Bool := fun x => match x.kind with | .array component _ => component == comp | _ => false
theorem tk_bare (vm : Vm) (comp : ClassId) : vm.bare.classes.findIdx? (tk_P comp) = vm.classes.findIdx? (tk_P comp) := by
  simp only [Vm.bare, Array.findIdx?_map]
  rfl
theorem va_AOA.spec {t : FieldType} {s : State} (h : va_AOA t s) : ∃ comp c k, s.vm.findClass (FieldType.array t).toString = some comp ∧ s.vm.classes.findIdx? (tk_P comp) = some c ∧ s.vm.classes[c]? = some k ∧ k.kind = .array comp (.array t) ∧ s.vm.findClass ("[" ++ (FieldType.array t).toString) = some c := by
  unfold va_AOA at h
  simp only [Cond.before, Cond.holds, Cond.value, beq_iff_eq] at h
  cases hc : s.vm.findClass (FieldType.array t).toString with
  | none => simp [hc] at h
  | some comp =>
    simp only [hc, Option.bind_some, Option.bind_eq_some_iff, Option.map_eq_some_iff] at h
    obtain ⟨c, hi, k, hk, hb⟩ := h
    obtain ⟨hlt, hp, -⟩ := Array.findIdx?_eq_some_iff_getElem.mp hi
    have hkk : s.vm.classes[c] = k := (Array.getElem?_eq_some_iff.mp hk).2
    rw [hkk] at hp
    cases hkind : k.kind with
    | array component ty =>
      rw [hkind] at hb hp
      simp at hb hp
      exact ⟨comp, c, k, rfl, hi, hk, by rw [hkind, hp, hb.1], hb.2⟩
    | _ => rw [hkind] at hb; simp at hb
theorem va_AOA.moved {t : FieldType} {u U : State} (hvm : u.vm.Alike U.vm) (h : va_AOA t u) : va_AOA t U := by
  obtain ⟨comp, c, k, h1, h2, h3, h4, h5⟩ := va_AOA.spec h
  obtain ⟨k', hk', he⟩ := hvm.2.2 _ _ h3
  have hi : U.vm.classes.findIdx? (tk_P comp) = some c := by
    rw [← tk_bare]
    first | rw [hvm.bare_eq] | rw [← hvm.bare_eq]
    rw [tk_bare]
    exact h2
  have hkind : k'.kind = .array comp (.array t) := by rw [he]; exact h4
  have f1 : U.vm.findClass (FieldType.array t).toString = some comp := by rw [hvm.findClass]; exact h1
  have f2 : U.vm.findClass ("[" ++ (FieldType.array t).toString) = some c := by rw [hvm.findClass]; exact h5
  unfold va_AOA Cond.before Cond.holds
  simp only [Cond.value]
  rw [f1, Option.bind_some]
  refine (congrArg (fun o : Option Nat => (o.bind (fun c => (U.vm.classes[c]?).map fun (k : Class) => match k.kind with | .array _ ty => decide (ty = FieldType.array t) && decide (U.vm.findClass ("[" ++ (FieldType.array t).toString) = some c) | _ => false) == some true)) hi).trans ?_
  simp [hk', hkind, f2]
theorem ZI.same {sa sv : Nat → Nat} {ff : Nat → Nat → Int32} {A : Nat → Prop} {u U : State} {H : Heap} (h : ZI sa sv ff A u H) (e : u.vm = U.vm) : ZI sa sv ff A U H := by
  obtain ⟨h0, h1, h2, h3, h4, h5, h6, h7, h8, h9, ⟨h10, h10b⟩, ⟨h11, h11b⟩, ⟨h12, h12b⟩, ⟨h13, h13b⟩, ⟨h14, h14b⟩⟩ := h
  have al : u.vm.Alike U.vm := by rw [e]; exact Vm.Alike.refl _
  exact ⟨va_AO.moved al h0, va_AOA.moved al h1, va_Nw.same rfl e h2, va_Nw.same rfl e h3, va_Nw.same rfl e h4, va_Nw.same rfl e h5, va_Nw.same rfl e h6, va_Nw.same rfl e h7, va_Nw.same rfl e h8, va_Nw.same rfl e h9, ⟨vk_R.same e.symm h10, h10b.moved al⟩, ⟨vk_R.same e.symm h11, h11b.moved al⟩, ⟨vk_R.same e.symm h12, h12b.moved al⟩, ⟨vk_R.same e.symm h13, h13b.moved al⟩, ⟨vk_R.same e.symm h14, h14b.moved al⟩⟩
theorem ZI.warm {sa sv : Nat → Nat} {ff : Nat → Nat → Int32} {A : Nat → Prop} {s U : State} {H : Heap} (h : ZI sa sv ff A s H) (hW : s.WarmedH U.vm) : ZI sa sv ff A U H := by
  obtain ⟨h0, h1, h2, h3, h4, h5, h6, h7, h8, h9, ⟨h10, h10b⟩, ⟨h11, h11b⟩, ⟨h12, h12b⟩, ⟨h13, h13b⟩, ⟨h14, h14b⟩⟩ := h
  exact ⟨va_AO.moved hW.alike h0, va_AOA.moved hW.alike h1, va_Nw.warmM hW h2, va_Nw.warmM hW h3, va_Nw.warmM hW h4, va_Nw.warmM hW h5, va_Nw.warmM hW h6, va_Nw.warmM hW h7, va_Nw.warmM hW h8, va_Nw.warmM hW h9, ⟨vk_R.warm hW h10, h10b.moved hW.alike⟩, ⟨vk_R.warm hW h11, h11b.moved hW.alike⟩, ⟨vk_R.warm hW h12, h12b.moved hW.alike⟩, ⟨vk_R.warm hW h13, h13b.moved hW.alike⟩, ⟨vk_R.warm hW h14, h14b.moved hW.alike⟩⟩
theorem tz_blI {D : va_G} {av : List Value} {w : va_W} {tys : List (ClassId × FieldType)} {sz : Nat} {A : Nat → Prop} {sa sv : Nat → Nat} {ff : Nat → Nat → Int32} : FrameBlind (va_Pc av (fun U => U.heap.size = sz ∧ va_P D vwCl w U.heap ∧ va_K D vwCl tys U ∧ va_D (fun _ => True) w ∧ ZI sa sv ff A U U.heap)) := fun a U g mk q => by
  obtain ⟨q0, q1, qP, qK, qD, qZ⟩ := q
  exact ⟨q0, q1, qP, va_K.moved (u := U) (U := U.calling g mk a) (Vm.Alike.refl U.vm) qK, qD, ZI.same (u := U) (U := U.calling g mk a) qZ rfl⟩
theorem tz_preI {D : va_G} {s : State} {H : Heap} {w : va_W} {tys : List (ClassId × FieldType)} {av : List Value} {A B : Nat → Prop} {sa sv : Nat → Nat} {ff : Nat → Nat → Int32} (hP : va_P D vwCl w H) (hK : va_K D vwCl tys s) (hD : va_D A w) (hZ : ZI sa sv ff B s H) : ∀ U : State, U.heap = H → s.WarmedH U.vm → va_Pc av (fun U => U.heap.size = H.size ∧ va_P D vwCl w U.heap ∧ va_K D vwCl tys U ∧ va_D (fun _ => True) w ∧ ZI sa sv ff B U U.heap) av.toArray U := fun U hU hW => ⟨rfl, by rw [hU], by rw [hU]; exact hP, va_K.moved hW.alike hK, hD.weaken (fun _ _ _ _ => trivial), by rw [hU]; exact hZ.warm hW⟩
theorem tz_clsI {D : va_G} {g : Nat → ClassId} {s : State} {cA : ClassId} (h : va_K D vwCl (TY g) s) (h9 : va_K D vwCl (TY g ++ [(cA, .int)]) s) : cA = g 0 := Option.some.inj ((h9.2 6 _ rfl).2.symm.trans (h.2 0 _ rfl).2)
theorem tz_clsJ {D : va_G} {g : Nat → ClassId} {s : State} {cA : ClassId} (h : va_K D vwCl (TY g) s) (h9 : va_K D vwCl (TY g ++ [(cA, .long)]) s) : cA = g 1 := Option.some.inj ((h9.2 6 _ rfl).2.symm.trans (h.2 1 _ rfl).2)
theorem tz_clsB {D : va_G} {g : Nat → ClassId} {s : State} {cA : ClassId} (h : va_K D vwCl (TY g) s) (h9 : va_K D vwCl (TY g ++ [(cA, .byte)]) s) : cA = g 2 := Option.some.inj ((h9.2 6 _ rfl).2.symm.trans (h.2 2 _ rfl).2)
theorem tz_clsZ {D : va_G} {g : Nat → ClassId} {s : State} {cA : ClassId} (h : va_K D vwCl (TY g) s) (h9 : va_K D vwCl (TY g ++ [(cA, .boolean)]) s) : cA = g 3 := Option.some.inj ((h9.2 6 _ rfl).2.symm.trans (h.2 3 _ rfl).2)
theorem tz_clsR {D : va_G} {g : Nat → ClassId} {s : State} {cA : ClassId} (h : va_K D vwCl (TY g) s) (h9 : va_K D vwCl (TY g ++ [(cA, .array .long)]) s) : cA = g 5 := Option.some.inj ((h9.2 6 _ rfl).2.symm.trans (h.2 5 _ rfl).2)
theorem tz_clsN {D : va_G} {g : Nat → ClassId} {s : State} {cA : ClassId} (h : va_K D vwCl (TY g) s) (h9 : va_K D vwCl (TY g ++ [(cA, .object RX2)]) s) : cA = g 4 := by
  obtain ⟨k1, c1, -, -, -, e1⟩ := (h9.2 6 _ rfl).2
  obtain ⟨k2, c2, -, -, -, e2⟩ := (h.2 4 _ rfl).2
  exact Option.some.inj (e1.symm.trans e2)
theorem tz_pool {f : Nat → va_E} {v : va_E} {r : Nat → Nat} {n : Nat} : va_pl ([] ++ (List.range n).map r) (vr_up f ((List.range n).map r) v) = (List.range n).map (fun i => (r i, v)) := by
  rw [List.nil_append]
  unfold va_pl
  rw [List.map_map]
  apply List.map_congr_left
  intro a ha
  show (r a, vr_up f _ v (r a)) = (r a, v)
  rw [vr_up_in (List.mem_map.mpr ⟨a, ha, rfl⟩)]
theorem tz_inner (c : ClassId) (n : Nat) : Jvm.Free.Multi.innerC c n (defaultValue .long) = vp_cell c (n, .inr (.inl (fun _ => 0))) := by
  show ({ cls := c, slots := Array.replicate n (.long 0), vm := .none } : Cell) = _
  rw [arrV_new, vp_cell_l]
theorem qJJ_RX1 : Cond.classLink RX1 9 ("[" ++ (FieldType.array .long).toString) ∈ wsL_law := tseg_2 (by decide +kernel) (List.mem_of_getElem? (i := 35) (by decide +kernel))
theorem qJJ_RX12 : Cond.classLink RX12 53 ("[" ++ (FieldType.array .long).toString) ∈ wsL_law := tseg_5 (by decide +kernel) (List.mem_of_getElem? (i := 126) (by decide +kernel))
theorem hfs_X0 : ∀ j, j < 3 → defaultValue (tyX0 j) = vp_V [.null, .null, .null] j := by
  intro j hj
  rcases (show j = 0 ∨ j = 1 ∨ j = 2 by omega) with rfl | rfl | rfl <;> rfl
theorem hfs_X1 : ∀ j, j < 3 → defaultValue (tyX1 j) = vp_V [.null, .null, .long 0] j := by
  intro j hj
  rcases (show j = 0 ∨ j = 1 ∨ j = 2 by omega) with rfl | rfl | rfl <;> rfl
theorem hfs_X2 : ∀ j, j < 8 → defaultValue (tyX2 j) = vp_V [.int 0, .null, .null, .null, .null, .null, .null, .null] j := by
  intro j hj
  rcases (show j = 0 ∨ j = 1 ∨ j = 2 ∨ j = 3 ∨ j = 4 ∨ j = 5 ∨ j = 6 ∨ j = 7 by omega) with rfl | rfl | rfl | rfl | rfl | rfl | rfl | rfl <;> rfl
theorem hfs_X3 : ∀ j, j < 10 → defaultValue (tyX3 j) = vp_V [.null, .null, .null, .null, .null, .null, .null, .int 0, .int 0, .int 0] j := by
  intro j hj
  rcases (show j = 0 ∨ j = 1 ∨ j = 2 ∨ j = 3 ∨ j = 4 ∨ j = 5 ∨ j = 6 ∨ j = 7 ∨ j = 8 ∨ j = 9 by omega) with rfl | rfl | rfl | rfl | rfl | rfl | rfl | rfl | rfl | rfl <;> rfl
theorem hfs_X4 : ∀ j, j < 10 → defaultValue (tyX4 j) = vp_V [.null, .null, .null, .int 0, .int 0, .int 0, .int 0, .int 0, .int 0, .int 0] j := by
  intro j hj
  rcases (show j = 0 ∨ j = 1 ∨ j = 2 ∨ j = 3 ∨ j = 4 ∨ j = 5 ∨ j = 6 ∨ j = 7 ∨ j = 8 ∨ j = 9 by omega) with rfl | rfl | rfl | rfl | rfl | rfl | rfl | rfl | rfl | rfl <;> rfl
theorem hfs_X5 : ∀ j, j < 1 → defaultValue (tyX5 j) = vp_V [.null] j := by
  intro j hj
  obtain rfl : j = 0 := by omega
  rfl
theorem hfs_X6 : ∀ j, j < 4 → defaultValue (tyX6 j) = vp_V [.null, .null, .null, .null] j := by
  intro j hj
  rcases (show j = 0 ∨ j = 1 ∨ j = 2 ∨ j = 3 by omega) with rfl | rfl | rfl | rfl <;> rfl
theorem hfs_X7 : ∀ j, j < 5 → defaultValue (tyX7 j) = vp_V [.null, .null, .null, .null, .int 0] j := by
  intro j hj
  rcases (show j = 0 ∨ j = 1 ∨ j = 2 ∨ j = 3 ∨ j = 4 by omega) with rfl | rfl | rfl | rfl | rfl <;> rfl
theorem hfs_X8 : ∀ j, j < 2 → defaultValue (tyX8 j) = vp_V [.null, .int 0] j := by
  intro j hj
  rcases (show j = 0 ∨ j = 1 by omega) with rfl | rfl <;> rfl
theorem hfs_X9 : ∀ j, j < 2 → defaultValue (tyX9 j) = vp_V [.null, .int 0] j := by
  intro j hj
  rcases (show j = 0 ∨ j = 1 by omega) with rfl | rfl <;> rfl
theorem hfs_X10 : ∀ j, j < 2 → defaultValue (tyX10 j) = vp_V [.null, .long 0] j := by
  intro j hj
  rcases (show j = 0 ∨ j = 1 by omega) with rfl | rfl <;> rfl
theorem hfs_X11 : ∀ j, j < 18 → defaultValue (tyX11 j) = vp_V [.null, .null, .null, .null, .null, .null, .null, .null, .null, .null, .null, .null, .null, .int 0, .null, .null, .int 0, .null] j := by
  intro j hj
  rcases (show j = 0 ∨ j = 1 ∨ j = 2 ∨ j = 3 ∨ j = 4 ∨ j = 5 ∨ j = 6 ∨ j = 7 ∨ j = 8 ∨ j = 9 ∨ j = 10 ∨ j = 11 ∨ j = 12 ∨ j = 13 ∨ j = 14 ∨ j = 15 ∨ j = 16 ∨ j = 17 by omega) with rfl | rfl | rfl | rfl | rfl | rfl | rfl | rfl | rfl | rfl | rfl | rfl | rfl | rfl | rfl | rfl | rfl | rfl <;> rfl
theorem hfs_X12 : ∀ j, j < 35 → defaultValue (tyX12 j) = vp_V (.int 0 :: .null :: .null :: .null :: .null :: .null :: .null :: .int 0 :: .null :: .int 0 :: .int 0 :: .int 0 :: .int 0 :: .int 0 :: .int 0 :: .int 0 :: .int 0 :: .int 0 :: .null :: .int 0 :: .null :: .null :: .null :: .null :: .null :: .null :: .null :: .null :: .null :: .null :: .null :: .null :: .int 0 :: .null :: .int 0 :: []) j := by
  intro j hj
  rcases (show j = 0 ∨ j = 1 ∨ j = 2 ∨ j = 3 ∨ j = 4 ∨ j = 5 ∨ j = 6 ∨ j = 7 ∨ j = 8 ∨ j = 9 ∨ j = 10 ∨ j = 11 ∨ j = 12 ∨ j = 13 ∨ j = 14 ∨ j = 15 ∨ j = 16 ∨ j = 17 ∨ j = 18 ∨ j = 19 ∨ j = 20 ∨ j = 21 ∨ j = 22 ∨ j = 23 ∨ j = 24 ∨ j = 25 ∨ j = 26 ∨ j = 27 ∨ j = 28 ∨ j = 29 ∨ j = 30 ∨ j = 31 ∨ j = 32 ∨ j = 33 ∨ j = 34 by omega) with rfl | rfl | rfl | rfl | rfl | rfl | rfl | rfl | rfl | rfl | rfl | rfl | rfl | rfl | rfl | rfl | rfl | rfl | rfl | rfl | rfl | rfl | rfl | rfl | rfl | rfl | rfl | rfl | rfl | rfl | rfl | rfl | rfl | rfl | rfl <;> rfl
set_option maxHeartbeats 4000000 in
set_option maxRecDepth 100000 in
theorem c_X8_init (l : Launch) (D : va_G) (g : Nat → ClassId) (sz : Nat) (ka kv : Nat → Nat) (ff : Nat → Nat → Int32) (tp : Nat) : Met l yX8_init (.code yX8_init cX8_init 1 none :: wsL_law) ({ frames := 1, cells := 1, slots := 440, locals := 12 }) (va_Pc [.ref tp] (fun U => U.heap.size = sz ∧ va_P D vwCl [(tp, .inr (8, [.null, .int 0]))] U.heap ∧ va_K D vwCl (TY g) U ∧ va_D (fun _ => True) [(tp, .inr (8, [.null, .int 0]))] ∧ ZI ka kv ff (va_A [(tp, .inr (8, [.null, .int 0]))] sz) U U.heap)) (va_Qv (fun (_ : Unit) => True) (fun _ t => ∃ tp_bytes : Nat, va_P D vwCl [(wO8 tp tp_bytes 0), (wI g tp_bytes 0 440 (fun _ => 0))] t.heap ∧ va_D (va_A [(tp, .inr (8, [.null, .int 0]))] sz) [(wO8 tp tp_bytes 0), (wI g tp_bytes 0 440 (fun _ => 0))]) (va_A [(tp, .inr (8, [.null, .int 0]))] sz)) 1 440 (va_A [(tp, .inr (8, [.null, .int 0]))] sz) := by
  refine Met.ofW (cc := cX8_init) (maxL := 1) (ret := none) (by decide) rfl ?_
  intro p e s m args below meth c s₁ B hml hv
  obtain ⟨rfl, hsz, hP, hK, hD0, hZ⟩ := hv
  have hx := B.exec
  have hb := B.bytes
  have hr := B.returns
  have hts0 := atoms_spec (ws := (.code yX8_init cX8_init 1 none :: wsL_law)) B.pre
  have hts : ∀ w ∈ wsL_law, w.before _ s = true := fun w h => hts0 w (List.mem_cons_of_mem _ h)
  have hown : s.vm.findClass RX8 = some m.cls := findClass_of_methodNamed B.named
  have hlocks := B.notSynchronized
  have hin : meth.name = "<init>" := (name_of_methodNamed B.named B.method).1
  subst hsz
  have hD := hD0.self (sz := s.heap.size)
  generalize hAe : va_A [(tp, .inr (8, [.null, .int 0]))] s.heap.size = A at hD hZ ⊢
  have hA : ∀ q : Nat, s.heap.size ≤ q → A q := fun q h => by rw [← hAe]; exact Or.inr h
  have hS : va_S A s.heap s.heap [] := va_S.rf
  have hP : va_P D vwCl [(tp, .inr (8, [.null, .int 0]))] s.heap := hP
  have hl := lv_entry ([.ref tp]) (n := 1) (Nat.le_of_ble_eq_true rfl)
  rw [lg_entry_eq]
  generalize (lg_sl ([.ref tp]) ++ List.replicate (1 - (lg_sl ([.ref tp])).length) Slot.unset).toArray = ls at hl ⊢
  have hl : lv_has ls 1 [(0, .ref tp)] := hl
  refine lv_aload_n hx hb dX8_init_0 rfl (lv_at hl 0 rfl) ?_
  refine W.objInit hx hb hown (hts (Cond.methodLink RX8 3 objectInit) qw_910) (hts (Cond.instanceMethod objectInit) qw_911) (hts (Cond.code objectInit ⟨#[0xb1]⟩ 1 none) qw_912) rfl (by rw [hml]; exact hl.1) rfl dX8_init_1 (Nat.le_of_ble_eq_true rfl) (Nat.le_of_ble_eq_true rfl) ?_
  refine W.eq (g2 := F0 m 4 ls []) rfl ?_
  refine lv_aload_n hx hb dX8_init_4 rfl (lv_at hl 0 rfl) ?_
  refine lv_sipush (v := 440) hx hb dX8_init_5 (by decide) ?_
  refine va_newa (atype := .int) (ty := .int) (N' := 440) (a0 := (440, .inl (fun _ => 0))) hx hb (hts (Cond.arrayClass .int) qw_913) rfl hK hP hD hS hA (fun _ => rfl) (by decide) (by decide +kernel) (by decide) (Nat.le_of_ble_eq_true rfl) (Nat.le_of_ble_eq_true rfl) dX8_init_8 (fun q_96334 cA H hK9 hP hD hS => ?_)
  obtain rfl : cA = g 0 := tz_clsI hK hK9
  have hP : va_P D vwCl [(tp, .inr (8, [.null, .int 0])), (wI g q_96334 0 440 (fun _ => 0))] H := hP
  have hD : va_D A [(tp, .inr (8, [.null, .int 0])), (wI g q_96334 0 440 (fun _ => 0))] := hD
  refine W.widen (k := 1) (n := 440) (by decide) (by decide) ?_
  refine va_putF (D := D) (ci := 8) (v := .ref q_96334) (ty := .array .int) (C := RX8) (T := TX8) (N := 2) hx hb hts inlX8 tyX8 tyX8_ok nmX8 hown hK hP hD hS 0 rfl rfl 0 (by decide) (hts (Cond.fieldLink RX8 9 "ChanceRings$Tape" "bytes" "[I") qw_341) (fun _ h9 => h9) rfl hin rfl (by decide +kernel) rfl rfl (Nat.le_of_ble_eq_true rfl) dX8_init_10 (fun H locs hP hD hS => ?_)
  have hP : va_P D vwCl [(wO8 tp q_96334 0), (wI g q_96334 0 440 (fun _ => 0))] H := hP
  have hD : va_D A [(wO8 tp q_96334 0), (wI g q_96334 0 440 (fun _ => 0))] := hD
  have hP9 := hP.sub (ws' := [(wO8 tp q_96334 0), (wI g q_96334 0 440 (fun _ => 0))]) [0, 1] rfl
  have hD9 := hD.sub (ws' := [(wO8 tp q_96334 0), (wI g q_96334 0 440 (fun _ => 0))]) [0, 1] (by decide) rfl
  exact W.vret hx hb hr (fun t ht hW => ⟨⟨(), rfl, trivial, q_96334, by rw [ht]; exact hP9, hD9⟩, hS.F ht⟩) hS.2.2 dX8_init_13
set_option maxHeartbeats 4000000 in
set_option maxRecDepth 100000 in
theorem c_X2_init (l : Launch) (D : va_G) (g : Nat → ClassId) (sz : Nat) (ka kv : Nat → Nat) (ff : Nat → Nat → Int32) (n : Nat) : Met l yX2_init (.code yX2_init cX2_init 1 none :: wsL_law) ({ frames := 1, cells := 7, slots := 132, locals := 12 }) (va_Pc [.ref n] (fun U => U.heap.size = sz ∧ va_P D vwCl [(n, .inr (2, [.int 0, .null, .null, .null, .null, .null, .null, .null]))] U.heap ∧ va_K D vwCl (TY g) U ∧ va_D (fun _ => True) [(n, .inr (2, [.int 0, .null, .null, .null, .null, .null, .null, .null]))] ∧ ZI ka kv ff (va_A [(n, .inr (2, [.int 0, .null, .null, .null, .null, .null, .null, .null]))] sz) U U.heap)) (va_Qv (fun (_ : Unit) => True) (fun _ t => ∃ n_kind : Nat, ∃ n_pay : Nat, ∃ n_name : Nat, ∃ n_ways : Nat, ∃ n_held : Nat, ∃ n_targets : Nat, ∃ n_weights : Nat, va_P D vwCl [(wO2 n 0 n_kind n_pay n_name n_ways n_held n_targets n_weights), (wI g n_kind 0 12 (fun _ => 0)), (wI g n_pay 0 12 (fun _ => 0)), (wI g n_name 0 12 (fun _ => 0)), (wI g n_ways 0 12 (fun _ => 0)), (wI g n_held 0 12 (fun _ => 0)), (wI g n_targets 0 36 (fun _ => 0)), (wI g n_weights 0 36 (fun _ => 0))] t.heap ∧ va_D (va_A [(n, .inr (2, [.int 0, .null, .null, .null, .null, .null, .null, .null]))] sz) [(wO2 n 0 n_kind n_pay n_name n_ways n_held n_targets n_weights), (wI g n_kind 0 12 (fun _ => 0)), (wI g n_pay 0 12 (fun _ => 0)), (wI g n_name 0 12 (fun _ => 0)), (wI g n_ways 0 12 (fun _ => 0)), (wI g n_held 0 12 (fun _ => 0)), (wI g n_targets 0 36 (fun _ => 0)), (wI g n_weights 0 36 (fun _ => 0))]) (va_A [(n, .inr (2, [.int 0, .null, .null, .null, .null, .null, .null, .null]))] sz)) 7 132 (va_A [(n, .inr (2, [.int 0, .null, .null, .null, .null, .null, .null, .null]))] sz) := by
  refine Met.ofW (cc := cX2_init) (maxL := 1) (ret := none) (by decide) rfl ?_
  intro p e s m args below meth c s₁ B hml hv
  obtain ⟨rfl, hsz, hP, hK, hD0, hZ⟩ := hv
  have hx := B.exec
  have hb := B.bytes
  have hr := B.returns
  have hts0 := atoms_spec (ws := (.code yX2_init cX2_init 1 none :: wsL_law)) B.pre
  have hts : ∀ w ∈ wsL_law, w.before _ s = true := fun w h => hts0 w (List.mem_cons_of_mem _ h)
  have hown : s.vm.findClass RX2 = some m.cls := findClass_of_methodNamed B.named
  have hlocks := B.notSynchronized
  have hin : meth.name = "<init>" := (name_of_methodNamed B.named B.method).1
  subst hsz
  have hD := hD0.self (sz := s.heap.size)
  generalize hAe : va_A [(n, .inr (2, [.int 0, .null, .null, .null, .null, .null, .null, .null]))] s.heap.size = A at hD hZ ⊢
  have hA : ∀ q : Nat, s.heap.size ≤ q → A q := fun q h => by rw [← hAe]; exact Or.inr h
  have hS : va_S A s.heap s.heap [] := va_S.rf
  have hP : va_P D vwCl [(n, .inr (2, [.int 0, .null, .null, .null, .null, .null, .null, .null]))] s.heap := hP
  have hl := lv_entry ([.ref n]) (n := 1) (Nat.le_of_ble_eq_true rfl)
  rw [lg_entry_eq]
  generalize (lg_sl ([.ref n]) ++ List.replicate (1 - (lg_sl ([.ref n])).length) Slot.unset).toArray = ls at hl ⊢
  have hl : lv_has ls 1 [(0, .ref n)] := hl
  refine lv_aload_n hx hb dX2_init_0 rfl (lv_at hl 0 rfl) ?_
  refine W.objInit hx hb hown (hts (Cond.methodLink RX2 3 objectInit) qw_914) (hts (Cond.instanceMethod objectInit) qw_911) (hts (Cond.code objectInit ⟨#[0xb1]⟩ 1 none) qw_912) rfl (by rw [hml]; exact hl.1) rfl dX2_init_1 (Nat.le_of_ble_eq_true rfl) (Nat.le_of_ble_eq_true rfl) ?_
  refine W.eq (g2 := F0 m 4 ls []) rfl ?_
  refine lv_aload_n hx hb dX2_init_4 rfl (lv_at hl 0 rfl) ?_
  refine lv_bipush (v := 12) hx hb dX2_init_5 (by decide) ?_
  refine va_newa (atype := .int) (ty := .int) (N' := 12) (a0 := (12, .inl (fun _ => 0))) hx hb (hts (Cond.arrayClass .int) qw_913) rfl hK hP hD hS hA (fun _ => rfl) (by decide) (by decide +kernel) (by decide) (Nat.le_of_ble_eq_true rfl) (Nat.le_of_ble_eq_true rfl) dX2_init_7 (fun q_96335 cA H hK9 hP hD hS => ?_)
  obtain rfl : cA = g 0 := tz_clsI hK hK9
  have hP : va_P D vwCl [(n, .inr (2, [.int 0, .null, .null, .null, .null, .null, .null, .null])), (wI g q_96335 0 12 (fun _ => 0))] H := hP
  have hD : va_D A [(n, .inr (2, [.int 0, .null, .null, .null, .null, .null, .null, .null])), (wI g q_96335 0 12 (fun _ => 0))] := hD
  refine W.widen (k := 1) (n := 12) (by decide) (by decide) ?_
  refine va_putF (D := D) (ci := 2) (v := .ref q_96335) (ty := .array .int) (C := RX2) (T := TX2) (N := 8) hx hb hts inlX2 tyX2 tyX2_ok nmX2 hown hK hP hD hS 0 rfl rfl 1 (by decide) (hts (Cond.fieldLink RX2 9 "ChanceRings$Net" "kind" "[I") qw_316) (fun _ h9 => h9) rfl hin rfl (by decide +kernel) rfl rfl (Nat.le_of_ble_eq_true rfl) dX2_init_9 (fun H locs hP hD hS => ?_)
  have hP : va_P D vwCl [(n, .inr (2, [.int 0, .ref q_96335, .null, .null, .null, .null, .null, .null])), (wI g q_96335 0 12 (fun _ => 0))] H := hP
  have hD : va_D A [(n, .inr (2, [.int 0, .ref q_96335, .null, .null, .null, .null, .null, .null])), (wI g q_96335 0 12 (fun _ => 0))] := hD
  refine lv_aload_n hx hb dX2_init_12 rfl (lv_at hl 0 rfl) ?_
  refine lv_bipush (v := 12) hx hb dX2_init_13 (by decide) ?_
  refine va_newa (atype := .int) (ty := .int) (N' := 12) (a0 := (12, .inl (fun _ => 0))) hx hb (hts (Cond.arrayClass .int) qw_913) rfl hK hP hD hS hA (fun _ => rfl) (by decide) (by decide +kernel) (by decide) (Nat.le_of_ble_eq_true rfl) (Nat.le_of_ble_eq_true rfl) dX2_init_15 (fun q_96336 cA H hK9 hP hD hS => ?_)
  obtain rfl : cA = g 0 := tz_clsI hK hK9
  have hP : va_P D vwCl [(n, .inr (2, [.int 0, .ref q_96335, .null, .null, .null, .null, .null, .null])), (wI g q_96335 0 12 (fun _ => 0)), (wI g q_96336 0 12 (fun _ => 0))] H := hP
  have hD : va_D A [(n, .inr (2, [.int 0, .ref q_96335, .null, .null, .null, .null, .null, .null])), (wI g q_96335 0 12 (fun _ => 0)), (wI g q_96336 0 12 (fun _ => 0))] := hD
  refine W.widen (k := 2) (n := 24) (by decide) (by decide) ?_
  refine va_putF (D := D) (ci := 2) (v := .ref q_96336) (ty := .array .int) (C := RX2) (T := TX2) (N := 8) hx hb hts inlX2 tyX2 tyX2_ok nmX2 hown hK hP hD hS 0 rfl rfl 2 (by decide) (hts (Cond.fieldLink RX2 15 "ChanceRings$Net" "pay" "[I") qw_317) (fun _ h9 => h9) rfl hin rfl (by decide +kernel) rfl rfl (Nat.le_of_ble_eq_true rfl) dX2_init_17 (fun H locs hP hD hS => ?_)
  have hP : va_P D vwCl [(n, .inr (2, [.int 0, .ref q_96335, .ref q_96336, .null, .null, .null, .null, .null])), (wI g q_96335 0 12 (fun _ => 0)), (wI g q_96336 0 12 (fun _ => 0))] H := hP
  have hD : va_D A [(n, .inr (2, [.int 0, .ref q_96335, .ref q_96336, .null, .null, .null, .null, .null])), (wI g q_96335 0 12 (fun _ => 0)), (wI g q_96336 0 12 (fun _ => 0))] := hD
  refine lv_aload_n hx hb dX2_init_20 rfl (lv_at hl 0 rfl) ?_
  refine lv_bipush (v := 12) hx hb dX2_init_21 (by decide) ?_
  refine va_newa (atype := .int) (ty := .int) (N' := 12) (a0 := (12, .inl (fun _ => 0))) hx hb (hts (Cond.arrayClass .int) qw_913) rfl hK hP hD hS hA (fun _ => rfl) (by decide) (by decide +kernel) (by decide) (Nat.le_of_ble_eq_true rfl) (Nat.le_of_ble_eq_true rfl) dX2_init_23 (fun q_96337 cA H hK9 hP hD hS => ?_)
  obtain rfl : cA = g 0 := tz_clsI hK hK9
  have hP : va_P D vwCl [(n, .inr (2, [.int 0, .ref q_96335, .ref q_96336, .null, .null, .null, .null, .null])), (wI g q_96335 0 12 (fun _ => 0)), (wI g q_96336 0 12 (fun _ => 0)), (wI g q_96337 0 12 (fun _ => 0))] H := hP
  have hD : va_D A [(n, .inr (2, [.int 0, .ref q_96335, .ref q_96336, .null, .null, .null, .null, .null])), (wI g q_96335 0 12 (fun _ => 0)), (wI g q_96336 0 12 (fun _ => 0)), (wI g q_96337 0 12 (fun _ => 0))] := hD
  refine W.widen (k := 3) (n := 36) (by decide) (by decide) ?_
  refine va_putF (D := D) (ci := 2) (v := .ref q_96337) (ty := .array .int) (C := RX2) (T := TX2) (N := 8) hx hb hts inlX2 tyX2 tyX2_ok nmX2 hown hK hP hD hS 0 rfl rfl 3 (by decide) (hts (Cond.fieldLink RX2 18 "ChanceRings$Net" "name" "[I") qw_333) (fun _ h9 => h9) rfl hin rfl (by decide +kernel) rfl rfl (Nat.le_of_ble_eq_true rfl) dX2_init_25 (fun H locs hP hD hS => ?_)
  have hP : va_P D vwCl [(n, .inr (2, [.int 0, .ref q_96335, .ref q_96336, .ref q_96337, .null, .null, .null, .null])), (wI g q_96335 0 12 (fun _ => 0)), (wI g q_96336 0 12 (fun _ => 0)), (wI g q_96337 0 12 (fun _ => 0))] H := hP
  have hD : va_D A [(n, .inr (2, [.int 0, .ref q_96335, .ref q_96336, .ref q_96337, .null, .null, .null, .null])), (wI g q_96335 0 12 (fun _ => 0)), (wI g q_96336 0 12 (fun _ => 0)), (wI g q_96337 0 12 (fun _ => 0))] := hD
  refine lv_aload_n hx hb dX2_init_28 rfl (lv_at hl 0 rfl) ?_
  refine lv_bipush (v := 12) hx hb dX2_init_29 (by decide) ?_
  refine va_newa (atype := .int) (ty := .int) (N' := 12) (a0 := (12, .inl (fun _ => 0))) hx hb (hts (Cond.arrayClass .int) qw_913) rfl hK hP hD hS hA (fun _ => rfl) (by decide) (by decide +kernel) (by decide) (Nat.le_of_ble_eq_true rfl) (Nat.le_of_ble_eq_true rfl) dX2_init_31 (fun q_96338 cA H hK9 hP hD hS => ?_)
  obtain rfl : cA = g 0 := tz_clsI hK hK9
  have hP : va_P D vwCl [(n, .inr (2, [.int 0, .ref q_96335, .ref q_96336, .ref q_96337, .null, .null, .null, .null])), (wI g q_96335 0 12 (fun _ => 0)), (wI g q_96336 0 12 (fun _ => 0)), (wI g q_96337 0 12 (fun _ => 0)), (wI g q_96338 0 12 (fun _ => 0))] H := hP
  have hD : va_D A [(n, .inr (2, [.int 0, .ref q_96335, .ref q_96336, .ref q_96337, .null, .null, .null, .null])), (wI g q_96335 0 12 (fun _ => 0)), (wI g q_96336 0 12 (fun _ => 0)), (wI g q_96337 0 12 (fun _ => 0)), (wI g q_96338 0 12 (fun _ => 0))] := hD
  refine W.widen (k := 4) (n := 48) (by decide) (by decide) ?_
  refine va_putF (D := D) (ci := 2) (v := .ref q_96338) (ty := .array .int) (C := RX2) (T := TX2) (N := 8) hx hb hts inlX2 tyX2 tyX2_ok nmX2 hown hK hP hD hS 0 rfl rfl 4 (by decide) (hts (Cond.fieldLink RX2 21 "ChanceRings$Net" "ways" "[I") qw_318) (fun _ h9 => h9) rfl hin rfl (by decide +kernel) rfl rfl (Nat.le_of_ble_eq_true rfl) dX2_init_33 (fun H locs hP hD hS => ?_)
  have hP : va_P D vwCl [(n, .inr (2, [.int 0, .ref q_96335, .ref q_96336, .ref q_96337, .ref q_96338, .null, .null, .null])), (wI g q_96335 0 12 (fun _ => 0)), (wI g q_96336 0 12 (fun _ => 0)), (wI g q_96337 0 12 (fun _ => 0)), (wI g q_96338 0 12 (fun _ => 0))] H := hP
  have hD : va_D A [(n, .inr (2, [.int 0, .ref q_96335, .ref q_96336, .ref q_96337, .ref q_96338, .null, .null, .null])), (wI g q_96335 0 12 (fun _ => 0)), (wI g q_96336 0 12 (fun _ => 0)), (wI g q_96337 0 12 (fun _ => 0)), (wI g q_96338 0 12 (fun _ => 0))] := hD
  refine lv_aload_n hx hb dX2_init_36 rfl (lv_at hl 0 rfl) ?_
  refine lv_bipush (v := 12) hx hb dX2_init_37 (by decide) ?_
  refine va_newa (atype := .int) (ty := .int) (N' := 12) (a0 := (12, .inl (fun _ => 0))) hx hb (hts (Cond.arrayClass .int) qw_913) rfl hK hP hD hS hA (fun _ => rfl) (by decide) (by decide +kernel) (by decide) (Nat.le_of_ble_eq_true rfl) (Nat.le_of_ble_eq_true rfl) dX2_init_39 (fun q_96339 cA H hK9 hP hD hS => ?_)
  obtain rfl : cA = g 0 := tz_clsI hK hK9
  have hP : va_P D vwCl [(n, .inr (2, [.int 0, .ref q_96335, .ref q_96336, .ref q_96337, .ref q_96338, .null, .null, .null])), (wI g q_96335 0 12 (fun _ => 0)), (wI g q_96336 0 12 (fun _ => 0)), (wI g q_96337 0 12 (fun _ => 0)), (wI g q_96338 0 12 (fun _ => 0)), (wI g q_96339 0 12 (fun _ => 0))] H := hP
  have hD : va_D A [(n, .inr (2, [.int 0, .ref q_96335, .ref q_96336, .ref q_96337, .ref q_96338, .null, .null, .null])), (wI g q_96335 0 12 (fun _ => 0)), (wI g q_96336 0 12 (fun _ => 0)), (wI g q_96337 0 12 (fun _ => 0)), (wI g q_96338 0 12 (fun _ => 0)), (wI g q_96339 0 12 (fun _ => 0))] := hD
  refine W.widen (k := 5) (n := 60) (by decide) (by decide) ?_
  refine va_putF (D := D) (ci := 2) (v := .ref q_96339) (ty := .array .int) (C := RX2) (T := TX2) (N := 8) hx hb hts inlX2 tyX2 tyX2_ok nmX2 hown hK hP hD hS 0 rfl rfl 5 (by decide) (hts (Cond.fieldLink RX2 24 "ChanceRings$Net" "held" "[I") qw_314) (fun _ h9 => h9) rfl hin rfl (by decide +kernel) rfl rfl (Nat.le_of_ble_eq_true rfl) dX2_init_41 (fun H locs hP hD hS => ?_)
  have hP : va_P D vwCl [(n, .inr (2, [.int 0, .ref q_96335, .ref q_96336, .ref q_96337, .ref q_96338, .ref q_96339, .null, .null])), (wI g q_96335 0 12 (fun _ => 0)), (wI g q_96336 0 12 (fun _ => 0)), (wI g q_96337 0 12 (fun _ => 0)), (wI g q_96338 0 12 (fun _ => 0)), (wI g q_96339 0 12 (fun _ => 0))] H := hP
  have hD : va_D A [(n, .inr (2, [.int 0, .ref q_96335, .ref q_96336, .ref q_96337, .ref q_96338, .ref q_96339, .null, .null])), (wI g q_96335 0 12 (fun _ => 0)), (wI g q_96336 0 12 (fun _ => 0)), (wI g q_96337 0 12 (fun _ => 0)), (wI g q_96338 0 12 (fun _ => 0)), (wI g q_96339 0 12 (fun _ => 0))] := hD
  refine lv_aload_n hx hb dX2_init_44 rfl (lv_at hl 0 rfl) ?_
  refine lv_bipush (v := 36) hx hb dX2_init_45 (by decide) ?_
  refine va_newa (atype := .int) (ty := .int) (N' := 36) (a0 := (36, .inl (fun _ => 0))) hx hb (hts (Cond.arrayClass .int) qw_913) rfl hK hP hD hS hA (fun _ => rfl) (by decide) (by decide +kernel) (by decide) (Nat.le_of_ble_eq_true rfl) (Nat.le_of_ble_eq_true rfl) dX2_init_47 (fun q_96340 cA H hK9 hP hD hS => ?_)
  obtain rfl : cA = g 0 := tz_clsI hK hK9
  have hP : va_P D vwCl [(n, .inr (2, [.int 0, .ref q_96335, .ref q_96336, .ref q_96337, .ref q_96338, .ref q_96339, .null, .null])), (wI g q_96335 0 12 (fun _ => 0)), (wI g q_96336 0 12 (fun _ => 0)), (wI g q_96337 0 12 (fun _ => 0)), (wI g q_96338 0 12 (fun _ => 0)), (wI g q_96339 0 12 (fun _ => 0)), (wI g q_96340 0 36 (fun _ => 0))] H := hP
  have hD : va_D A [(n, .inr (2, [.int 0, .ref q_96335, .ref q_96336, .ref q_96337, .ref q_96338, .ref q_96339, .null, .null])), (wI g q_96335 0 12 (fun _ => 0)), (wI g q_96336 0 12 (fun _ => 0)), (wI g q_96337 0 12 (fun _ => 0)), (wI g q_96338 0 12 (fun _ => 0)), (wI g q_96339 0 12 (fun _ => 0)), (wI g q_96340 0 36 (fun _ => 0))] := hD
  refine W.widen (k := 6) (n := 96) (by decide) (by decide) ?_
  refine va_putF (D := D) (ci := 2) (v := .ref q_96340) (ty := .array .int) (C := RX2) (T := TX2) (N := 8) hx hb hts inlX2 tyX2 tyX2_ok nmX2 hown hK hP hD hS 0 rfl rfl 6 (by decide) (hts (Cond.fieldLink RX2 27 "ChanceRings$Net" "targets" "[I") qw_315) (fun _ h9 => h9) rfl hin rfl (by decide +kernel) rfl rfl (Nat.le_of_ble_eq_true rfl) dX2_init_49 (fun H locs hP hD hS => ?_)
  have hP : va_P D vwCl [(n, .inr (2, [.int 0, .ref q_96335, .ref q_96336, .ref q_96337, .ref q_96338, .ref q_96339, .ref q_96340, .null])), (wI g q_96335 0 12 (fun _ => 0)), (wI g q_96336 0 12 (fun _ => 0)), (wI g q_96337 0 12 (fun _ => 0)), (wI g q_96338 0 12 (fun _ => 0)), (wI g q_96339 0 12 (fun _ => 0)), (wI g q_96340 0 36 (fun _ => 0))] H := hP
  have hD : va_D A [(n, .inr (2, [.int 0, .ref q_96335, .ref q_96336, .ref q_96337, .ref q_96338, .ref q_96339, .ref q_96340, .null])), (wI g q_96335 0 12 (fun _ => 0)), (wI g q_96336 0 12 (fun _ => 0)), (wI g q_96337 0 12 (fun _ => 0)), (wI g q_96338 0 12 (fun _ => 0)), (wI g q_96339 0 12 (fun _ => 0)), (wI g q_96340 0 36 (fun _ => 0))] := hD
  refine lv_aload_n hx hb dX2_init_52 rfl (lv_at hl 0 rfl) ?_
  refine lv_bipush (v := 36) hx hb dX2_init_53 (by decide) ?_
  refine va_newa (atype := .int) (ty := .int) (N' := 36) (a0 := (36, .inl (fun _ => 0))) hx hb (hts (Cond.arrayClass .int) qw_913) rfl hK hP hD hS hA (fun _ => rfl) (by decide) (by decide +kernel) (by decide) (Nat.le_of_ble_eq_true rfl) (Nat.le_of_ble_eq_true rfl) dX2_init_55 (fun q_96341 cA H hK9 hP hD hS => ?_)
  obtain rfl : cA = g 0 := tz_clsI hK hK9
  have hP : va_P D vwCl [(n, .inr (2, [.int 0, .ref q_96335, .ref q_96336, .ref q_96337, .ref q_96338, .ref q_96339, .ref q_96340, .null])), (wI g q_96335 0 12 (fun _ => 0)), (wI g q_96336 0 12 (fun _ => 0)), (wI g q_96337 0 12 (fun _ => 0)), (wI g q_96338 0 12 (fun _ => 0)), (wI g q_96339 0 12 (fun _ => 0)), (wI g q_96340 0 36 (fun _ => 0)), (wI g q_96341 0 36 (fun _ => 0))] H := hP
  have hD : va_D A [(n, .inr (2, [.int 0, .ref q_96335, .ref q_96336, .ref q_96337, .ref q_96338, .ref q_96339, .ref q_96340, .null])), (wI g q_96335 0 12 (fun _ => 0)), (wI g q_96336 0 12 (fun _ => 0)), (wI g q_96337 0 12 (fun _ => 0)), (wI g q_96338 0 12 (fun _ => 0)), (wI g q_96339 0 12 (fun _ => 0)), (wI g q_96340 0 36 (fun _ => 0)), (wI g q_96341 0 36 (fun _ => 0))] := hD
  refine W.widen (k := 7) (n := 132) (by decide) (by decide) ?_
  refine va_putF (D := D) (ci := 2) (v := .ref q_96341) (ty := .array .int) (C := RX2) (T := TX2) (N := 8) hx hb hts inlX2 tyX2 tyX2_ok nmX2 hown hK hP hD hS 0 rfl rfl 7 (by decide) (hts (Cond.fieldLink RX2 30 "ChanceRings$Net" "weights" "[I") qw_332) (fun _ h9 => h9) rfl hin rfl (by decide +kernel) rfl rfl (Nat.le_of_ble_eq_true rfl) dX2_init_57 (fun H locs hP hD hS => ?_)
  have hP : va_P D vwCl [(wO2 n 0 q_96335 q_96336 q_96337 q_96338 q_96339 q_96340 q_96341), (wI g q_96335 0 12 (fun _ => 0)), (wI g q_96336 0 12 (fun _ => 0)), (wI g q_96337 0 12 (fun _ => 0)), (wI g q_96338 0 12 (fun _ => 0)), (wI g q_96339 0 12 (fun _ => 0)), (wI g q_96340 0 36 (fun _ => 0)), (wI g q_96341 0 36 (fun _ => 0))] H := hP
  have hD : va_D A [(wO2 n 0 q_96335 q_96336 q_96337 q_96338 q_96339 q_96340 q_96341), (wI g q_96335 0 12 (fun _ => 0)), (wI g q_96336 0 12 (fun _ => 0)), (wI g q_96337 0 12 (fun _ => 0)), (wI g q_96338 0 12 (fun _ => 0)), (wI g q_96339 0 12 (fun _ => 0)), (wI g q_96340 0 36 (fun _ => 0)), (wI g q_96341 0 36 (fun _ => 0))] := hD
  have hP9 := hP.sub (ws' := [(wO2 n 0 q_96335 q_96336 q_96337 q_96338 q_96339 q_96340 q_96341), (wI g q_96335 0 12 (fun _ => 0)), (wI g q_96336 0 12 (fun _ => 0)), (wI g q_96337 0 12 (fun _ => 0)), (wI g q_96338 0 12 (fun _ => 0)), (wI g q_96339 0 12 (fun _ => 0)), (wI g q_96340 0 36 (fun _ => 0)), (wI g q_96341 0 36 (fun _ => 0))]) [0, 1, 2, 3, 4, 5, 6, 7] rfl
  have hD9 := hD.sub (ws' := [(wO2 n 0 q_96335 q_96336 q_96337 q_96338 q_96339 q_96340 q_96341), (wI g q_96335 0 12 (fun _ => 0)), (wI g q_96336 0 12 (fun _ => 0)), (wI g q_96337 0 12 (fun _ => 0)), (wI g q_96338 0 12 (fun _ => 0)), (wI g q_96339 0 12 (fun _ => 0)), (wI g q_96340 0 36 (fun _ => 0)), (wI g q_96341 0 36 (fun _ => 0))]) [0, 1, 2, 3, 4, 5, 6, 7] (by decide) rfl
  exact W.vret hx hb hr (fun t ht hW => ⟨⟨(), rfl, trivial, q_96335, q_96336, q_96337, q_96338, q_96339, q_96340, q_96341, by rw [ht]; exact hP9, hD9⟩, hS.F ht⟩) hS.2.2 dX2_init_60
set_option maxHeartbeats 4000000 in
set_option maxRecDepth 100000 in
theorem c_X10_init (l : Launch) (D : va_G) (g : Nat → ClassId) (sz : Nat) (ka kv : Nat → Nat) (ff : Nat → Nat → Int32) (vs : Nat) : Met l yX10_init (.code yX10_init cX10_init 1 none :: wsL_law) ({ frames := 1, cells := 1, slots := 12, locals := 12 }) (va_Pc [.ref vs] (fun U => U.heap.size = sz ∧ va_P D vwCl [(vs, .inr (10, [.null, .long 0]))] U.heap ∧ va_K D vwCl (TY g) U ∧ va_D (fun _ => True) [(vs, .inr (10, [.null, .long 0]))] ∧ ZI ka kv ff (va_A [(vs, .inr (10, [.null, .long 0]))] sz) U U.heap)) (va_Qv (fun (_ : Unit) => True) (fun _ t => ∃ vs_part : Nat, va_P D vwCl [(wO10 vs vs_part 1), (wJ g vs_part 1 12 (fun _ => 0))] t.heap ∧ va_D (va_A [(vs, .inr (10, [.null, .long 0]))] sz) [(wO10 vs vs_part 1), (wJ g vs_part 1 12 (fun _ => 0))]) (va_A [(vs, .inr (10, [.null, .long 0]))] sz)) 1 12 (va_A [(vs, .inr (10, [.null, .long 0]))] sz) := by
  refine Met.ofW (cc := cX10_init) (maxL := 1) (ret := none) (by decide) rfl ?_
  intro p e s m args below meth c s₁ B hml hv
  obtain ⟨rfl, hsz, hP, hK, hD0, hZ⟩ := hv
  have hx := B.exec
  have hb := B.bytes
  have hr := B.returns
  have hts0 := atoms_spec (ws := (.code yX10_init cX10_init 1 none :: wsL_law)) B.pre
  have hts : ∀ w ∈ wsL_law, w.before _ s = true := fun w h => hts0 w (List.mem_cons_of_mem _ h)
  have hown : s.vm.findClass RX10 = some m.cls := findClass_of_methodNamed B.named
  have hlocks := B.notSynchronized
  have hin : meth.name = "<init>" := (name_of_methodNamed B.named B.method).1
  subst hsz
  have hD := hD0.self (sz := s.heap.size)
  generalize hAe : va_A [(vs, .inr (10, [.null, .long 0]))] s.heap.size = A at hD hZ ⊢
  have hA : ∀ q : Nat, s.heap.size ≤ q → A q := fun q h => by rw [← hAe]; exact Or.inr h
  have hS : va_S A s.heap s.heap [] := va_S.rf
  have hP : va_P D vwCl [(vs, .inr (10, [.null, .long 0]))] s.heap := hP
  have hl := lv_entry ([.ref vs]) (n := 1) (Nat.le_of_ble_eq_true rfl)
  rw [lg_entry_eq]
  generalize (lg_sl ([.ref vs]) ++ List.replicate (1 - (lg_sl ([.ref vs])).length) Slot.unset).toArray = ls at hl ⊢
  have hl : lv_has ls 1 [(0, .ref vs)] := hl
  refine lv_aload_n hx hb dX10_init_0 rfl (lv_at hl 0 rfl) ?_
  refine W.objInit hx hb hown (hts (Cond.methodLink RX10 3 objectInit) qw_915) (hts (Cond.instanceMethod objectInit) qw_911) (hts (Cond.code objectInit ⟨#[0xb1]⟩ 1 none) qw_912) rfl (by rw [hml]; exact hl.1) rfl dX10_init_1 (Nat.le_of_ble_eq_true rfl) (Nat.le_of_ble_eq_true rfl) ?_
  refine W.eq (g2 := F0 m 4 ls []) rfl ?_
  refine lv_aload_n hx hb dX10_init_4 rfl (lv_at hl 0 rfl) ?_
  refine lv_bipush (v := 12) hx hb dX10_init_5 (by decide) ?_
  refine va_newa (atype := .long) (ty := .long) (N' := 12) (a0 := (12, .inr (.inl (fun _ => 0)))) hx hb (hts (Cond.arrayClass .long) qw_916) rfl hK hP hD hS hA (fun _ => rfl) (by decide) (by decide +kernel) (by decide) (Nat.le_of_ble_eq_true rfl) (Nat.le_of_ble_eq_true rfl) dX10_init_7 (fun q_96342 cA H hK9 hP hD hS => ?_)
  obtain rfl : cA = g 1 := tz_clsJ hK hK9
  have hP : va_P D vwCl [(vs, .inr (10, [.null, .long 0])), (wJ g q_96342 1 12 (fun _ => 0))] H := hP
  have hD : va_D A [(vs, .inr (10, [.null, .long 0])), (wJ g q_96342 1 12 (fun _ => 0))] := hD
  refine W.widen (k := 1) (n := 12) (by decide) (by decide) ?_
  refine va_putF (D := D) (ci := 10) (v := .ref q_96342) (ty := .array .long) (C := RX10) (T := TX10) (N := 2) hx hb hts inlX10 tyX10 tyX10_ok nmX10 hown hK hP hD hS 0 rfl rfl 0 (by decide) (hts (Cond.fieldLink RX10 9 "ChanceRings$Values" "part" "[J") qw_334) (fun _ h9 => h9) rfl hin rfl (by decide +kernel) rfl rfl (Nat.le_of_ble_eq_true rfl) dX10_init_9 (fun H locs hP hD hS => ?_)
  have hP : va_P D vwCl [(wO10 vs q_96342 0), (wJ g q_96342 1 12 (fun _ => 0))] H := hP
  have hD : va_D A [(wO10 vs q_96342 0), (wJ g q_96342 1 12 (fun _ => 0))] := hD
  refine lv_aload_n hx hb dX10_init_12 rfl (lv_at hl 0 rfl) ?_
  refine lv_lconst (v := 1) hx hb dX10_init_13 (by decide) ?_
  refine va_put (D := D) (ci := 10) (v := .long 1) (ty := .long) (C := RX10) (T := TX10) (N := 2) hx hb hts inlX10 tyX10 tyX10_ok nmX10 hown hK hP hD hS 0 rfl rfl 1 (by decide) (hts (Cond.fieldLink RX10 15 "ChanceRings$Values" "whole" "J") qw_335) (fun _ h9 => h9) rfl (by decide +kernel) rfl rfl (Nat.le_of_ble_eq_true rfl) dX10_init_14 (fun H locs hP hD hS => ?_)
  have hP : va_P D vwCl [(wO10 vs q_96342 1), (wJ g q_96342 1 12 (fun _ => 0))] H := hP
  have hD : va_D A [(wO10 vs q_96342 1), (wJ g q_96342 1 12 (fun _ => 0))] := hD
  have hP9 := hP.sub (ws' := [(wO10 vs q_96342 1), (wJ g q_96342 1 12 (fun _ => 0))]) [0, 1] rfl
  have hD9 := hD.sub (ws' := [(wO10 vs q_96342 1), (wJ g q_96342 1 12 (fun _ => 0))]) [0, 1] (by decide) rfl
  exact W.vret hx hb hr (fun t ht hW => ⟨⟨(), rfl, trivial, q_96342, by rw [ht]; exact hP9, hD9⟩, hS.F ht⟩) hS.2.2 dX10_init_17
set_option maxHeartbeats 4000000 in
set_option maxRecDepth 100000 in
theorem c_X9_init (l : Launch) (D : va_G) (g : Nat → ClassId) (sz : Nat) (ka kv : Nat → Nat) (ff : Nat → Nat → Int32) (tl : Nat) : Met l yX9_init (.code yX9_init cX9_init 1 none :: wsL_law) ({ frames := 1, cells := 1, slots := 700, locals := 12 }) (va_Pc [.ref tl] (fun U => U.heap.size = sz ∧ va_P D vwCl [(tl, .inr (9, [.null, .int 0]))] U.heap ∧ va_K D vwCl (TY g) U ∧ va_D (fun _ => True) [(tl, .inr (9, [.null, .int 0]))] ∧ ZI ka kv ff (va_A [(tl, .inr (9, [.null, .int 0]))] sz) U U.heap)) (va_Qv (fun (_ : Unit) => True) (fun _ t => ∃ tl_bytes : Nat, va_P D vwCl [(wO9 tl tl_bytes 0), (wI g tl_bytes 0 700 (fun _ => 0))] t.heap ∧ va_D (va_A [(tl, .inr (9, [.null, .int 0]))] sz) [(wO9 tl tl_bytes 0), (wI g tl_bytes 0 700 (fun _ => 0))]) (va_A [(tl, .inr (9, [.null, .int 0]))] sz)) 1 700 (va_A [(tl, .inr (9, [.null, .int 0]))] sz) := by
  refine Met.ofW (cc := cX9_init) (maxL := 1) (ret := none) (by decide) rfl ?_
  intro p e s m args below meth c s₁ B hml hv
  obtain ⟨rfl, hsz, hP, hK, hD0, hZ⟩ := hv
  have hx := B.exec
  have hb := B.bytes
  have hr := B.returns
  have hts0 := atoms_spec (ws := (.code yX9_init cX9_init 1 none :: wsL_law)) B.pre
  have hts : ∀ w ∈ wsL_law, w.before _ s = true := fun w h => hts0 w (List.mem_cons_of_mem _ h)
  have hown : s.vm.findClass RX9 = some m.cls := findClass_of_methodNamed B.named
  have hlocks := B.notSynchronized
  have hin : meth.name = "<init>" := (name_of_methodNamed B.named B.method).1
  subst hsz
  have hD := hD0.self (sz := s.heap.size)
  generalize hAe : va_A [(tl, .inr (9, [.null, .int 0]))] s.heap.size = A at hD hZ ⊢
  have hA : ∀ q : Nat, s.heap.size ≤ q → A q := fun q h => by rw [← hAe]; exact Or.inr h
  have hS : va_S A s.heap s.heap [] := va_S.rf
  have hP : va_P D vwCl [(tl, .inr (9, [.null, .int 0]))] s.heap := hP
  have hl := lv_entry ([.ref tl]) (n := 1) (Nat.le_of_ble_eq_true rfl)
  rw [lg_entry_eq]
  generalize (lg_sl ([.ref tl]) ++ List.replicate (1 - (lg_sl ([.ref tl])).length) Slot.unset).toArray = ls at hl ⊢
  have hl : lv_has ls 1 [(0, .ref tl)] := hl
  refine lv_aload_n hx hb dX9_init_0 rfl (lv_at hl 0 rfl) ?_
  refine W.objInit hx hb hown (hts (Cond.methodLink RX9 3 objectInit) qw_917) (hts (Cond.instanceMethod objectInit) qw_911) (hts (Cond.code objectInit ⟨#[0xb1]⟩ 1 none) qw_912) rfl (by rw [hml]; exact hl.1) rfl dX9_init_1 (Nat.le_of_ble_eq_true rfl) (Nat.le_of_ble_eq_true rfl) ?_
  refine W.eq (g2 := F0 m 4 ls []) rfl ?_
  refine lv_aload_n hx hb dX9_init_4 rfl (lv_at hl 0 rfl) ?_
  refine lv_sipush (v := 700) hx hb dX9_init_5 (by decide) ?_
  refine va_newa (atype := .int) (ty := .int) (N' := 700) (a0 := (700, .inl (fun _ => 0))) hx hb (hts (Cond.arrayClass .int) qw_913) rfl hK hP hD hS hA (fun _ => rfl) (by decide) (by decide +kernel) (by decide) (Nat.le_of_ble_eq_true rfl) (Nat.le_of_ble_eq_true rfl) dX9_init_8 (fun q_96343 cA H hK9 hP hD hS => ?_)
  obtain rfl : cA = g 0 := tz_clsI hK hK9
  have hP : va_P D vwCl [(tl, .inr (9, [.null, .int 0])), (wI g q_96343 0 700 (fun _ => 0))] H := hP
  have hD : va_D A [(tl, .inr (9, [.null, .int 0])), (wI g q_96343 0 700 (fun _ => 0))] := hD
  refine W.widen (k := 1) (n := 700) (by decide) (by decide) ?_
  refine va_putF (D := D) (ci := 9) (v := .ref q_96343) (ty := .array .int) (C := RX9) (T := TX9) (N := 2) hx hb hts inlX9 tyX9 tyX9_ok nmX9 hown hK hP hD hS 0 rfl rfl 0 (by decide) (hts (Cond.fieldLink RX9 9 "ChanceRings$Telling" "bytes" "[I") qw_347) (fun _ h9 => h9) rfl hin rfl (by decide +kernel) rfl rfl (Nat.le_of_ble_eq_true rfl) dX9_init_10 (fun H locs hP hD hS => ?_)
  have hP : va_P D vwCl [(wO9 tl q_96343 0), (wI g q_96343 0 700 (fun _ => 0))] H := hP
  have hD : va_D A [(wO9 tl q_96343 0), (wI g q_96343 0 700 (fun _ => 0))] := hD
  have hP9 := hP.sub (ws' := [(wO9 tl q_96343 0), (wI g q_96343 0 700 (fun _ => 0))]) [0, 1] rfl
  have hD9 := hD.sub (ws' := [(wO9 tl q_96343 0), (wI g q_96343 0 700 (fun _ => 0))]) [0, 1] (by decide) rfl
  exact W.vret hx hb hr (fun t ht hW => ⟨⟨(), rfl, trivial, q_96343, by rw [ht]; exact hP9, hD9⟩, hS.F ht⟩) hS.2.2 dX9_init_13
set_option maxHeartbeats 4000000 in
set_option maxRecDepth 100000 in
theorem c_X7_init (l : Launch) (D : va_G) (g : Nat → ClassId) (sz : Nat) (ka kv : Nat → Nat) (ff : Nat → Nat → Int32) (st : Nat) : Met l yX7_init (.code yX7_init cX7_init 1 none :: wsL_law) ({ frames := 1, cells := 4, slots := 32, locals := 12 }) (va_Pc [.ref st] (fun U => U.heap.size = sz ∧ va_P D vwCl [(st, .inr (7, [.null, .null, .null, .null, .int 0]))] U.heap ∧ va_K D vwCl (TY g) U ∧ va_D (fun _ => True) [(st, .inr (7, [.null, .null, .null, .null, .int 0]))] ∧ ZI ka kv ff (va_A [(st, .inr (7, [.null, .null, .null, .null, .int 0]))] sz) U U.heap)) (va_Qv (fun (_ : Unit) => True) (fun _ t => ∃ st_what : Nat, ∃ st_node : Nat, ∃ st_index : Nat, ∃ st_before : Nat, va_P D vwCl [(wO7 st st_what st_node st_index st_before 0), (wI g st_what 0 8 (fun _ => 0)), (wI g st_node 0 8 (fun _ => 0)), (wI g st_index 0 8 (fun _ => 0)), (wI g st_before 0 8 (fun _ => 0))] t.heap ∧ va_D (va_A [(st, .inr (7, [.null, .null, .null, .null, .int 0]))] sz) [(wO7 st st_what st_node st_index st_before 0), (wI g st_what 0 8 (fun _ => 0)), (wI g st_node 0 8 (fun _ => 0)), (wI g st_index 0 8 (fun _ => 0)), (wI g st_before 0 8 (fun _ => 0))]) (va_A [(st, .inr (7, [.null, .null, .null, .null, .int 0]))] sz)) 4 32 (va_A [(st, .inr (7, [.null, .null, .null, .null, .int 0]))] sz) := by
  refine Met.ofW (cc := cX7_init) (maxL := 1) (ret := none) (by decide) rfl ?_
  intro p e s m args below meth c s₁ B hml hv
  obtain ⟨rfl, hsz, hP, hK, hD0, hZ⟩ := hv
  have hx := B.exec
  have hb := B.bytes
  have hr := B.returns
  have hts0 := atoms_spec (ws := (.code yX7_init cX7_init 1 none :: wsL_law)) B.pre
  have hts : ∀ w ∈ wsL_law, w.before _ s = true := fun w h => hts0 w (List.mem_cons_of_mem _ h)
  have hown : s.vm.findClass RX7 = some m.cls := findClass_of_methodNamed B.named
  have hlocks := B.notSynchronized
  have hin : meth.name = "<init>" := (name_of_methodNamed B.named B.method).1
  subst hsz
  have hD := hD0.self (sz := s.heap.size)
  generalize hAe : va_A [(st, .inr (7, [.null, .null, .null, .null, .int 0]))] s.heap.size = A at hD hZ ⊢
  have hA : ∀ q : Nat, s.heap.size ≤ q → A q := fun q h => by rw [← hAe]; exact Or.inr h
  have hS : va_S A s.heap s.heap [] := va_S.rf
  have hP : va_P D vwCl [(st, .inr (7, [.null, .null, .null, .null, .int 0]))] s.heap := hP
  have hl := lv_entry ([.ref st]) (n := 1) (Nat.le_of_ble_eq_true rfl)
  rw [lg_entry_eq]
  generalize (lg_sl ([.ref st]) ++ List.replicate (1 - (lg_sl ([.ref st])).length) Slot.unset).toArray = ls at hl ⊢
  have hl : lv_has ls 1 [(0, .ref st)] := hl
  refine lv_aload_n hx hb dX7_init_0 rfl (lv_at hl 0 rfl) ?_
  refine W.objInit hx hb hown (hts (Cond.methodLink RX7 3 objectInit) qw_918) (hts (Cond.instanceMethod objectInit) qw_911) (hts (Cond.code objectInit ⟨#[0xb1]⟩ 1 none) qw_912) rfl (by rw [hml]; exact hl.1) rfl dX7_init_1 (Nat.le_of_ble_eq_true rfl) (Nat.le_of_ble_eq_true rfl) ?_
  refine W.eq (g2 := F0 m 4 ls []) rfl ?_
  refine lv_aload_n hx hb dX7_init_4 rfl (lv_at hl 0 rfl) ?_
  refine lv_bipush (v := 8) hx hb dX7_init_5 (by decide) ?_
  refine va_newa (atype := .int) (ty := .int) (N' := 8) (a0 := (8, .inl (fun _ => 0))) hx hb (hts (Cond.arrayClass .int) qw_913) rfl hK hP hD hS hA (fun _ => rfl) (by decide) (by decide +kernel) (by decide) (Nat.le_of_ble_eq_true rfl) (Nat.le_of_ble_eq_true rfl) dX7_init_7 (fun q_96344 cA H hK9 hP hD hS => ?_)
  obtain rfl : cA = g 0 := tz_clsI hK hK9
  have hP : va_P D vwCl [(st, .inr (7, [.null, .null, .null, .null, .int 0])), (wI g q_96344 0 8 (fun _ => 0))] H := hP
  have hD : va_D A [(st, .inr (7, [.null, .null, .null, .null, .int 0])), (wI g q_96344 0 8 (fun _ => 0))] := hD
  refine W.widen (k := 1) (n := 8) (by decide) (by decide) ?_
  refine va_putF (D := D) (ci := 7) (v := .ref q_96344) (ty := .array .int) (C := RX7) (T := TX7) (N := 5) hx hb hts inlX7 tyX7 tyX7_ok nmX7 hown hK hP hD hS 0 rfl rfl 0 (by decide) (hts (Cond.fieldLink RX7 9 "ChanceRings$Steps" "what" "[I") qw_603) (fun _ h9 => h9) rfl hin rfl (by decide +kernel) rfl rfl (Nat.le_of_ble_eq_true rfl) dX7_init_9 (fun H locs hP hD hS => ?_)
  have hP : va_P D vwCl [(st, .inr (7, [.ref q_96344, .null, .null, .null, .int 0])), (wI g q_96344 0 8 (fun _ => 0))] H := hP
  have hD : va_D A [(st, .inr (7, [.ref q_96344, .null, .null, .null, .int 0])), (wI g q_96344 0 8 (fun _ => 0))] := hD
  refine lv_aload_n hx hb dX7_init_12 rfl (lv_at hl 0 rfl) ?_
  refine lv_bipush (v := 8) hx hb dX7_init_13 (by decide) ?_
  refine va_newa (atype := .int) (ty := .int) (N' := 8) (a0 := (8, .inl (fun _ => 0))) hx hb (hts (Cond.arrayClass .int) qw_913) rfl hK hP hD hS hA (fun _ => rfl) (by decide) (by decide +kernel) (by decide) (Nat.le_of_ble_eq_true rfl) (Nat.le_of_ble_eq_true rfl) dX7_init_15 (fun q_96345 cA H hK9 hP hD hS => ?_)
  obtain rfl : cA = g 0 := tz_clsI hK hK9
  have hP : va_P D vwCl [(st, .inr (7, [.ref q_96344, .null, .null, .null, .int 0])), (wI g q_96344 0 8 (fun _ => 0)), (wI g q_96345 0 8 (fun _ => 0))] H := hP
  have hD : va_D A [(st, .inr (7, [.ref q_96344, .null, .null, .null, .int 0])), (wI g q_96344 0 8 (fun _ => 0)), (wI g q_96345 0 8 (fun _ => 0))] := hD
  refine W.widen (k := 2) (n := 16) (by decide) (by decide) ?_
  refine va_putF (D := D) (ci := 7) (v := .ref q_96345) (ty := .array .int) (C := RX7) (T := TX7) (N := 5) hx hb hts inlX7 tyX7 tyX7_ok nmX7 hown hK hP hD hS 0 rfl rfl 1 (by decide) (hts (Cond.fieldLink RX7 15 "ChanceRings$Steps" "node" "[I") qw_605) (fun _ h9 => h9) rfl hin rfl (by decide +kernel) rfl rfl (Nat.le_of_ble_eq_true rfl) dX7_init_17 (fun H locs hP hD hS => ?_)
  have hP : va_P D vwCl [(st, .inr (7, [.ref q_96344, .ref q_96345, .null, .null, .int 0])), (wI g q_96344 0 8 (fun _ => 0)), (wI g q_96345 0 8 (fun _ => 0))] H := hP
  have hD : va_D A [(st, .inr (7, [.ref q_96344, .ref q_96345, .null, .null, .int 0])), (wI g q_96344 0 8 (fun _ => 0)), (wI g q_96345 0 8 (fun _ => 0))] := hD
  refine lv_aload_n hx hb dX7_init_20 rfl (lv_at hl 0 rfl) ?_
  refine lv_bipush (v := 8) hx hb dX7_init_21 (by decide) ?_
  refine va_newa (atype := .int) (ty := .int) (N' := 8) (a0 := (8, .inl (fun _ => 0))) hx hb (hts (Cond.arrayClass .int) qw_913) rfl hK hP hD hS hA (fun _ => rfl) (by decide) (by decide +kernel) (by decide) (Nat.le_of_ble_eq_true rfl) (Nat.le_of_ble_eq_true rfl) dX7_init_23 (fun q_96346 cA H hK9 hP hD hS => ?_)
  obtain rfl : cA = g 0 := tz_clsI hK hK9
  have hP : va_P D vwCl [(st, .inr (7, [.ref q_96344, .ref q_96345, .null, .null, .int 0])), (wI g q_96344 0 8 (fun _ => 0)), (wI g q_96345 0 8 (fun _ => 0)), (wI g q_96346 0 8 (fun _ => 0))] H := hP
  have hD : va_D A [(st, .inr (7, [.ref q_96344, .ref q_96345, .null, .null, .int 0])), (wI g q_96344 0 8 (fun _ => 0)), (wI g q_96345 0 8 (fun _ => 0)), (wI g q_96346 0 8 (fun _ => 0))] := hD
  refine W.widen (k := 3) (n := 24) (by decide) (by decide) ?_
  refine va_putF (D := D) (ci := 7) (v := .ref q_96346) (ty := .array .int) (C := RX7) (T := TX7) (N := 5) hx hb hts inlX7 tyX7 tyX7_ok nmX7 hown hK hP hD hS 0 rfl rfl 2 (by decide) (hts (Cond.fieldLink RX7 18 "ChanceRings$Steps" "index" "[I") qw_606) (fun _ h9 => h9) rfl hin rfl (by decide +kernel) rfl rfl (Nat.le_of_ble_eq_true rfl) dX7_init_25 (fun H locs hP hD hS => ?_)
  have hP : va_P D vwCl [(st, .inr (7, [.ref q_96344, .ref q_96345, .ref q_96346, .null, .int 0])), (wI g q_96344 0 8 (fun _ => 0)), (wI g q_96345 0 8 (fun _ => 0)), (wI g q_96346 0 8 (fun _ => 0))] H := hP
  have hD : va_D A [(st, .inr (7, [.ref q_96344, .ref q_96345, .ref q_96346, .null, .int 0])), (wI g q_96344 0 8 (fun _ => 0)), (wI g q_96345 0 8 (fun _ => 0)), (wI g q_96346 0 8 (fun _ => 0))] := hD
  refine lv_aload_n hx hb dX7_init_28 rfl (lv_at hl 0 rfl) ?_
  refine lv_bipush (v := 8) hx hb dX7_init_29 (by decide) ?_
  refine va_newa (atype := .int) (ty := .int) (N' := 8) (a0 := (8, .inl (fun _ => 0))) hx hb (hts (Cond.arrayClass .int) qw_913) rfl hK hP hD hS hA (fun _ => rfl) (by decide) (by decide +kernel) (by decide) (Nat.le_of_ble_eq_true rfl) (Nat.le_of_ble_eq_true rfl) dX7_init_31 (fun q_96347 cA H hK9 hP hD hS => ?_)
  obtain rfl : cA = g 0 := tz_clsI hK hK9
  have hP : va_P D vwCl [(st, .inr (7, [.ref q_96344, .ref q_96345, .ref q_96346, .null, .int 0])), (wI g q_96344 0 8 (fun _ => 0)), (wI g q_96345 0 8 (fun _ => 0)), (wI g q_96346 0 8 (fun _ => 0)), (wI g q_96347 0 8 (fun _ => 0))] H := hP
  have hD : va_D A [(st, .inr (7, [.ref q_96344, .ref q_96345, .ref q_96346, .null, .int 0])), (wI g q_96344 0 8 (fun _ => 0)), (wI g q_96345 0 8 (fun _ => 0)), (wI g q_96346 0 8 (fun _ => 0)), (wI g q_96347 0 8 (fun _ => 0))] := hD
  refine W.widen (k := 4) (n := 32) (by decide) (by decide) ?_
  refine va_putF (D := D) (ci := 7) (v := .ref q_96347) (ty := .array .int) (C := RX7) (T := TX7) (N := 5) hx hb hts inlX7 tyX7 tyX7_ok nmX7 hown hK hP hD hS 0 rfl rfl 3 (by decide) (hts (Cond.fieldLink RX7 21 "ChanceRings$Steps" "before" "[I") qw_607) (fun _ h9 => h9) rfl hin rfl (by decide +kernel) rfl rfl (Nat.le_of_ble_eq_true rfl) dX7_init_33 (fun H locs hP hD hS => ?_)
  have hP : va_P D vwCl [(wO7 st q_96344 q_96345 q_96346 q_96347 0), (wI g q_96344 0 8 (fun _ => 0)), (wI g q_96345 0 8 (fun _ => 0)), (wI g q_96346 0 8 (fun _ => 0)), (wI g q_96347 0 8 (fun _ => 0))] H := hP
  have hD : va_D A [(wO7 st q_96344 q_96345 q_96346 q_96347 0), (wI g q_96344 0 8 (fun _ => 0)), (wI g q_96345 0 8 (fun _ => 0)), (wI g q_96346 0 8 (fun _ => 0)), (wI g q_96347 0 8 (fun _ => 0))] := hD
  have hP9 := hP.sub (ws' := [(wO7 st q_96344 q_96345 q_96346 q_96347 0), (wI g q_96344 0 8 (fun _ => 0)), (wI g q_96345 0 8 (fun _ => 0)), (wI g q_96346 0 8 (fun _ => 0)), (wI g q_96347 0 8 (fun _ => 0))]) [0, 1, 2, 3, 4] rfl
  have hD9 := hD.sub (ws' := [(wO7 st q_96344 q_96345 q_96346 q_96347 0), (wI g q_96344 0 8 (fun _ => 0)), (wI g q_96345 0 8 (fun _ => 0)), (wI g q_96346 0 8 (fun _ => 0)), (wI g q_96347 0 8 (fun _ => 0))]) [0, 1, 2, 3, 4] (by decide) rfl
  exact W.vret hx hb hr (fun t ht hW => ⟨⟨(), rfl, trivial, q_96344, q_96345, q_96346, q_96347, by rw [ht]; exact hP9, hD9⟩, hS.F ht⟩) hS.2.2 dX7_init_36
set_option maxHeartbeats 4000000 in
set_option maxRecDepth 100000 in
theorem c_X5_init (l : Launch) (D : va_G) (g : Nat → ClassId) (sz : Nat) (ka kv : Nat → Nat) (ff : Nat → Nat → Int32) (rg : Nat) (n : Nat) : Met l yX5_init (.code yX5_init cX5_init 2 none :: wsL_law) ({ frames := 1, cells := 0, slots := 0, locals := 12 }) (va_Pc [.ref rg, .ref n] (fun U => U.heap.size = sz ∧ va_P D vwCl [(rg, .inr (5, [.null]))] U.heap ∧ va_K D vwCl (TY g) U ∧ va_D (fun _ => True) [(rg, .inr (5, [.null]))] ∧ ZI ka kv ff (va_A [(rg, .inr (5, [.null]))] sz) U U.heap)) (va_Qv (fun (_ : Unit) => True) (fun _ t => va_P D vwCl [(wO5 rg n)] t.heap ∧ va_D (va_A [(rg, .inr (5, [.null]))] sz) [(wO5 rg n)]) (va_A [(rg, .inr (5, [.null]))] sz)) 0 0 (va_A [(rg, .inr (5, [.null]))] sz) := by
  refine Met.ofW (cc := cX5_init) (maxL := 2) (ret := none) (by decide) rfl ?_
  intro p e s m args below meth c s₁ B hml hv
  obtain ⟨rfl, hsz, hP, hK, hD0, hZ⟩ := hv
  have hx := B.exec
  have hb := B.bytes
  have hr := B.returns
  have hts0 := atoms_spec (ws := (.code yX5_init cX5_init 2 none :: wsL_law)) B.pre
  have hts : ∀ w ∈ wsL_law, w.before _ s = true := fun w h => hts0 w (List.mem_cons_of_mem _ h)
  have hown : s.vm.findClass RX5 = some m.cls := findClass_of_methodNamed B.named
  have hlocks := B.notSynchronized
  have hin : meth.name = "<init>" := (name_of_methodNamed B.named B.method).1
  subst hsz
  have hD := hD0.self (sz := s.heap.size)
  generalize hAe : va_A [(rg, .inr (5, [.null]))] s.heap.size = A at hD hZ ⊢
  have hA : ∀ q : Nat, s.heap.size ≤ q → A q := fun q h => by rw [← hAe]; exact Or.inr h
  have hS : va_S A s.heap s.heap [] := va_S.rf
  have hP : va_P D vwCl [(rg, .inr (5, [.null]))] s.heap := hP
  have hl := lv_entry ([.ref rg, .ref n]) (n := 2) (Nat.le_of_ble_eq_true rfl)
  rw [lg_entry_eq]
  generalize (lg_sl ([.ref rg, .ref n]) ++ List.replicate (2 - (lg_sl ([.ref rg, .ref n])).length) Slot.unset).toArray = ls at hl ⊢
  have hl : lv_has ls 2 [(0, .ref rg), (1, .ref n)] := hl
  refine lv_aload_n hx hb dX5_init_0 rfl (lv_at hl 0 rfl) ?_
  refine W.objInit hx hb hown (hts (Cond.methodLink RX5 3 objectInit) qw_919) (hts (Cond.instanceMethod objectInit) qw_911) (hts (Cond.code objectInit ⟨#[0xb1]⟩ 1 none) qw_912) rfl (by rw [hml]; exact hl.1) rfl dX5_init_1 (Nat.le_of_ble_eq_true rfl) (Nat.le_of_ble_eq_true rfl) ?_
  refine W.eq (g2 := F0 m 4 ls []) rfl ?_
  refine lv_aload_n hx hb dX5_init_4 rfl (lv_at hl 0 rfl) ?_
  refine lv_aload_n hx hb dX5_init_5 rfl (lv_at hl 1 rfl) ?_
  refine va_putF (D := D) (ci := 5) (v := .ref n) (ty := .object "ChanceRings$Net") (C := RX5) (T := TX5) (N := 1) hx hb hts inlX5 tyX5 tyX5_ok nmX5 hown hK hP hD hS 0 rfl rfl 0 (by decide) (hts (Cond.fieldLink RX5 9 "ChanceRings$Regions" "net" "LChanceRings$Net;") qw_456) (fun _ h9 => h9) rfl hin rfl (by decide +kernel) rfl rfl (Nat.le_of_ble_eq_true rfl) dX5_init_6 (fun H locs hP hD hS => ?_)
  have hP : va_P D vwCl [(wO5 rg n)] H := hP
  have hD : va_D A [(wO5 rg n)] := hD
  have hP9 := hP.sub (ws' := [(wO5 rg n)]) [0] rfl
  have hD9 := hD.sub (ws' := [(wO5 rg n)]) [0] (by decide) rfl
  exact W.vret hx hb hr (fun t ht hW => ⟨⟨(), rfl, trivial, by rw [ht]; exact hP9, hD9⟩, hS.F ht⟩) hS.2.2 dX5_init_9
set_option maxHeartbeats 4000000 in
set_option maxRecDepth 100000 in
theorem c_X1_init (l : Launch) (D : va_G) (g : Nat → ClassId) (sz : Nat) (ka kv : Nat → Nat) (ff : Nat → Nat → Int32) (eq : Nat) : Met l yX1_init (.code yX1_init cX1_init 1 none :: wsL_law) ({ frames := 1, cells := 10, slots := 80, locals := 12 }) (va_Pc [.ref eq] (fun U => U.heap.size = sz ∧ va_P D vwCl [(eq, .inr (1, [.null, .null, .long 0]))] U.heap ∧ va_K D vwCl (TY g) U ∧ va_D (fun _ => True) [(eq, .inr (1, [.null, .null, .long 0]))] ∧ ZI ka kv ff (va_A [(eq, .inr (1, [.null, .null, .long 0]))] sz) U U.heap)) (va_Qv (fun (_ : Unit) => True) (fun _ t => ∃ eq_rows : Nat, ∃ eq_right : Nat, ∃ rr : Nat → Nat, va_P D vwCl [(wO1 eq eq_rows eq_right 0), (wJ g eq_right 1 8 (fun _ => 0)), (wR g eq_rows 5 8 (fun i => if i < 8 then some (rr i) else none)), (wJ g (rr 0) 1 8 (fun _ => 0)), (wJ g (rr 1) 1 8 (fun _ => 0)), (wJ g (rr 2) 1 8 (fun _ => 0)), (wJ g (rr 3) 1 8 (fun _ => 0)), (wJ g (rr 4) 1 8 (fun _ => 0)), (wJ g (rr 5) 1 8 (fun _ => 0)), (wJ g (rr 6) 1 8 (fun _ => 0)), (wJ g (rr 7) 1 8 (fun _ => 0))] t.heap ∧ va_D (va_A [(eq, .inr (1, [.null, .null, .long 0]))] sz) [(wO1 eq eq_rows eq_right 0), (wJ g eq_right 1 8 (fun _ => 0)), (wR g eq_rows 5 8 (fun i => if i < 8 then some (rr i) else none)), (wJ g (rr 0) 1 8 (fun _ => 0)), (wJ g (rr 1) 1 8 (fun _ => 0)), (wJ g (rr 2) 1 8 (fun _ => 0)), (wJ g (rr 3) 1 8 (fun _ => 0)), (wJ g (rr 4) 1 8 (fun _ => 0)), (wJ g (rr 5) 1 8 (fun _ => 0)), (wJ g (rr 6) 1 8 (fun _ => 0)), (wJ g (rr 7) 1 8 (fun _ => 0))]) (va_A [(eq, .inr (1, [.null, .null, .long 0]))] sz)) 10 80 (va_A [(eq, .inr (1, [.null, .null, .long 0]))] sz) := by
  refine Met.ofW (cc := cX1_init) (maxL := 1) (ret := none) (by decide) rfl ?_
  intro p e s m args below meth c s₁ B hml hv
  obtain ⟨rfl, hsz, hP, hK, hD0, hZ⟩ := hv
  have hx := B.exec
  have hb := B.bytes
  have hr := B.returns
  have hts0 := atoms_spec (ws := (.code yX1_init cX1_init 1 none :: wsL_law)) B.pre
  have hts : ∀ w ∈ wsL_law, w.before _ s = true := fun w h => hts0 w (List.mem_cons_of_mem _ h)
  have hown : s.vm.findClass RX1 = some m.cls := findClass_of_methodNamed B.named
  have hlocks := B.notSynchronized
  have hin : meth.name = "<init>" := (name_of_methodNamed B.named B.method).1
  subst hsz
  have hD := hD0.self (sz := s.heap.size)
  generalize hAe : va_A [(eq, .inr (1, [.null, .null, .long 0]))] s.heap.size = A at hD hZ ⊢
  have hA : ∀ q : Nat, s.heap.size ≤ q → A q := fun q h => by rw [← hAe]; exact Or.inr h
  have hS : va_S A s.heap s.heap [] := va_S.rf
  have hP : va_P D vwCl [(eq, .inr (1, [.null, .null, .long 0]))] s.heap := hP
  have hl := lv_entry ([.ref eq]) (n := 1) (Nat.le_of_ble_eq_true rfl)
  rw [lg_entry_eq]
  generalize (lg_sl ([.ref eq]) ++ List.replicate (1 - (lg_sl ([.ref eq])).length) Slot.unset).toArray = ls at hl ⊢
  have hl : lv_has ls 1 [(0, .ref eq)] := hl
  refine lv_aload_n hx hb dX1_init_0 rfl (lv_at hl 0 rfl) ?_
  refine W.objInit hx hb hown (hts (Cond.methodLink RX1 3 objectInit) qw_920) (hts (Cond.instanceMethod objectInit) qw_911) (hts (Cond.code objectInit ⟨#[0xb1]⟩ 1 none) qw_912) rfl (by rw [hml]; exact hl.1) rfl dX1_init_1 (Nat.le_of_ble_eq_true rfl) (Nat.le_of_ble_eq_true rfl) ?_
  refine W.eq (g2 := F0 m 4 ls []) rfl ?_
  refine lv_aload_n hx hb dX1_init_4 rfl (lv_at hl 0 rfl) ?_
  refine lv_bipush (v := 8) hx hb dX1_init_5 (by decide) ?_
  refine lv_bipush (v := 8) hx hb dX1_init_7 (by decide) ?_
  refine va_mna (X := [(eq, .inr (1, [.null, .null, .long 0]))]) (L := []) (f := fun _ => .inr (0, [])) (ty := .long) (N' := 8) (K' := 8) (z := (8, .inr (.inl (fun _ => 0)))) hx hb hown (hts (Cond.classLink RX1 9 ("[" ++ (FieldType.array .long).toString)) qJJ_RX1) hZ.2.1 (hts (Cond.arrayClass .long) qw_916) (hK.2 1 _ rfl).2 hK hP hD hS hA (by decide) (by decide) (by decide +kernel) (by decide +kernel) (by decide) (by decide) (by decide) rfl rfl (Nat.le_of_ble_eq_true rfl) (Nat.le_of_ble_eq_true rfl) (fun c => tz_inner c 8) dX1_init_9 (fun q_96348 rr_96349 cA H _ _ hK9 hP hD hS => ?_)
  obtain rfl : cA = g 5 := tz_clsR hK hK9
  rw [tz_pool] at hP hD
  have hP : va_P D vwCl [(eq, .inr (1, [.null, .null, .long 0])), (wR g q_96348 5 8 (fun i => if i < 8 then some (rr_96349 i) else none)), (wJ g (rr_96349 0) 1 8 (fun _ => 0)), (wJ g (rr_96349 1) 1 8 (fun _ => 0)), (wJ g (rr_96349 2) 1 8 (fun _ => 0)), (wJ g (rr_96349 3) 1 8 (fun _ => 0)), (wJ g (rr_96349 4) 1 8 (fun _ => 0)), (wJ g (rr_96349 5) 1 8 (fun _ => 0)), (wJ g (rr_96349 6) 1 8 (fun _ => 0)), (wJ g (rr_96349 7) 1 8 (fun _ => 0))] H := hP
  have hD : va_D A [(eq, .inr (1, [.null, .null, .long 0])), (wR g q_96348 5 8 (fun i => if i < 8 then some (rr_96349 i) else none)), (wJ g (rr_96349 0) 1 8 (fun _ => 0)), (wJ g (rr_96349 1) 1 8 (fun _ => 0)), (wJ g (rr_96349 2) 1 8 (fun _ => 0)), (wJ g (rr_96349 3) 1 8 (fun _ => 0)), (wJ g (rr_96349 4) 1 8 (fun _ => 0)), (wJ g (rr_96349 5) 1 8 (fun _ => 0)), (wJ g (rr_96349 6) 1 8 (fun _ => 0)), (wJ g (rr_96349 7) 1 8 (fun _ => 0))] := hD
  refine W.widen (k := 9) (n := 72) (by decide) (by decide) ?_
  refine va_putF (D := D) (ci := 1) (v := .ref q_96348) (ty := .array (.array .long)) (C := RX1) (T := TX1) (N := 3) hx hb hts inlX1 tyX1 tyX1_ok nmX1 hown hK hP hD hS 0 rfl rfl 0 (by decide) (hts (Cond.fieldLink RX1 11 "ChanceRings$Equations" "rows" "[[J") qw_477) (fun _ h9 => h9) rfl hin rfl (by decide +kernel) rfl rfl (Nat.le_of_ble_eq_true rfl) dX1_init_13 (fun H locs hP hD hS => ?_)
  have hP : va_P D vwCl [(eq, .inr (1, [.ref q_96348, .null, .long 0])), (wR g q_96348 5 8 (fun i => if i < 8 then some (rr_96349 i) else none)), (wJ g (rr_96349 0) 1 8 (fun _ => 0)), (wJ g (rr_96349 1) 1 8 (fun _ => 0)), (wJ g (rr_96349 2) 1 8 (fun _ => 0)), (wJ g (rr_96349 3) 1 8 (fun _ => 0)), (wJ g (rr_96349 4) 1 8 (fun _ => 0)), (wJ g (rr_96349 5) 1 8 (fun _ => 0)), (wJ g (rr_96349 6) 1 8 (fun _ => 0)), (wJ g (rr_96349 7) 1 8 (fun _ => 0))] H := hP
  have hD : va_D A [(eq, .inr (1, [.ref q_96348, .null, .long 0])), (wR g q_96348 5 8 (fun i => if i < 8 then some (rr_96349 i) else none)), (wJ g (rr_96349 0) 1 8 (fun _ => 0)), (wJ g (rr_96349 1) 1 8 (fun _ => 0)), (wJ g (rr_96349 2) 1 8 (fun _ => 0)), (wJ g (rr_96349 3) 1 8 (fun _ => 0)), (wJ g (rr_96349 4) 1 8 (fun _ => 0)), (wJ g (rr_96349 5) 1 8 (fun _ => 0)), (wJ g (rr_96349 6) 1 8 (fun _ => 0)), (wJ g (rr_96349 7) 1 8 (fun _ => 0))] := hD
  refine lv_aload_n hx hb dX1_init_16 rfl (lv_at hl 0 rfl) ?_
  refine lv_bipush (v := 8) hx hb dX1_init_17 (by decide) ?_
  refine va_newa (atype := .long) (ty := .long) (N' := 8) (a0 := (8, .inr (.inl (fun _ => 0)))) hx hb (hts (Cond.arrayClass .long) qw_916) rfl hK hP hD hS hA (fun _ => rfl) (by decide) (by decide +kernel) (by decide) (Nat.le_of_ble_eq_true rfl) (Nat.le_of_ble_eq_true rfl) dX1_init_19 (fun q_96350 cA H hK9 hP hD hS => ?_)
  obtain rfl : cA = g 1 := tz_clsJ hK hK9
  have hP : va_P D vwCl [(eq, .inr (1, [.ref q_96348, .null, .long 0])), (wR g q_96348 5 8 (fun i => if i < 8 then some (rr_96349 i) else none)), (wJ g (rr_96349 0) 1 8 (fun _ => 0)), (wJ g (rr_96349 1) 1 8 (fun _ => 0)), (wJ g (rr_96349 2) 1 8 (fun _ => 0)), (wJ g (rr_96349 3) 1 8 (fun _ => 0)), (wJ g (rr_96349 4) 1 8 (fun _ => 0)), (wJ g (rr_96349 5) 1 8 (fun _ => 0)), (wJ g (rr_96349 6) 1 8 (fun _ => 0)), (wJ g (rr_96349 7) 1 8 (fun _ => 0)), (wJ g q_96350 1 8 (fun _ => 0))] H := hP
  have hD : va_D A [(eq, .inr (1, [.ref q_96348, .null, .long 0])), (wR g q_96348 5 8 (fun i => if i < 8 then some (rr_96349 i) else none)), (wJ g (rr_96349 0) 1 8 (fun _ => 0)), (wJ g (rr_96349 1) 1 8 (fun _ => 0)), (wJ g (rr_96349 2) 1 8 (fun _ => 0)), (wJ g (rr_96349 3) 1 8 (fun _ => 0)), (wJ g (rr_96349 4) 1 8 (fun _ => 0)), (wJ g (rr_96349 5) 1 8 (fun _ => 0)), (wJ g (rr_96349 6) 1 8 (fun _ => 0)), (wJ g (rr_96349 7) 1 8 (fun _ => 0)), (wJ g q_96350 1 8 (fun _ => 0))] := hD
  refine W.widen (k := 10) (n := 80) (by decide) (by decide) ?_
  refine va_putF (D := D) (ci := 1) (v := .ref q_96350) (ty := .array .long) (C := RX1) (T := TX1) (N := 3) hx hb hts inlX1 tyX1 tyX1_ok nmX1 hown hK hP hD hS 0 rfl rfl 1 (by decide) (hts (Cond.fieldLink RX1 16 "ChanceRings$Equations" "right" "[J") qw_476) (fun _ h9 => h9) rfl hin rfl (by decide +kernel) rfl rfl (Nat.le_of_ble_eq_true rfl) dX1_init_21 (fun H locs hP hD hS => ?_)
  have hP : va_P D vwCl [(wO1 eq q_96348 q_96350 0), (wR g q_96348 5 8 (fun i => if i < 8 then some (rr_96349 i) else none)), (wJ g (rr_96349 0) 1 8 (fun _ => 0)), (wJ g (rr_96349 1) 1 8 (fun _ => 0)), (wJ g (rr_96349 2) 1 8 (fun _ => 0)), (wJ g (rr_96349 3) 1 8 (fun _ => 0)), (wJ g (rr_96349 4) 1 8 (fun _ => 0)), (wJ g (rr_96349 5) 1 8 (fun _ => 0)), (wJ g (rr_96349 6) 1 8 (fun _ => 0)), (wJ g (rr_96349 7) 1 8 (fun _ => 0)), (wJ g q_96350 1 8 (fun _ => 0))] H := hP
  have hD : va_D A [(wO1 eq q_96348 q_96350 0), (wR g q_96348 5 8 (fun i => if i < 8 then some (rr_96349 i) else none)), (wJ g (rr_96349 0) 1 8 (fun _ => 0)), (wJ g (rr_96349 1) 1 8 (fun _ => 0)), (wJ g (rr_96349 2) 1 8 (fun _ => 0)), (wJ g (rr_96349 3) 1 8 (fun _ => 0)), (wJ g (rr_96349 4) 1 8 (fun _ => 0)), (wJ g (rr_96349 5) 1 8 (fun _ => 0)), (wJ g (rr_96349 6) 1 8 (fun _ => 0)), (wJ g (rr_96349 7) 1 8 (fun _ => 0)), (wJ g q_96350 1 8 (fun _ => 0))] := hD
  have hP9 := hP.sub (ws' := [(wO1 eq q_96348 q_96350 0), (wJ g q_96350 1 8 (fun _ => 0)), (wR g q_96348 5 8 (fun i => if i < 8 then some (rr_96349 i) else none)), (wJ g (rr_96349 0) 1 8 (fun _ => 0)), (wJ g (rr_96349 1) 1 8 (fun _ => 0)), (wJ g (rr_96349 2) 1 8 (fun _ => 0)), (wJ g (rr_96349 3) 1 8 (fun _ => 0)), (wJ g (rr_96349 4) 1 8 (fun _ => 0)), (wJ g (rr_96349 5) 1 8 (fun _ => 0)), (wJ g (rr_96349 6) 1 8 (fun _ => 0)), (wJ g (rr_96349 7) 1 8 (fun _ => 0))]) [0, 10, 1, 2, 3, 4, 5, 6, 7, 8, 9] rfl
  have hD9 := hD.sub (ws' := [(wO1 eq q_96348 q_96350 0), (wJ g q_96350 1 8 (fun _ => 0)), (wR g q_96348 5 8 (fun i => if i < 8 then some (rr_96349 i) else none)), (wJ g (rr_96349 0) 1 8 (fun _ => 0)), (wJ g (rr_96349 1) 1 8 (fun _ => 0)), (wJ g (rr_96349 2) 1 8 (fun _ => 0)), (wJ g (rr_96349 3) 1 8 (fun _ => 0)), (wJ g (rr_96349 4) 1 8 (fun _ => 0)), (wJ g (rr_96349 5) 1 8 (fun _ => 0)), (wJ g (rr_96349 6) 1 8 (fun _ => 0)), (wJ g (rr_96349 7) 1 8 (fun _ => 0))]) [0, 10, 1, 2, 3, 4, 5, 6, 7, 8, 9] (by decide) rfl
  exact W.vret hx hb hr (fun t ht hW => ⟨⟨(), rfl, trivial, q_96348, q_96350, rr_96349, by rw [ht]; exact hP9, hD9⟩, hS.F ht⟩) hS.2.2 dX1_init_24
set_option maxHeartbeats 4000000 in
set_option maxRecDepth 100000 in
theorem c_X0_init (l : Launch) (D : va_G) (g : Nat → ClassId) (sz : Nat) (ka kv : Nat → Nat) (ff : Nat → Nat → Int32) (co : Nat) (n : Nat) : Met l yX0_init (.code yX0_init cX0_init 2 none :: wsL_law) ({ frames := 2, cells := 12, slots := 95, locals := 32 }) (va_Pc [.ref co, .ref n] (fun U => U.heap.size = sz ∧ va_P D vwCl [(co, .inr (0, [.null, .null, .null]))] U.heap ∧ va_K D vwCl (TY g) U ∧ va_D (fun _ => True) [(co, .inr (0, [.null, .null, .null]))] ∧ ZI ka kv ff (va_A [(co, .inr (0, [.null, .null, .null]))] sz) U U.heap)) (va_Qv (fun (_ : Unit) => True) (fun _ t => ∃ co_place : Nat, ∃ eq : Nat, ∃ eq_rows : Nat, ∃ eq_right : Nat, ∃ rr : Nat → Nat, va_P D vwCl [(wO0 co n eq co_place), (wI g co_place 0 12 (fun _ => 0)), (wO1 eq eq_rows eq_right 0), (wJ g eq_right 1 8 (fun _ => 0)), (wR g eq_rows 5 8 (fun i => if i < 8 then some (rr i) else none)), (wJ g (rr 0) 1 8 (fun _ => 0)), (wJ g (rr 1) 1 8 (fun _ => 0)), (wJ g (rr 2) 1 8 (fun _ => 0)), (wJ g (rr 3) 1 8 (fun _ => 0)), (wJ g (rr 4) 1 8 (fun _ => 0)), (wJ g (rr 5) 1 8 (fun _ => 0)), (wJ g (rr 6) 1 8 (fun _ => 0)), (wJ g (rr 7) 1 8 (fun _ => 0))] t.heap ∧ va_D (va_A [(co, .inr (0, [.null, .null, .null]))] sz) [(wO0 co n eq co_place), (wI g co_place 0 12 (fun _ => 0)), (wO1 eq eq_rows eq_right 0), (wJ g eq_right 1 8 (fun _ => 0)), (wR g eq_rows 5 8 (fun i => if i < 8 then some (rr i) else none)), (wJ g (rr 0) 1 8 (fun _ => 0)), (wJ g (rr 1) 1 8 (fun _ => 0)), (wJ g (rr 2) 1 8 (fun _ => 0)), (wJ g (rr 3) 1 8 (fun _ => 0)), (wJ g (rr 4) 1 8 (fun _ => 0)), (wJ g (rr 5) 1 8 (fun _ => 0)), (wJ g (rr 6) 1 8 (fun _ => 0)), (wJ g (rr 7) 1 8 (fun _ => 0))]) (va_A [(co, .inr (0, [.null, .null, .null]))] sz)) 12 95 (va_A [(co, .inr (0, [.null, .null, .null]))] sz) := by
  refine Met.ofW (cc := cX0_init) (maxL := 2) (ret := none) (by decide) rfl ?_
  intro p e s m args below meth c s₁ B hml hv
  obtain ⟨rfl, hsz, hP, hK, hD0, hZ⟩ := hv
  have hx := B.exec
  have hb := B.bytes
  have hr := B.returns
  have hts0 := atoms_spec (ws := (.code yX0_init cX0_init 2 none :: wsL_law)) B.pre
  have hts : ∀ w ∈ wsL_law, w.before _ s = true := fun w h => hts0 w (List.mem_cons_of_mem _ h)
  have hown : s.vm.findClass RX0 = some m.cls := findClass_of_methodNamed B.named
  have hlocks := B.notSynchronized
  have hin : meth.name = "<init>" := (name_of_methodNamed B.named B.method).1
  subst hsz
  have hD := hD0.self (sz := s.heap.size)
  generalize hAe : va_A [(co, .inr (0, [.null, .null, .null]))] s.heap.size = A at hD hZ ⊢
  have hA : ∀ q : Nat, s.heap.size ≤ q → A q := fun q h => by rw [← hAe]; exact Or.inr h
  have hS : va_S A s.heap s.heap [] := va_S.rf
  have hP : va_P D vwCl [(co, .inr (0, [.null, .null, .null]))] s.heap := hP
  have hl := lv_entry ([.ref co, .ref n]) (n := 2) (Nat.le_of_ble_eq_true rfl)
  rw [lg_entry_eq]
  generalize (lg_sl ([.ref co, .ref n]) ++ List.replicate (2 - (lg_sl ([.ref co, .ref n])).length) Slot.unset).toArray = ls at hl ⊢
  have hl : lv_has ls 2 [(0, .ref co), (1, .ref n)] := hl
  refine lv_aload_n hx hb dX0_init_0 rfl (lv_at hl 0 rfl) ?_
  refine W.objInit hx hb hown (hts (Cond.methodLink RX0 3 objectInit) qw_921) (hts (Cond.instanceMethod objectInit) qw_911) (hts (Cond.code objectInit ⟨#[0xb1]⟩ 1 none) qw_912) rfl (by rw [hml]; exact hl.1) rfl dX0_init_1 (Nat.le_of_ble_eq_true rfl) (Nat.le_of_ble_eq_true rfl) ?_
  refine W.eq (g2 := F0 m 4 ls []) rfl ?_
  refine lv_aload_n hx hb dX0_init_4 rfl (lv_at hl 0 rfl) ?_
  refine va_new (ci := 1) (fs := [.null, .null, .long 0]) (C := RX1) (T := TX1) (N := 3) hx hb hts inlX1 tyX1 tyX1_ok hown (hts (Cond.classLink RX0 9 RX1) qw_922) (hts (Cond.instantiable RX1 3) qw_923) (hts (Cond.initialized RX1) qw_482) hK hP hD hS hA rfl hfs_X1 (Nat.le_of_ble_eq_true rfl) (Nat.le_of_ble_eq_true rfl) dX0_init_5 (fun q_96351 H hP hD hS => ?_)
  have hP : va_P D vwCl [(co, .inr (0, [.null, .null, .null])), (q_96351, .inr (1, [.null, .null, .long 0]))] H := hP
  have hD : va_D A [(co, .inr (0, [.null, .null, .null])), (q_96351, .inr (1, [.null, .null, .long 0]))] := hD
  refine W.widen (k := 1) (n := 3) (by decide) (by decide) ?_
  refine lv_dup hx hb dX0_init_8 rfl ?_
  have hPc := hP.sub (ws' := [(q_96351, .inr (1, [.null, .null, .long 0]))]) [1] rfl
  have hDc := hD.sub (ws' := [(q_96351, .inr (1, [.null, .null, .long 0]))]) [1] (by decide) rfl
  have hFc := va_free (wc := [(q_96351, .inr (1, [.null, .null, .long 0]))]) hD hS hA [1] rfl
  refine va_callv (va_runIN (As := []) (rest := [.ref q_96351, .ref co]) ⟨hx, hb, hml, hown, hts⟩ (c_X1_init l D g H.size ka kv ff q_96351) ⟨va_cnB 0 hts (tz_gC qw_924) rfl rfl rfl hZ.2.2.1 (hts (Cond.initialized RX1) qw_482) (by decide +kernel) ⟨Nat.le_of_ble_eq_true rfl, Nat.le_of_ble_eq_true rfl⟩, rfl, (hts (Cond.instanceMethod yX1_init) qw_925)⟩ ⟨tz_blI, tz_preI hPc hK hDc (hZ.kept hS hFc)⟩ rfl rfl hl.1 rfl (lv_room (Nat.le_of_ble_eq_true rfl)) dX0_init_9 ⟨Nat.le_of_ble_eq_true rfl, Nat.le_of_ble_eq_true rfl⟩) hS (fun q _ h => hFc q h) hFc (fun u t H1 locs ht hvm hw hB hz1 hk1 hS => ?_)
  obtain ⟨eq_rows_96353, eq_right_96354, rr_96355, hP1, hD1⟩ := hB
  rw [ht] at hP1
  obtain ⟨hP, hD⟩ := va_join (wr := [(co, .inr (0, [.null, .null, .null]))]) (w1 := [(wO1 q_96351 eq_rows_96353 eq_right_96354 0), (wJ g eq_right_96354 1 8 (fun _ => 0)), (wR g eq_rows_96353 5 8 (fun i => if i < 8 then some (rr_96355 i) else none)), (wJ g (rr_96355 0) 1 8 (fun _ => 0)), (wJ g (rr_96355 1) 1 8 (fun _ => 0)), (wJ g (rr_96355 2) 1 8 (fun _ => 0)), (wJ g (rr_96355 3) 1 8 (fun _ => 0)), (wJ g (rr_96355 4) 1 8 (fun _ => 0)), (wJ g (rr_96355 5) 1 8 (fun _ => 0)), (wJ g (rr_96355 6) 1 8 (fun _ => 0)), (wJ g (rr_96355 7) 1 8 (fun _ => 0))]) hP hD [1] [0] rfl rfl (by decide) (by decide) hk1 hFc hP1 hD1
  generalize H1 = H at hP hS ⊢
  have hP : va_P D vwCl [(co, .inr (0, [.null, .null, .null])), (wO1 q_96351 eq_rows_96353 eq_right_96354 0), (wJ g eq_right_96354 1 8 (fun _ => 0)), (wR g eq_rows_96353 5 8 (fun i => if i < 8 then some (rr_96355 i) else none)), (wJ g (rr_96355 0) 1 8 (fun _ => 0)), (wJ g (rr_96355 1) 1 8 (fun _ => 0)), (wJ g (rr_96355 2) 1 8 (fun _ => 0)), (wJ g (rr_96355 3) 1 8 (fun _ => 0)), (wJ g (rr_96355 4) 1 8 (fun _ => 0)), (wJ g (rr_96355 5) 1 8 (fun _ => 0)), (wJ g (rr_96355 6) 1 8 (fun _ => 0)), (wJ g (rr_96355 7) 1 8 (fun _ => 0))] H := hP
  have hD : va_D A [(co, .inr (0, [.null, .null, .null])), (wO1 q_96351 eq_rows_96353 eq_right_96354 0), (wJ g eq_right_96354 1 8 (fun _ => 0)), (wR g eq_rows_96353 5 8 (fun i => if i < 8 then some (rr_96355 i) else none)), (wJ g (rr_96355 0) 1 8 (fun _ => 0)), (wJ g (rr_96355 1) 1 8 (fun _ => 0)), (wJ g (rr_96355 2) 1 8 (fun _ => 0)), (wJ g (rr_96355 3) 1 8 (fun _ => 0)), (wJ g (rr_96355 4) 1 8 (fun _ => 0)), (wJ g (rr_96355 5) 1 8 (fun _ => 0)), (wJ g (rr_96355 6) 1 8 (fun _ => 0)), (wJ g (rr_96355 7) 1 8 (fun _ => 0))] := hD
  refine W.widen (k := 11) (n := 83) (by decide) (by decide) ?_
  refine va_putF (D := D) (ci := 0) (v := .ref q_96351) (ty := .object "ChanceRings$Equations") (C := RX0) (T := TX0) (N := 3) hx hb hts inlX0 tyX0 tyX0_ok nmX0 hown hK hP hD hS 0 rfl rfl 1 (by decide) (hts (Cond.fieldLink RX0 12 "ChanceRings$Course" "equations" "LChanceRings$Equations;") qw_497) (fun _ h9 => h9) rfl hin rfl (by decide +kernel) rfl rfl (Nat.le_of_ble_eq_true rfl) dX0_init_12 (fun H locs hP hD hS => ?_)
  have hP : va_P D vwCl [(co, .inr (0, [.null, .ref q_96351, .null])), (wO1 q_96351 eq_rows_96353 eq_right_96354 0), (wJ g eq_right_96354 1 8 (fun _ => 0)), (wR g eq_rows_96353 5 8 (fun i => if i < 8 then some (rr_96355 i) else none)), (wJ g (rr_96355 0) 1 8 (fun _ => 0)), (wJ g (rr_96355 1) 1 8 (fun _ => 0)), (wJ g (rr_96355 2) 1 8 (fun _ => 0)), (wJ g (rr_96355 3) 1 8 (fun _ => 0)), (wJ g (rr_96355 4) 1 8 (fun _ => 0)), (wJ g (rr_96355 5) 1 8 (fun _ => 0)), (wJ g (rr_96355 6) 1 8 (fun _ => 0)), (wJ g (rr_96355 7) 1 8 (fun _ => 0))] H := hP
  have hD : va_D A [(co, .inr (0, [.null, .ref q_96351, .null])), (wO1 q_96351 eq_rows_96353 eq_right_96354 0), (wJ g eq_right_96354 1 8 (fun _ => 0)), (wR g eq_rows_96353 5 8 (fun i => if i < 8 then some (rr_96355 i) else none)), (wJ g (rr_96355 0) 1 8 (fun _ => 0)), (wJ g (rr_96355 1) 1 8 (fun _ => 0)), (wJ g (rr_96355 2) 1 8 (fun _ => 0)), (wJ g (rr_96355 3) 1 8 (fun _ => 0)), (wJ g (rr_96355 4) 1 8 (fun _ => 0)), (wJ g (rr_96355 5) 1 8 (fun _ => 0)), (wJ g (rr_96355 6) 1 8 (fun _ => 0)), (wJ g (rr_96355 7) 1 8 (fun _ => 0))] := hD
  refine lv_aload_n hx hb dX0_init_15 rfl (lv_at hl 0 rfl) ?_
  refine lv_bipush (v := 12) hx hb dX0_init_16 (by decide) ?_
  refine va_newa (atype := .int) (ty := .int) (N' := 12) (a0 := (12, .inl (fun _ => 0))) hx hb (hts (Cond.arrayClass .int) qw_913) rfl hK hP hD hS hA (fun _ => rfl) (by decide) (by decide +kernel) (by decide) (Nat.le_of_ble_eq_true rfl) (Nat.le_of_ble_eq_true rfl) dX0_init_18 (fun q_96356 cA H hK9 hP hD hS => ?_)
  obtain rfl : cA = g 0 := tz_clsI hK hK9
  have hP : va_P D vwCl [(co, .inr (0, [.null, .ref q_96351, .null])), (wO1 q_96351 eq_rows_96353 eq_right_96354 0), (wJ g eq_right_96354 1 8 (fun _ => 0)), (wR g eq_rows_96353 5 8 (fun i => if i < 8 then some (rr_96355 i) else none)), (wJ g (rr_96355 0) 1 8 (fun _ => 0)), (wJ g (rr_96355 1) 1 8 (fun _ => 0)), (wJ g (rr_96355 2) 1 8 (fun _ => 0)), (wJ g (rr_96355 3) 1 8 (fun _ => 0)), (wJ g (rr_96355 4) 1 8 (fun _ => 0)), (wJ g (rr_96355 5) 1 8 (fun _ => 0)), (wJ g (rr_96355 6) 1 8 (fun _ => 0)), (wJ g (rr_96355 7) 1 8 (fun _ => 0)), (wI g q_96356 0 12 (fun _ => 0))] H := hP
  have hD : va_D A [(co, .inr (0, [.null, .ref q_96351, .null])), (wO1 q_96351 eq_rows_96353 eq_right_96354 0), (wJ g eq_right_96354 1 8 (fun _ => 0)), (wR g eq_rows_96353 5 8 (fun i => if i < 8 then some (rr_96355 i) else none)), (wJ g (rr_96355 0) 1 8 (fun _ => 0)), (wJ g (rr_96355 1) 1 8 (fun _ => 0)), (wJ g (rr_96355 2) 1 8 (fun _ => 0)), (wJ g (rr_96355 3) 1 8 (fun _ => 0)), (wJ g (rr_96355 4) 1 8 (fun _ => 0)), (wJ g (rr_96355 5) 1 8 (fun _ => 0)), (wJ g (rr_96355 6) 1 8 (fun _ => 0)), (wJ g (rr_96355 7) 1 8 (fun _ => 0)), (wI g q_96356 0 12 (fun _ => 0))] := hD
  refine W.widen (k := 12) (n := 95) (by decide) (by decide) ?_
  refine va_putF (D := D) (ci := 0) (v := .ref q_96356) (ty := .array .int) (C := RX0) (T := TX0) (N := 3) hx hb hts inlX0 tyX0 tyX0_ok nmX0 hown hK hP hD hS 0 rfl rfl 2 (by decide) (hts (Cond.fieldLink RX0 18 "ChanceRings$Course" "place" "[I") qw_474) (fun _ h9 => h9) rfl hin rfl (by decide +kernel) rfl rfl (Nat.le_of_ble_eq_true rfl) dX0_init_20 (fun H locs hP hD hS => ?_)
  have hP : va_P D vwCl [(co, .inr (0, [.null, .ref q_96351, .ref q_96356])), (wO1 q_96351 eq_rows_96353 eq_right_96354 0), (wJ g eq_right_96354 1 8 (fun _ => 0)), (wR g eq_rows_96353 5 8 (fun i => if i < 8 then some (rr_96355 i) else none)), (wJ g (rr_96355 0) 1 8 (fun _ => 0)), (wJ g (rr_96355 1) 1 8 (fun _ => 0)), (wJ g (rr_96355 2) 1 8 (fun _ => 0)), (wJ g (rr_96355 3) 1 8 (fun _ => 0)), (wJ g (rr_96355 4) 1 8 (fun _ => 0)), (wJ g (rr_96355 5) 1 8 (fun _ => 0)), (wJ g (rr_96355 6) 1 8 (fun _ => 0)), (wJ g (rr_96355 7) 1 8 (fun _ => 0)), (wI g q_96356 0 12 (fun _ => 0))] H := hP
  have hD : va_D A [(co, .inr (0, [.null, .ref q_96351, .ref q_96356])), (wO1 q_96351 eq_rows_96353 eq_right_96354 0), (wJ g eq_right_96354 1 8 (fun _ => 0)), (wR g eq_rows_96353 5 8 (fun i => if i < 8 then some (rr_96355 i) else none)), (wJ g (rr_96355 0) 1 8 (fun _ => 0)), (wJ g (rr_96355 1) 1 8 (fun _ => 0)), (wJ g (rr_96355 2) 1 8 (fun _ => 0)), (wJ g (rr_96355 3) 1 8 (fun _ => 0)), (wJ g (rr_96355 4) 1 8 (fun _ => 0)), (wJ g (rr_96355 5) 1 8 (fun _ => 0)), (wJ g (rr_96355 6) 1 8 (fun _ => 0)), (wJ g (rr_96355 7) 1 8 (fun _ => 0)), (wI g q_96356 0 12 (fun _ => 0))] := hD
  refine lv_aload_n hx hb dX0_init_23 rfl (lv_at hl 0 rfl) ?_
  refine lv_aload_n hx hb dX0_init_24 rfl (lv_at hl 1 rfl) ?_
  refine va_putF (D := D) (ci := 0) (v := .ref n) (ty := .object "ChanceRings$Net") (C := RX0) (T := TX0) (N := 3) hx hb hts inlX0 tyX0 tyX0_ok nmX0 hown hK hP hD hS 0 rfl rfl 0 (by decide) (hts (Cond.fieldLink RX0 22 "ChanceRings$Course" "net" "LChanceRings$Net;") qw_463) (fun _ h9 => h9) rfl hin rfl (by decide +kernel) rfl rfl (Nat.le_of_ble_eq_true rfl) dX0_init_25 (fun H locs hP hD hS => ?_)
  have hP : va_P D vwCl [(wO0 co n q_96351 q_96356), (wO1 q_96351 eq_rows_96353 eq_right_96354 0), (wJ g eq_right_96354 1 8 (fun _ => 0)), (wR g eq_rows_96353 5 8 (fun i => if i < 8 then some (rr_96355 i) else none)), (wJ g (rr_96355 0) 1 8 (fun _ => 0)), (wJ g (rr_96355 1) 1 8 (fun _ => 0)), (wJ g (rr_96355 2) 1 8 (fun _ => 0)), (wJ g (rr_96355 3) 1 8 (fun _ => 0)), (wJ g (rr_96355 4) 1 8 (fun _ => 0)), (wJ g (rr_96355 5) 1 8 (fun _ => 0)), (wJ g (rr_96355 6) 1 8 (fun _ => 0)), (wJ g (rr_96355 7) 1 8 (fun _ => 0)), (wI g q_96356 0 12 (fun _ => 0))] H := hP
  have hD : va_D A [(wO0 co n q_96351 q_96356), (wO1 q_96351 eq_rows_96353 eq_right_96354 0), (wJ g eq_right_96354 1 8 (fun _ => 0)), (wR g eq_rows_96353 5 8 (fun i => if i < 8 then some (rr_96355 i) else none)), (wJ g (rr_96355 0) 1 8 (fun _ => 0)), (wJ g (rr_96355 1) 1 8 (fun _ => 0)), (wJ g (rr_96355 2) 1 8 (fun _ => 0)), (wJ g (rr_96355 3) 1 8 (fun _ => 0)), (wJ g (rr_96355 4) 1 8 (fun _ => 0)), (wJ g (rr_96355 5) 1 8 (fun _ => 0)), (wJ g (rr_96355 6) 1 8 (fun _ => 0)), (wJ g (rr_96355 7) 1 8 (fun _ => 0)), (wI g q_96356 0 12 (fun _ => 0))] := hD
  have hP9 := hP.sub (ws' := [(wO0 co n q_96351 q_96356), (wI g q_96356 0 12 (fun _ => 0)), (wO1 q_96351 eq_rows_96353 eq_right_96354 0), (wJ g eq_right_96354 1 8 (fun _ => 0)), (wR g eq_rows_96353 5 8 (fun i => if i < 8 then some (rr_96355 i) else none)), (wJ g (rr_96355 0) 1 8 (fun _ => 0)), (wJ g (rr_96355 1) 1 8 (fun _ => 0)), (wJ g (rr_96355 2) 1 8 (fun _ => 0)), (wJ g (rr_96355 3) 1 8 (fun _ => 0)), (wJ g (rr_96355 4) 1 8 (fun _ => 0)), (wJ g (rr_96355 5) 1 8 (fun _ => 0)), (wJ g (rr_96355 6) 1 8 (fun _ => 0)), (wJ g (rr_96355 7) 1 8 (fun _ => 0))]) [0, 12, 1, 2, 3, 4, 5, 6, 7, 8, 9, 10, 11] rfl
  have hD9 := hD.sub (ws' := [(wO0 co n q_96351 q_96356), (wI g q_96356 0 12 (fun _ => 0)), (wO1 q_96351 eq_rows_96353 eq_right_96354 0), (wJ g eq_right_96354 1 8 (fun _ => 0)), (wR g eq_rows_96353 5 8 (fun i => if i < 8 then some (rr_96355 i) else none)), (wJ g (rr_96355 0) 1 8 (fun _ => 0)), (wJ g (rr_96355 1) 1 8 (fun _ => 0)), (wJ g (rr_96355 2) 1 8 (fun _ => 0)), (wJ g (rr_96355 3) 1 8 (fun _ => 0)), (wJ g (rr_96355 4) 1 8 (fun _ => 0)), (wJ g (rr_96355 5) 1 8 (fun _ => 0)), (wJ g (rr_96355 6) 1 8 (fun _ => 0)), (wJ g (rr_96355 7) 1 8 (fun _ => 0))]) [0, 12, 1, 2, 3, 4, 5, 6, 7, 8, 9, 10, 11] (by decide) rfl
  exact W.vret hx hb hr (fun t ht hW => ⟨⟨(), rfl, trivial, q_96356, q_96351, eq_rows_96353, eq_right_96354, rr_96355, by rw [ht]; exact hP9, hD9⟩, hS.F ht⟩) hS.2.2 dX0_init_28
set_option maxHeartbeats 4000000 in
set_option maxRecDepth 100000 in
theorem c_X6_init (l : Launch) (D : va_G) (g : Nat → ClassId) (sz : Nat) (ka kv : Nat → Nat) (ff : Nat → Nat → Int32) (sv : Nat) (n : Nat) : Met l yX6_init (.code yX6_init cX6_init 2 none :: wsL_law) ({ frames := 3, cells := 15, slots := 122, locals := 53 }) (va_Pc [.ref sv, .ref n] (fun U => U.heap.size = sz ∧ va_P D vwCl [(sv, .inr (6, [.null, .null, .null, .null]))] U.heap ∧ va_K D vwCl (TY g) U ∧ va_D (fun _ => True) [(sv, .inr (6, [.null, .null, .null, .null]))] ∧ ZI ka kv ff (va_A [(sv, .inr (6, [.null, .null, .null, .null]))] sz) U U.heap)) (va_Qv (fun (_ : Unit) => True) (fun _ t => ∃ sv_keep : Nat, ∃ sv_scaled : Nat, ∃ co : Nat, ∃ co_place : Nat, ∃ eq : Nat, ∃ eq_rows : Nat, ∃ eq_right : Nat, ∃ rr : Nat → Nat, va_P D vwCl [(wO6 sv n co sv_keep sv_scaled), (wI g sv_keep 0 12 (fun _ => 0)), (wJ g sv_scaled 1 12 (fun _ => 0)), (wO0 co n eq co_place), (wI g co_place 0 12 (fun _ => 0)), (wO1 eq eq_rows eq_right 0), (wJ g eq_right 1 8 (fun _ => 0)), (wR g eq_rows 5 8 (fun i => if i < 8 then some (rr i) else none)), (wJ g (rr 0) 1 8 (fun _ => 0)), (wJ g (rr 1) 1 8 (fun _ => 0)), (wJ g (rr 2) 1 8 (fun _ => 0)), (wJ g (rr 3) 1 8 (fun _ => 0)), (wJ g (rr 4) 1 8 (fun _ => 0)), (wJ g (rr 5) 1 8 (fun _ => 0)), (wJ g (rr 6) 1 8 (fun _ => 0)), (wJ g (rr 7) 1 8 (fun _ => 0))] t.heap ∧ va_D (va_A [(sv, .inr (6, [.null, .null, .null, .null]))] sz) [(wO6 sv n co sv_keep sv_scaled), (wI g sv_keep 0 12 (fun _ => 0)), (wJ g sv_scaled 1 12 (fun _ => 0)), (wO0 co n eq co_place), (wI g co_place 0 12 (fun _ => 0)), (wO1 eq eq_rows eq_right 0), (wJ g eq_right 1 8 (fun _ => 0)), (wR g eq_rows 5 8 (fun i => if i < 8 then some (rr i) else none)), (wJ g (rr 0) 1 8 (fun _ => 0)), (wJ g (rr 1) 1 8 (fun _ => 0)), (wJ g (rr 2) 1 8 (fun _ => 0)), (wJ g (rr 3) 1 8 (fun _ => 0)), (wJ g (rr 4) 1 8 (fun _ => 0)), (wJ g (rr 5) 1 8 (fun _ => 0)), (wJ g (rr 6) 1 8 (fun _ => 0)), (wJ g (rr 7) 1 8 (fun _ => 0))]) (va_A [(sv, .inr (6, [.null, .null, .null, .null]))] sz)) 15 122 (va_A [(sv, .inr (6, [.null, .null, .null, .null]))] sz) := by
  refine Met.ofW (cc := cX6_init) (maxL := 2) (ret := none) (by decide) rfl ?_
  intro p e s m args below meth c s₁ B hml hv
  obtain ⟨rfl, hsz, hP, hK, hD0, hZ⟩ := hv
  have hx := B.exec
  have hb := B.bytes
  have hr := B.returns
  have hts0 := atoms_spec (ws := (.code yX6_init cX6_init 2 none :: wsL_law)) B.pre
  have hts : ∀ w ∈ wsL_law, w.before _ s = true := fun w h => hts0 w (List.mem_cons_of_mem _ h)
  have hown : s.vm.findClass RX6 = some m.cls := findClass_of_methodNamed B.named
  have hlocks := B.notSynchronized
  have hin : meth.name = "<init>" := (name_of_methodNamed B.named B.method).1
  subst hsz
  have hD := hD0.self (sz := s.heap.size)
  generalize hAe : va_A [(sv, .inr (6, [.null, .null, .null, .null]))] s.heap.size = A at hD hZ ⊢
  have hA : ∀ q : Nat, s.heap.size ≤ q → A q := fun q h => by rw [← hAe]; exact Or.inr h
  have hS : va_S A s.heap s.heap [] := va_S.rf
  have hP : va_P D vwCl [(sv, .inr (6, [.null, .null, .null, .null]))] s.heap := hP
  have hl := lv_entry ([.ref sv, .ref n]) (n := 2) (Nat.le_of_ble_eq_true rfl)
  rw [lg_entry_eq]
  generalize (lg_sl ([.ref sv, .ref n]) ++ List.replicate (2 - (lg_sl ([.ref sv, .ref n])).length) Slot.unset).toArray = ls at hl ⊢
  have hl : lv_has ls 2 [(0, .ref sv), (1, .ref n)] := hl
  refine lv_aload_n hx hb dX6_init_0 rfl (lv_at hl 0 rfl) ?_
  refine W.objInit hx hb hown (hts (Cond.methodLink RX6 3 objectInit) qw_926) (hts (Cond.instanceMethod objectInit) qw_911) (hts (Cond.code objectInit ⟨#[0xb1]⟩ 1 none) qw_912) rfl (by rw [hml]; exact hl.1) rfl dX6_init_1 (Nat.le_of_ble_eq_true rfl) (Nat.le_of_ble_eq_true rfl) ?_
  refine W.eq (g2 := F0 m 4 ls []) rfl ?_
  refine lv_aload_n hx hb dX6_init_4 rfl (lv_at hl 0 rfl) ?_
  refine lv_bipush (v := 12) hx hb dX6_init_5 (by decide) ?_
  refine va_newa (atype := .int) (ty := .int) (N' := 12) (a0 := (12, .inl (fun _ => 0))) hx hb (hts (Cond.arrayClass .int) qw_913) rfl hK hP hD hS hA (fun _ => rfl) (by decide) (by decide +kernel) (by decide) (Nat.le_of_ble_eq_true rfl) (Nat.le_of_ble_eq_true rfl) dX6_init_7 (fun q_96357 cA H hK9 hP hD hS => ?_)
  obtain rfl : cA = g 0 := tz_clsI hK hK9
  have hP : va_P D vwCl [(sv, .inr (6, [.null, .null, .null, .null])), (wI g q_96357 0 12 (fun _ => 0))] H := hP
  have hD : va_D A [(sv, .inr (6, [.null, .null, .null, .null])), (wI g q_96357 0 12 (fun _ => 0))] := hD
  refine W.widen (k := 1) (n := 12) (by decide) (by decide) ?_
  refine va_putF (D := D) (ci := 6) (v := .ref q_96357) (ty := .array .int) (C := RX6) (T := TX6) (N := 4) hx hb hts inlX6 tyX6 tyX6_ok nmX6 hown hK hP hD hS 0 rfl rfl 2 (by decide) (hts (Cond.fieldLink RX6 9 "ChanceRings$Solver" "keep" "[I") qw_567) (fun _ h9 => h9) rfl hin rfl (by decide +kernel) rfl rfl (Nat.le_of_ble_eq_true rfl) dX6_init_9 (fun H locs hP hD hS => ?_)
  have hP : va_P D vwCl [(sv, .inr (6, [.null, .null, .ref q_96357, .null])), (wI g q_96357 0 12 (fun _ => 0))] H := hP
  have hD : va_D A [(sv, .inr (6, [.null, .null, .ref q_96357, .null])), (wI g q_96357 0 12 (fun _ => 0))] := hD
  refine lv_aload_n hx hb dX6_init_12 rfl (lv_at hl 0 rfl) ?_
  refine lv_bipush (v := 12) hx hb dX6_init_13 (by decide) ?_
  refine va_newa (atype := .long) (ty := .long) (N' := 12) (a0 := (12, .inr (.inl (fun _ => 0)))) hx hb (hts (Cond.arrayClass .long) qw_916) rfl hK hP hD hS hA (fun _ => rfl) (by decide) (by decide +kernel) (by decide) (Nat.le_of_ble_eq_true rfl) (Nat.le_of_ble_eq_true rfl) dX6_init_15 (fun q_96358 cA H hK9 hP hD hS => ?_)
  obtain rfl : cA = g 1 := tz_clsJ hK hK9
  have hP : va_P D vwCl [(sv, .inr (6, [.null, .null, .ref q_96357, .null])), (wI g q_96357 0 12 (fun _ => 0)), (wJ g q_96358 1 12 (fun _ => 0))] H := hP
  have hD : va_D A [(sv, .inr (6, [.null, .null, .ref q_96357, .null])), (wI g q_96357 0 12 (fun _ => 0)), (wJ g q_96358 1 12 (fun _ => 0))] := hD
  refine W.widen (k := 2) (n := 24) (by decide) (by decide) ?_
  refine va_putF (D := D) (ci := 6) (v := .ref q_96358) (ty := .array .long) (C := RX6) (T := TX6) (N := 4) hx hb hts inlX6 tyX6 tyX6_ok nmX6 hown hK hP hD hS 0 rfl rfl 3 (by decide) (hts (Cond.fieldLink RX6 15 "ChanceRings$Solver" "scaled" "[J") qw_595) (fun _ h9 => h9) rfl hin rfl (by decide +kernel) rfl rfl (Nat.le_of_ble_eq_true rfl) dX6_init_17 (fun H locs hP hD hS => ?_)
  have hP : va_P D vwCl [(sv, .inr (6, [.null, .null, .ref q_96357, .ref q_96358])), (wI g q_96357 0 12 (fun _ => 0)), (wJ g q_96358 1 12 (fun _ => 0))] H := hP
  have hD : va_D A [(sv, .inr (6, [.null, .null, .ref q_96357, .ref q_96358])), (wI g q_96357 0 12 (fun _ => 0)), (wJ g q_96358 1 12 (fun _ => 0))] := hD
  refine lv_aload_n hx hb dX6_init_20 rfl (lv_at hl 0 rfl) ?_
  refine lv_aload_n hx hb dX6_init_21 rfl (lv_at hl 1 rfl) ?_
  refine va_putF (D := D) (ci := 6) (v := .ref n) (ty := .object "ChanceRings$Net") (C := RX6) (T := TX6) (N := 4) hx hb hts inlX6 tyX6 tyX6_ok nmX6 hown hK hP hD hS 0 rfl rfl 0 (by decide) (hts (Cond.fieldLink RX6 19 "ChanceRings$Solver" "net" "LChanceRings$Net;") qw_528) (fun _ h9 => h9) rfl hin rfl (by decide +kernel) rfl rfl (Nat.le_of_ble_eq_true rfl) dX6_init_22 (fun H locs hP hD hS => ?_)
  have hP : va_P D vwCl [(sv, .inr (6, [.ref n, .null, .ref q_96357, .ref q_96358])), (wI g q_96357 0 12 (fun _ => 0)), (wJ g q_96358 1 12 (fun _ => 0))] H := hP
  have hD : va_D A [(sv, .inr (6, [.ref n, .null, .ref q_96357, .ref q_96358])), (wI g q_96357 0 12 (fun _ => 0)), (wJ g q_96358 1 12 (fun _ => 0))] := hD
  refine lv_aload_n hx hb dX6_init_25 rfl (lv_at hl 0 rfl) ?_
  refine va_new (ci := 0) (fs := [.null, .null, .null]) (C := RX0) (T := TX0) (N := 3) hx hb hts inlX0 tyX0 tyX0_ok hown (hts (Cond.classLink RX6 23 RX0) qw_927) (hts (Cond.instantiable RX0 3) qw_928) (hts (Cond.initialized RX0) qw_470) hK hP hD hS hA rfl hfs_X0 (Nat.le_of_ble_eq_true rfl) (Nat.le_of_ble_eq_true rfl) dX6_init_26 (fun q_96359 H hP hD hS => ?_)
  have hP : va_P D vwCl [(sv, .inr (6, [.ref n, .null, .ref q_96357, .ref q_96358])), (wI g q_96357 0 12 (fun _ => 0)), (wJ g q_96358 1 12 (fun _ => 0)), (q_96359, .inr (0, [.null, .null, .null]))] H := hP
  have hD : va_D A [(sv, .inr (6, [.ref n, .null, .ref q_96357, .ref q_96358])), (wI g q_96357 0 12 (fun _ => 0)), (wJ g q_96358 1 12 (fun _ => 0)), (q_96359, .inr (0, [.null, .null, .null]))] := hD
  refine W.widen (k := 3) (n := 27) (by decide) (by decide) ?_
  refine lv_dup hx hb dX6_init_29 rfl ?_
  refine lv_aload_n hx hb dX6_init_30 rfl (lv_at hl 1 rfl) ?_
  have hPc := hP.sub (ws' := [(q_96359, .inr (0, [.null, .null, .null]))]) [3] rfl
  have hDc := hD.sub (ws' := [(q_96359, .inr (0, [.null, .null, .null]))]) [3] (by decide) rfl
  have hFc := va_free (wc := [(q_96359, .inr (0, [.null, .null, .null]))]) hD hS hA [3] rfl
  refine va_callv (va_runI (As := [.ref n]) (rest := [.ref q_96359, .ref sv]) ⟨hx, hb, hml, hown, hts⟩ (c_X0_init l D g H.size ka kv ff q_96359 n) (cwI 1 hts (tz_gC qw_929) rfl rfl rfl (hts (Cond.initialized RX0) qw_470) (hts (Cond.methodLink RX6 25 yX0_init) qw_930) (hts (Cond.instanceMethod yX0_init) qw_931) rfl (by decide +kernel) ⟨Nat.le_of_ble_eq_true rfl, Nat.le_of_ble_eq_true rfl⟩) ⟨tz_blI, tz_preI hPc hK hDc (hZ.kept hS hFc)⟩ rfl rfl hl.1 rfl (lv_room (Nat.le_of_ble_eq_true rfl)) dX6_init_31 ⟨Nat.le_of_ble_eq_true rfl, Nat.le_of_ble_eq_true rfl⟩) hS (fun q _ h => hFc q h) hFc (fun u t H1 locs ht hvm hw hB hz1 hk1 hS => ?_)
  obtain ⟨co_place_96361, eq_96362, eq_rows_96363, eq_right_96364, rr_96365, hP1, hD1⟩ := hB
  rw [ht] at hP1
  obtain ⟨hP, hD⟩ := va_join (wr := [(sv, .inr (6, [.ref n, .null, .ref q_96357, .ref q_96358])), (wI g q_96357 0 12 (fun _ => 0)), (wJ g q_96358 1 12 (fun _ => 0))]) (w1 := [(wO0 q_96359 n eq_96362 co_place_96361), (wI g co_place_96361 0 12 (fun _ => 0)), (wO1 eq_96362 eq_rows_96363 eq_right_96364 0), (wJ g eq_right_96364 1 8 (fun _ => 0)), (wR g eq_rows_96363 5 8 (fun i => if i < 8 then some (rr_96365 i) else none)), (wJ g (rr_96365 0) 1 8 (fun _ => 0)), (wJ g (rr_96365 1) 1 8 (fun _ => 0)), (wJ g (rr_96365 2) 1 8 (fun _ => 0)), (wJ g (rr_96365 3) 1 8 (fun _ => 0)), (wJ g (rr_96365 4) 1 8 (fun _ => 0)), (wJ g (rr_96365 5) 1 8 (fun _ => 0)), (wJ g (rr_96365 6) 1 8 (fun _ => 0)), (wJ g (rr_96365 7) 1 8 (fun _ => 0))]) hP hD [3] [0, 1, 2] rfl rfl (by decide) (by decide) hk1 hFc hP1 hD1
  generalize H1 = H at hP hS ⊢
  have hP : va_P D vwCl [(sv, .inr (6, [.ref n, .null, .ref q_96357, .ref q_96358])), (wI g q_96357 0 12 (fun _ => 0)), (wJ g q_96358 1 12 (fun _ => 0)), (wO0 q_96359 n eq_96362 co_place_96361), (wI g co_place_96361 0 12 (fun _ => 0)), (wO1 eq_96362 eq_rows_96363 eq_right_96364 0), (wJ g eq_right_96364 1 8 (fun _ => 0)), (wR g eq_rows_96363 5 8 (fun i => if i < 8 then some (rr_96365 i) else none)), (wJ g (rr_96365 0) 1 8 (fun _ => 0)), (wJ g (rr_96365 1) 1 8 (fun _ => 0)), (wJ g (rr_96365 2) 1 8 (fun _ => 0)), (wJ g (rr_96365 3) 1 8 (fun _ => 0)), (wJ g (rr_96365 4) 1 8 (fun _ => 0)), (wJ g (rr_96365 5) 1 8 (fun _ => 0)), (wJ g (rr_96365 6) 1 8 (fun _ => 0)), (wJ g (rr_96365 7) 1 8 (fun _ => 0))] H := hP
  have hD : va_D A [(sv, .inr (6, [.ref n, .null, .ref q_96357, .ref q_96358])), (wI g q_96357 0 12 (fun _ => 0)), (wJ g q_96358 1 12 (fun _ => 0)), (wO0 q_96359 n eq_96362 co_place_96361), (wI g co_place_96361 0 12 (fun _ => 0)), (wO1 eq_96362 eq_rows_96363 eq_right_96364 0), (wJ g eq_right_96364 1 8 (fun _ => 0)), (wR g eq_rows_96363 5 8 (fun i => if i < 8 then some (rr_96365 i) else none)), (wJ g (rr_96365 0) 1 8 (fun _ => 0)), (wJ g (rr_96365 1) 1 8 (fun _ => 0)), (wJ g (rr_96365 2) 1 8 (fun _ => 0)), (wJ g (rr_96365 3) 1 8 (fun _ => 0)), (wJ g (rr_96365 4) 1 8 (fun _ => 0)), (wJ g (rr_96365 5) 1 8 (fun _ => 0)), (wJ g (rr_96365 6) 1 8 (fun _ => 0)), (wJ g (rr_96365 7) 1 8 (fun _ => 0))] := hD
  refine W.widen (k := 15) (n := 122) (by decide) (by decide) ?_
  refine va_putF (D := D) (ci := 6) (v := .ref q_96359) (ty := .object "ChanceRings$Course") (C := RX6) (T := TX6) (N := 4) hx hb hts inlX6 tyX6 tyX6_ok nmX6 hown hK hP hD hS 0 rfl rfl 1 (by decide) (hts (Cond.fieldLink RX6 28 "ChanceRings$Solver" "course" "LChanceRings$Course;") qw_545) (fun _ h9 => h9) rfl hin rfl (by decide +kernel) rfl rfl (Nat.le_of_ble_eq_true rfl) dX6_init_34 (fun H locs hP hD hS => ?_)
  have hP : va_P D vwCl [(wO6 sv n q_96359 q_96357 q_96358), (wI g q_96357 0 12 (fun _ => 0)), (wJ g q_96358 1 12 (fun _ => 0)), (wO0 q_96359 n eq_96362 co_place_96361), (wI g co_place_96361 0 12 (fun _ => 0)), (wO1 eq_96362 eq_rows_96363 eq_right_96364 0), (wJ g eq_right_96364 1 8 (fun _ => 0)), (wR g eq_rows_96363 5 8 (fun i => if i < 8 then some (rr_96365 i) else none)), (wJ g (rr_96365 0) 1 8 (fun _ => 0)), (wJ g (rr_96365 1) 1 8 (fun _ => 0)), (wJ g (rr_96365 2) 1 8 (fun _ => 0)), (wJ g (rr_96365 3) 1 8 (fun _ => 0)), (wJ g (rr_96365 4) 1 8 (fun _ => 0)), (wJ g (rr_96365 5) 1 8 (fun _ => 0)), (wJ g (rr_96365 6) 1 8 (fun _ => 0)), (wJ g (rr_96365 7) 1 8 (fun _ => 0))] H := hP
  have hD : va_D A [(wO6 sv n q_96359 q_96357 q_96358), (wI g q_96357 0 12 (fun _ => 0)), (wJ g q_96358 1 12 (fun _ => 0)), (wO0 q_96359 n eq_96362 co_place_96361), (wI g co_place_96361 0 12 (fun _ => 0)), (wO1 eq_96362 eq_rows_96363 eq_right_96364 0), (wJ g eq_right_96364 1 8 (fun _ => 0)), (wR g eq_rows_96363 5 8 (fun i => if i < 8 then some (rr_96365 i) else none)), (wJ g (rr_96365 0) 1 8 (fun _ => 0)), (wJ g (rr_96365 1) 1 8 (fun _ => 0)), (wJ g (rr_96365 2) 1 8 (fun _ => 0)), (wJ g (rr_96365 3) 1 8 (fun _ => 0)), (wJ g (rr_96365 4) 1 8 (fun _ => 0)), (wJ g (rr_96365 5) 1 8 (fun _ => 0)), (wJ g (rr_96365 6) 1 8 (fun _ => 0)), (wJ g (rr_96365 7) 1 8 (fun _ => 0))] := hD
  have hP9 := hP.sub (ws' := [(wO6 sv n q_96359 q_96357 q_96358), (wI g q_96357 0 12 (fun _ => 0)), (wJ g q_96358 1 12 (fun _ => 0)), (wO0 q_96359 n eq_96362 co_place_96361), (wI g co_place_96361 0 12 (fun _ => 0)), (wO1 eq_96362 eq_rows_96363 eq_right_96364 0), (wJ g eq_right_96364 1 8 (fun _ => 0)), (wR g eq_rows_96363 5 8 (fun i => if i < 8 then some (rr_96365 i) else none)), (wJ g (rr_96365 0) 1 8 (fun _ => 0)), (wJ g (rr_96365 1) 1 8 (fun _ => 0)), (wJ g (rr_96365 2) 1 8 (fun _ => 0)), (wJ g (rr_96365 3) 1 8 (fun _ => 0)), (wJ g (rr_96365 4) 1 8 (fun _ => 0)), (wJ g (rr_96365 5) 1 8 (fun _ => 0)), (wJ g (rr_96365 6) 1 8 (fun _ => 0)), (wJ g (rr_96365 7) 1 8 (fun _ => 0))]) [0, 1, 2, 3, 4, 5, 6, 7, 8, 9, 10, 11, 12, 13, 14, 15] rfl
  have hD9 := hD.sub (ws' := [(wO6 sv n q_96359 q_96357 q_96358), (wI g q_96357 0 12 (fun _ => 0)), (wJ g q_96358 1 12 (fun _ => 0)), (wO0 q_96359 n eq_96362 co_place_96361), (wI g co_place_96361 0 12 (fun _ => 0)), (wO1 eq_96362 eq_rows_96363 eq_right_96364 0), (wJ g eq_right_96364 1 8 (fun _ => 0)), (wR g eq_rows_96363 5 8 (fun i => if i < 8 then some (rr_96365 i) else none)), (wJ g (rr_96365 0) 1 8 (fun _ => 0)), (wJ g (rr_96365 1) 1 8 (fun _ => 0)), (wJ g (rr_96365 2) 1 8 (fun _ => 0)), (wJ g (rr_96365 3) 1 8 (fun _ => 0)), (wJ g (rr_96365 4) 1 8 (fun _ => 0)), (wJ g (rr_96365 5) 1 8 (fun _ => 0)), (wJ g (rr_96365 6) 1 8 (fun _ => 0)), (wJ g (rr_96365 7) 1 8 (fun _ => 0))]) [0, 1, 2, 3, 4, 5, 6, 7, 8, 9, 10, 11, 12, 13, 14, 15] (by decide) rfl
  exact W.vret hx hb hr (fun t ht hW => ⟨⟨(), rfl, trivial, q_96357, q_96358, q_96359, co_place_96361, eq_96362, eq_rows_96363, eq_right_96364, rr_96365, by rw [ht]; exact hP9, hD9⟩, hS.F ht⟩) hS.2.2 dX6_init_37
set_option maxHeartbeats 4000000 in
set_option maxRecDepth 100000 in
theorem c_X3_init (l : Launch) (D : va_G) (g : Nat → ClassId) (sz : Nat) (ka kv : Nat → Nat) (ff : Nat → Nat → Int32) (oc : Nat) (n : Nat) (sv : Nat) : Met l yX3_init (.code yX3_init cX3_init 3 none :: wsL_law) ({ frames := 2, cells := 7, slots := 64, locals := 32 }) (va_Pc [.ref oc, .ref n, .ref sv] (fun U => U.heap.size = sz ∧ va_P D vwCl [(oc, .inr (3, [.null, .null, .null, .null, .null, .null, .null, .int 0, .int 0, .int 0]))] U.heap ∧ va_K D vwCl (TY g) U ∧ va_D (fun _ => True) [(oc, .inr (3, [.null, .null, .null, .null, .null, .null, .null, .int 0, .int 0, .int 0]))] ∧ ZI ka kv ff (va_A [(oc, .inr (3, [.null, .null, .null, .null, .null, .null, .null, .int 0, .int 0, .int 0]))] sz) U U.heap)) (va_Qv (fun (_ : Unit) => True) (fun _ t => ∃ oc_plan : Nat, ∃ oc_reach : Nat, ∃ oc_ringBits : Nat, ∃ ow : Nat, ∃ ow_part : Nat, ∃ ol : Nat, ∃ ol_part : Nat, va_P D vwCl [(wO3 oc n sv oc_plan ow ol oc_reach oc_ringBits 0 0 0), (wI g oc_plan 0 12 (fun _ => 0)), (wI g oc_reach 0 12 (fun _ => 0)), (wI g oc_ringBits 0 12 (fun _ => 0)), (wO10 ow ow_part 1), (wJ g ow_part 1 12 (fun _ => 0)), (wO10 ol ol_part 1), (wJ g ol_part 1 12 (fun _ => 0))] t.heap ∧ va_D (va_A [(oc, .inr (3, [.null, .null, .null, .null, .null, .null, .null, .int 0, .int 0, .int 0]))] sz) [(wO3 oc n sv oc_plan ow ol oc_reach oc_ringBits 0 0 0), (wI g oc_plan 0 12 (fun _ => 0)), (wI g oc_reach 0 12 (fun _ => 0)), (wI g oc_ringBits 0 12 (fun _ => 0)), (wO10 ow ow_part 1), (wJ g ow_part 1 12 (fun _ => 0)), (wO10 ol ol_part 1), (wJ g ol_part 1 12 (fun _ => 0))]) (va_A [(oc, .inr (3, [.null, .null, .null, .null, .null, .null, .null, .int 0, .int 0, .int 0]))] sz)) 7 64 (va_A [(oc, .inr (3, [.null, .null, .null, .null, .null, .null, .null, .int 0, .int 0, .int 0]))] sz) := by
  refine Met.ofW (cc := cX3_init) (maxL := 3) (ret := none) (by decide) rfl ?_
  intro p e s m args below meth c s₁ B hml hv
  obtain ⟨rfl, hsz, hP, hK, hD0, hZ⟩ := hv
  have hx := B.exec
  have hb := B.bytes
  have hr := B.returns
  have hts0 := atoms_spec (ws := (.code yX3_init cX3_init 3 none :: wsL_law)) B.pre
  have hts : ∀ w ∈ wsL_law, w.before _ s = true := fun w h => hts0 w (List.mem_cons_of_mem _ h)
  have hown : s.vm.findClass RX3 = some m.cls := findClass_of_methodNamed B.named
  have hlocks := B.notSynchronized
  have hin : meth.name = "<init>" := (name_of_methodNamed B.named B.method).1
  subst hsz
  have hD := hD0.self (sz := s.heap.size)
  generalize hAe : va_A [(oc, .inr (3, [.null, .null, .null, .null, .null, .null, .null, .int 0, .int 0, .int 0]))] s.heap.size = A at hD hZ ⊢
  have hA : ∀ q : Nat, s.heap.size ≤ q → A q := fun q h => by rw [← hAe]; exact Or.inr h
  have hS : va_S A s.heap s.heap [] := va_S.rf
  have hP : va_P D vwCl [(oc, .inr (3, [.null, .null, .null, .null, .null, .null, .null, .int 0, .int 0, .int 0]))] s.heap := hP
  have hl := lv_entry ([.ref oc, .ref n, .ref sv]) (n := 3) (Nat.le_of_ble_eq_true rfl)
  rw [lg_entry_eq]
  generalize (lg_sl ([.ref oc, .ref n, .ref sv]) ++ List.replicate (3 - (lg_sl ([.ref oc, .ref n, .ref sv])).length) Slot.unset).toArray = ls at hl ⊢
  have hl : lv_has ls 3 [(0, .ref oc), (1, .ref n), (2, .ref sv)] := hl
  refine lv_aload_n hx hb dX3_init_0 rfl (lv_at hl 0 rfl) ?_
  refine W.objInit hx hb hown (hts (Cond.methodLink RX3 3 objectInit) qw_932) (hts (Cond.instanceMethod objectInit) qw_911) (hts (Cond.code objectInit ⟨#[0xb1]⟩ 1 none) qw_912) rfl (by rw [hml]; exact hl.1) rfl dX3_init_1 (Nat.le_of_ble_eq_true rfl) (Nat.le_of_ble_eq_true rfl) ?_
  refine W.eq (g2 := F0 m 4 ls []) rfl ?_
  refine lv_aload_n hx hb dX3_init_4 rfl (lv_at hl 0 rfl) ?_
  refine lv_bipush (v := 12) hx hb dX3_init_5 (by decide) ?_
  refine va_newa (atype := .int) (ty := .int) (N' := 12) (a0 := (12, .inl (fun _ => 0))) hx hb (hts (Cond.arrayClass .int) qw_913) rfl hK hP hD hS hA (fun _ => rfl) (by decide) (by decide +kernel) (by decide) (Nat.le_of_ble_eq_true rfl) (Nat.le_of_ble_eq_true rfl) dX3_init_7 (fun q_96366 cA H hK9 hP hD hS => ?_)
  obtain rfl : cA = g 0 := tz_clsI hK hK9
  have hP : va_P D vwCl [(oc, .inr (3, [.null, .null, .null, .null, .null, .null, .null, .int 0, .int 0, .int 0])), (wI g q_96366 0 12 (fun _ => 0))] H := hP
  have hD : va_D A [(oc, .inr (3, [.null, .null, .null, .null, .null, .null, .null, .int 0, .int 0, .int 0])), (wI g q_96366 0 12 (fun _ => 0))] := hD
  refine W.widen (k := 1) (n := 12) (by decide) (by decide) ?_
  refine va_putF (D := D) (ci := 3) (v := .ref q_96366) (ty := .array .int) (C := RX3) (T := TX3) (N := 10) hx hb hts inlX3 tyX3 tyX3_ok nmX3 hown hK hP hD hS 0 rfl rfl 2 (by decide) (hts (Cond.fieldLink RX3 9 "ChanceRings$Outcome" "plan" "[I") qw_624) (fun _ h9 => h9) rfl hin rfl (by decide +kernel) rfl rfl (Nat.le_of_ble_eq_true rfl) dX3_init_9 (fun H locs hP hD hS => ?_)
  have hP : va_P D vwCl [(oc, .inr (3, [.null, .null, .ref q_96366, .null, .null, .null, .null, .int 0, .int 0, .int 0])), (wI g q_96366 0 12 (fun _ => 0))] H := hP
  have hD : va_D A [(oc, .inr (3, [.null, .null, .ref q_96366, .null, .null, .null, .null, .int 0, .int 0, .int 0])), (wI g q_96366 0 12 (fun _ => 0))] := hD
  refine lv_aload_n hx hb dX3_init_12 rfl (lv_at hl 0 rfl) ?_
  refine va_new (ci := 10) (fs := [.null, .long 0]) (C := RX10) (T := TX10) (N := 2) hx hb hts inlX10 tyX10 tyX10_ok hown (hts (Cond.classLink RX3 15 RX10) qw_933) (hts (Cond.instantiable RX10 2) qw_934) (hts (Cond.initialized RX10) qw_338) hK hP hD hS hA rfl hfs_X10 (Nat.le_of_ble_eq_true rfl) (Nat.le_of_ble_eq_true rfl) dX3_init_13 (fun q_96367 H hP hD hS => ?_)
  have hP : va_P D vwCl [(oc, .inr (3, [.null, .null, .ref q_96366, .null, .null, .null, .null, .int 0, .int 0, .int 0])), (wI g q_96366 0 12 (fun _ => 0)), (q_96367, .inr (10, [.null, .long 0]))] H := hP
  have hD : va_D A [(oc, .inr (3, [.null, .null, .ref q_96366, .null, .null, .null, .null, .int 0, .int 0, .int 0])), (wI g q_96366 0 12 (fun _ => 0)), (q_96367, .inr (10, [.null, .long 0]))] := hD
  refine W.widen (k := 2) (n := 14) (by decide) (by decide) ?_
  refine lv_dup hx hb dX3_init_16 rfl ?_
  have hPc := hP.sub (ws' := [(q_96367, .inr (10, [.null, .long 0]))]) [2] rfl
  have hDc := hD.sub (ws' := [(q_96367, .inr (10, [.null, .long 0]))]) [2] (by decide) rfl
  have hFc := va_free (wc := [(q_96367, .inr (10, [.null, .long 0]))]) hD hS hA [2] rfl
  refine va_callv (va_runIN (As := []) (rest := [.ref q_96367, .ref oc]) ⟨hx, hb, hml, hown, hts⟩ (c_X10_init l D g H.size ka kv ff q_96367) ⟨va_cnB 0 hts (tz_gC qw_935) rfl rfl rfl hZ.2.2.2.1 (hts (Cond.initialized RX10) qw_338) (by decide +kernel) ⟨Nat.le_of_ble_eq_true rfl, Nat.le_of_ble_eq_true rfl⟩, rfl, (hts (Cond.instanceMethod yX10_init) qw_936)⟩ ⟨tz_blI, tz_preI hPc hK hDc (hZ.kept hS hFc)⟩ rfl rfl hl.1 rfl (lv_room (Nat.le_of_ble_eq_true rfl)) dX3_init_17 ⟨Nat.le_of_ble_eq_true rfl, Nat.le_of_ble_eq_true rfl⟩) hS (fun q _ h => hFc q h) hFc (fun u t H1 locs ht hvm hw hB hz1 hk1 hS => ?_)
  obtain ⟨vs_part_96369, hP1, hD1⟩ := hB
  rw [ht] at hP1
  obtain ⟨hP, hD⟩ := va_join (wr := [(oc, .inr (3, [.null, .null, .ref q_96366, .null, .null, .null, .null, .int 0, .int 0, .int 0])), (wI g q_96366 0 12 (fun _ => 0))]) (w1 := [(wO10 q_96367 vs_part_96369 1), (wJ g vs_part_96369 1 12 (fun _ => 0))]) hP hD [2] [0, 1] rfl rfl (by decide) (by decide) hk1 hFc hP1 hD1
  generalize H1 = H at hP hS ⊢
  have hP : va_P D vwCl [(oc, .inr (3, [.null, .null, .ref q_96366, .null, .null, .null, .null, .int 0, .int 0, .int 0])), (wI g q_96366 0 12 (fun _ => 0)), (wO10 q_96367 vs_part_96369 1), (wJ g vs_part_96369 1 12 (fun _ => 0))] H := hP
  have hD : va_D A [(oc, .inr (3, [.null, .null, .ref q_96366, .null, .null, .null, .null, .int 0, .int 0, .int 0])), (wI g q_96366 0 12 (fun _ => 0)), (wO10 q_96367 vs_part_96369 1), (wJ g vs_part_96369 1 12 (fun _ => 0))] := hD
  refine W.widen (k := 3) (n := 26) (by decide) (by decide) ?_
  refine va_putF (D := D) (ci := 3) (v := .ref q_96367) (ty := .object "ChanceRings$Values") (C := RX3) (T := TX3) (N := 10) hx hb hts inlX3 tyX3 tyX3_ok nmX3 hown hK hP hD hS 0 rfl rfl 3 (by decide) (hts (Cond.fieldLink RX3 18 "ChanceRings$Outcome" "worth" "LChanceRings$Values;") qw_635) (fun _ h9 => h9) rfl hin rfl (by decide +kernel) rfl rfl (Nat.le_of_ble_eq_true rfl) dX3_init_20 (fun H locs hP hD hS => ?_)
  have hP : va_P D vwCl [(oc, .inr (3, [.null, .null, .ref q_96366, .ref q_96367, .null, .null, .null, .int 0, .int 0, .int 0])), (wI g q_96366 0 12 (fun _ => 0)), (wO10 q_96367 vs_part_96369 1), (wJ g vs_part_96369 1 12 (fun _ => 0))] H := hP
  have hD : va_D A [(oc, .inr (3, [.null, .null, .ref q_96366, .ref q_96367, .null, .null, .null, .int 0, .int 0, .int 0])), (wI g q_96366 0 12 (fun _ => 0)), (wO10 q_96367 vs_part_96369 1), (wJ g vs_part_96369 1 12 (fun _ => 0))] := hD
  refine lv_aload_n hx hb dX3_init_23 rfl (lv_at hl 0 rfl) ?_
  refine va_new (ci := 10) (fs := [.null, .long 0]) (C := RX10) (T := TX10) (N := 2) hx hb hts inlX10 tyX10 tyX10_ok hown (hts (Cond.classLink RX3 15 RX10) qw_933) (hts (Cond.instantiable RX10 2) qw_934) (hts (Cond.initialized RX10) qw_338) hK hP hD hS hA rfl hfs_X10 (Nat.le_of_ble_eq_true rfl) (Nat.le_of_ble_eq_true rfl) dX3_init_24 (fun q_96370 H hP hD hS => ?_)
  have hP : va_P D vwCl [(oc, .inr (3, [.null, .null, .ref q_96366, .ref q_96367, .null, .null, .null, .int 0, .int 0, .int 0])), (wI g q_96366 0 12 (fun _ => 0)), (wO10 q_96367 vs_part_96369 1), (wJ g vs_part_96369 1 12 (fun _ => 0)), (q_96370, .inr (10, [.null, .long 0]))] H := hP
  have hD : va_D A [(oc, .inr (3, [.null, .null, .ref q_96366, .ref q_96367, .null, .null, .null, .int 0, .int 0, .int 0])), (wI g q_96366 0 12 (fun _ => 0)), (wO10 q_96367 vs_part_96369 1), (wJ g vs_part_96369 1 12 (fun _ => 0)), (q_96370, .inr (10, [.null, .long 0]))] := hD
  refine W.widen (k := 4) (n := 28) (by decide) (by decide) ?_
  refine lv_dup hx hb dX3_init_27 rfl ?_
  have hPc := hP.sub (ws' := [(q_96370, .inr (10, [.null, .long 0]))]) [4] rfl
  have hDc := hD.sub (ws' := [(q_96370, .inr (10, [.null, .long 0]))]) [4] (by decide) rfl
  have hFc := va_free (wc := [(q_96370, .inr (10, [.null, .long 0]))]) hD hS hA [4] rfl
  refine va_callv (va_runIN (As := []) (rest := [.ref q_96370, .ref oc]) ⟨hx, hb, hml, hown, hts⟩ (c_X10_init l D g H.size ka kv ff q_96370) ⟨va_cnB 0 hts (tz_gC qw_935) rfl rfl rfl hZ.2.2.2.1 (hts (Cond.initialized RX10) qw_338) (by decide +kernel) ⟨Nat.le_of_ble_eq_true rfl, Nat.le_of_ble_eq_true rfl⟩, rfl, (hts (Cond.instanceMethod yX10_init) qw_936)⟩ ⟨tz_blI, tz_preI hPc hK hDc (hZ.kept hS hFc)⟩ rfl rfl hl.1 rfl (lv_room (Nat.le_of_ble_eq_true rfl)) dX3_init_28 ⟨Nat.le_of_ble_eq_true rfl, Nat.le_of_ble_eq_true rfl⟩) hS (fun q _ h => hFc q h) hFc (fun u t H1 locs ht hvm hw hB hz1 hk1 hS => ?_)
  obtain ⟨vs_part_96372, hP1, hD1⟩ := hB
  rw [ht] at hP1
  obtain ⟨hP, hD⟩ := va_join (wr := [(oc, .inr (3, [.null, .null, .ref q_96366, .ref q_96367, .null, .null, .null, .int 0, .int 0, .int 0])), (wI g q_96366 0 12 (fun _ => 0)), (wO10 q_96367 vs_part_96369 1), (wJ g vs_part_96369 1 12 (fun _ => 0))]) (w1 := [(wO10 q_96370 vs_part_96372 1), (wJ g vs_part_96372 1 12 (fun _ => 0))]) hP hD [4] [0, 1, 2, 3] rfl rfl (by decide) (by decide) hk1 hFc hP1 hD1
  generalize H1 = H at hP hS ⊢
  have hP : va_P D vwCl [(oc, .inr (3, [.null, .null, .ref q_96366, .ref q_96367, .null, .null, .null, .int 0, .int 0, .int 0])), (wI g q_96366 0 12 (fun _ => 0)), (wO10 q_96367 vs_part_96369 1), (wJ g vs_part_96369 1 12 (fun _ => 0)), (wO10 q_96370 vs_part_96372 1), (wJ g vs_part_96372 1 12 (fun _ => 0))] H := hP
  have hD : va_D A [(oc, .inr (3, [.null, .null, .ref q_96366, .ref q_96367, .null, .null, .null, .int 0, .int 0, .int 0])), (wI g q_96366 0 12 (fun _ => 0)), (wO10 q_96367 vs_part_96369 1), (wJ g vs_part_96369 1 12 (fun _ => 0)), (wO10 q_96370 vs_part_96372 1), (wJ g vs_part_96372 1 12 (fun _ => 0))] := hD
  refine W.widen (k := 5) (n := 40) (by decide) (by decide) ?_
  refine va_putF (D := D) (ci := 3) (v := .ref q_96370) (ty := .object "ChanceRings$Values") (C := RX3) (T := TX3) (N := 10) hx hb hts inlX3 tyX3 tyX3_ok nmX3 hown hK hP hD hS 0 rfl rfl 4 (by decide) (hts (Cond.fieldLink RX3 22 "ChanceRings$Outcome" "length" "LChanceRings$Values;") qw_671) (fun _ h9 => h9) rfl hin rfl (by decide +kernel) rfl rfl (Nat.le_of_ble_eq_true rfl) dX3_init_31 (fun H locs hP hD hS => ?_)
  have hP : va_P D vwCl [(oc, .inr (3, [.null, .null, .ref q_96366, .ref q_96367, .ref q_96370, .null, .null, .int 0, .int 0, .int 0])), (wI g q_96366 0 12 (fun _ => 0)), (wO10 q_96367 vs_part_96369 1), (wJ g vs_part_96369 1 12 (fun _ => 0)), (wO10 q_96370 vs_part_96372 1), (wJ g vs_part_96372 1 12 (fun _ => 0))] H := hP
  have hD : va_D A [(oc, .inr (3, [.null, .null, .ref q_96366, .ref q_96367, .ref q_96370, .null, .null, .int 0, .int 0, .int 0])), (wI g q_96366 0 12 (fun _ => 0)), (wO10 q_96367 vs_part_96369 1), (wJ g vs_part_96369 1 12 (fun _ => 0)), (wO10 q_96370 vs_part_96372 1), (wJ g vs_part_96372 1 12 (fun _ => 0))] := hD
  refine lv_aload_n hx hb dX3_init_34 rfl (lv_at hl 0 rfl) ?_
  refine lv_bipush (v := 12) hx hb dX3_init_35 (by decide) ?_
  refine va_newa (atype := .int) (ty := .int) (N' := 12) (a0 := (12, .inl (fun _ => 0))) hx hb (hts (Cond.arrayClass .int) qw_913) rfl hK hP hD hS hA (fun _ => rfl) (by decide) (by decide +kernel) (by decide) (Nat.le_of_ble_eq_true rfl) (Nat.le_of_ble_eq_true rfl) dX3_init_37 (fun q_96373 cA H hK9 hP hD hS => ?_)
  obtain rfl : cA = g 0 := tz_clsI hK hK9
  have hP : va_P D vwCl [(oc, .inr (3, [.null, .null, .ref q_96366, .ref q_96367, .ref q_96370, .null, .null, .int 0, .int 0, .int 0])), (wI g q_96366 0 12 (fun _ => 0)), (wO10 q_96367 vs_part_96369 1), (wJ g vs_part_96369 1 12 (fun _ => 0)), (wO10 q_96370 vs_part_96372 1), (wJ g vs_part_96372 1 12 (fun _ => 0)), (wI g q_96373 0 12 (fun _ => 0))] H := hP
  have hD : va_D A [(oc, .inr (3, [.null, .null, .ref q_96366, .ref q_96367, .ref q_96370, .null, .null, .int 0, .int 0, .int 0])), (wI g q_96366 0 12 (fun _ => 0)), (wO10 q_96367 vs_part_96369 1), (wJ g vs_part_96369 1 12 (fun _ => 0)), (wO10 q_96370 vs_part_96372 1), (wJ g vs_part_96372 1 12 (fun _ => 0)), (wI g q_96373 0 12 (fun _ => 0))] := hD
  refine W.widen (k := 6) (n := 52) (by decide) (by decide) ?_
  refine va_putF (D := D) (ci := 3) (v := .ref q_96373) (ty := .array .int) (C := RX3) (T := TX3) (N := 10) hx hb hts inlX3 tyX3 tyX3_ok nmX3 hown hK hP hD hS 0 rfl rfl 5 (by decide) (hts (Cond.fieldLink RX3 25 "ChanceRings$Outcome" "reach" "[I") qw_621) (fun _ h9 => h9) rfl hin rfl (by decide +kernel) rfl rfl (Nat.le_of_ble_eq_true rfl) dX3_init_39 (fun H locs hP hD hS => ?_)
  have hP : va_P D vwCl [(oc, .inr (3, [.null, .null, .ref q_96366, .ref q_96367, .ref q_96370, .ref q_96373, .null, .int 0, .int 0, .int 0])), (wI g q_96366 0 12 (fun _ => 0)), (wO10 q_96367 vs_part_96369 1), (wJ g vs_part_96369 1 12 (fun _ => 0)), (wO10 q_96370 vs_part_96372 1), (wJ g vs_part_96372 1 12 (fun _ => 0)), (wI g q_96373 0 12 (fun _ => 0))] H := hP
  have hD : va_D A [(oc, .inr (3, [.null, .null, .ref q_96366, .ref q_96367, .ref q_96370, .ref q_96373, .null, .int 0, .int 0, .int 0])), (wI g q_96366 0 12 (fun _ => 0)), (wO10 q_96367 vs_part_96369 1), (wJ g vs_part_96369 1 12 (fun _ => 0)), (wO10 q_96370 vs_part_96372 1), (wJ g vs_part_96372 1 12 (fun _ => 0)), (wI g q_96373 0 12 (fun _ => 0))] := hD
  refine lv_aload_n hx hb dX3_init_42 rfl (lv_at hl 0 rfl) ?_
  refine lv_bipush (v := 12) hx hb dX3_init_43 (by decide) ?_
  refine va_newa (atype := .int) (ty := .int) (N' := 12) (a0 := (12, .inl (fun _ => 0))) hx hb (hts (Cond.arrayClass .int) qw_913) rfl hK hP hD hS hA (fun _ => rfl) (by decide) (by decide +kernel) (by decide) (Nat.le_of_ble_eq_true rfl) (Nat.le_of_ble_eq_true rfl) dX3_init_45 (fun q_96374 cA H hK9 hP hD hS => ?_)
  obtain rfl : cA = g 0 := tz_clsI hK hK9
  have hP : va_P D vwCl [(oc, .inr (3, [.null, .null, .ref q_96366, .ref q_96367, .ref q_96370, .ref q_96373, .null, .int 0, .int 0, .int 0])), (wI g q_96366 0 12 (fun _ => 0)), (wO10 q_96367 vs_part_96369 1), (wJ g vs_part_96369 1 12 (fun _ => 0)), (wO10 q_96370 vs_part_96372 1), (wJ g vs_part_96372 1 12 (fun _ => 0)), (wI g q_96373 0 12 (fun _ => 0)), (wI g q_96374 0 12 (fun _ => 0))] H := hP
  have hD : va_D A [(oc, .inr (3, [.null, .null, .ref q_96366, .ref q_96367, .ref q_96370, .ref q_96373, .null, .int 0, .int 0, .int 0])), (wI g q_96366 0 12 (fun _ => 0)), (wO10 q_96367 vs_part_96369 1), (wJ g vs_part_96369 1 12 (fun _ => 0)), (wO10 q_96370 vs_part_96372 1), (wJ g vs_part_96372 1 12 (fun _ => 0)), (wI g q_96373 0 12 (fun _ => 0)), (wI g q_96374 0 12 (fun _ => 0))] := hD
  refine W.widen (k := 7) (n := 64) (by decide) (by decide) ?_
  refine va_putF (D := D) (ci := 3) (v := .ref q_96374) (ty := .array .int) (C := RX3) (T := TX3) (N := 10) hx hb hts inlX3 tyX3 tyX3_ok nmX3 hown hK hP hD hS 0 rfl rfl 6 (by decide) (hts (Cond.fieldLink RX3 28 "ChanceRings$Outcome" "ringBits" "[I") qw_634) (fun _ h9 => h9) rfl hin rfl (by decide +kernel) rfl rfl (Nat.le_of_ble_eq_true rfl) dX3_init_47 (fun H locs hP hD hS => ?_)
  have hP : va_P D vwCl [(oc, .inr (3, [.null, .null, .ref q_96366, .ref q_96367, .ref q_96370, .ref q_96373, .ref q_96374, .int 0, .int 0, .int 0])), (wI g q_96366 0 12 (fun _ => 0)), (wO10 q_96367 vs_part_96369 1), (wJ g vs_part_96369 1 12 (fun _ => 0)), (wO10 q_96370 vs_part_96372 1), (wJ g vs_part_96372 1 12 (fun _ => 0)), (wI g q_96373 0 12 (fun _ => 0)), (wI g q_96374 0 12 (fun _ => 0))] H := hP
  have hD : va_D A [(oc, .inr (3, [.null, .null, .ref q_96366, .ref q_96367, .ref q_96370, .ref q_96373, .ref q_96374, .int 0, .int 0, .int 0])), (wI g q_96366 0 12 (fun _ => 0)), (wO10 q_96367 vs_part_96369 1), (wJ g vs_part_96369 1 12 (fun _ => 0)), (wO10 q_96370 vs_part_96372 1), (wJ g vs_part_96372 1 12 (fun _ => 0)), (wI g q_96373 0 12 (fun _ => 0)), (wI g q_96374 0 12 (fun _ => 0))] := hD
  refine lv_aload_n hx hb dX3_init_50 rfl (lv_at hl 0 rfl) ?_
  refine lv_aload_n hx hb dX3_init_51 rfl (lv_at hl 1 rfl) ?_
  refine va_putF (D := D) (ci := 3) (v := .ref n) (ty := .object "ChanceRings$Net") (C := RX3) (T := TX3) (N := 10) hx hb hts inlX3 tyX3 tyX3_ok nmX3 hown hK hP hD hS 0 rfl rfl 0 (by decide) (hts (Cond.fieldLink RX3 31 "ChanceRings$Outcome" "net" "LChanceRings$Net;") qw_619) (fun _ h9 => h9) rfl hin rfl (by decide +kernel) rfl rfl (Nat.le_of_ble_eq_true rfl) dX3_init_52 (fun H locs hP hD hS => ?_)
  have hP : va_P D vwCl [(oc, .inr (3, [.ref n, .null, .ref q_96366, .ref q_96367, .ref q_96370, .ref q_96373, .ref q_96374, .int 0, .int 0, .int 0])), (wI g q_96366 0 12 (fun _ => 0)), (wO10 q_96367 vs_part_96369 1), (wJ g vs_part_96369 1 12 (fun _ => 0)), (wO10 q_96370 vs_part_96372 1), (wJ g vs_part_96372 1 12 (fun _ => 0)), (wI g q_96373 0 12 (fun _ => 0)), (wI g q_96374 0 12 (fun _ => 0))] H := hP
  have hD : va_D A [(oc, .inr (3, [.ref n, .null, .ref q_96366, .ref q_96367, .ref q_96370, .ref q_96373, .ref q_96374, .int 0, .int 0, .int 0])), (wI g q_96366 0 12 (fun _ => 0)), (wO10 q_96367 vs_part_96369 1), (wJ g vs_part_96369 1 12 (fun _ => 0)), (wO10 q_96370 vs_part_96372 1), (wJ g vs_part_96372 1 12 (fun _ => 0)), (wI g q_96373 0 12 (fun _ => 0)), (wI g q_96374 0 12 (fun _ => 0))] := hD
  refine lv_aload_n hx hb dX3_init_55 rfl (lv_at hl 0 rfl) ?_
  refine lv_aload_n hx hb dX3_init_56 rfl (lv_at hl 2 rfl) ?_
  refine va_putF (D := D) (ci := 3) (v := .ref sv) (ty := .object "ChanceRings$Solver") (C := RX3) (T := TX3) (N := 10) hx hb hts inlX3 tyX3 tyX3_ok nmX3 hown hK hP hD hS 0 rfl rfl 1 (by decide) (hts (Cond.fieldLink RX3 35 "ChanceRings$Outcome" "solver" "LChanceRings$Solver;") qw_622) (fun _ h9 => h9) rfl hin rfl (by decide +kernel) rfl rfl (Nat.le_of_ble_eq_true rfl) dX3_init_57 (fun H locs hP hD hS => ?_)
  have hP : va_P D vwCl [(wO3 oc n sv q_96366 q_96367 q_96370 q_96373 q_96374 0 0 0), (wI g q_96366 0 12 (fun _ => 0)), (wO10 q_96367 vs_part_96369 1), (wJ g vs_part_96369 1 12 (fun _ => 0)), (wO10 q_96370 vs_part_96372 1), (wJ g vs_part_96372 1 12 (fun _ => 0)), (wI g q_96373 0 12 (fun _ => 0)), (wI g q_96374 0 12 (fun _ => 0))] H := hP
  have hD : va_D A [(wO3 oc n sv q_96366 q_96367 q_96370 q_96373 q_96374 0 0 0), (wI g q_96366 0 12 (fun _ => 0)), (wO10 q_96367 vs_part_96369 1), (wJ g vs_part_96369 1 12 (fun _ => 0)), (wO10 q_96370 vs_part_96372 1), (wJ g vs_part_96372 1 12 (fun _ => 0)), (wI g q_96373 0 12 (fun _ => 0)), (wI g q_96374 0 12 (fun _ => 0))] := hD
  have hP9 := hP.sub (ws' := [(wO3 oc n sv q_96366 q_96367 q_96370 q_96373 q_96374 0 0 0), (wI g q_96366 0 12 (fun _ => 0)), (wI g q_96373 0 12 (fun _ => 0)), (wI g q_96374 0 12 (fun _ => 0)), (wO10 q_96367 vs_part_96369 1), (wJ g vs_part_96369 1 12 (fun _ => 0)), (wO10 q_96370 vs_part_96372 1), (wJ g vs_part_96372 1 12 (fun _ => 0))]) [0, 1, 6, 7, 2, 3, 4, 5] rfl
  have hD9 := hD.sub (ws' := [(wO3 oc n sv q_96366 q_96367 q_96370 q_96373 q_96374 0 0 0), (wI g q_96366 0 12 (fun _ => 0)), (wI g q_96373 0 12 (fun _ => 0)), (wI g q_96374 0 12 (fun _ => 0)), (wO10 q_96367 vs_part_96369 1), (wJ g vs_part_96369 1 12 (fun _ => 0)), (wO10 q_96370 vs_part_96372 1), (wJ g vs_part_96372 1 12 (fun _ => 0))]) [0, 1, 6, 7, 2, 3, 4, 5] (by decide) rfl
  exact W.vret hx hb hr (fun t ht hW => ⟨⟨(), rfl, trivial, q_96366, q_96373, q_96374, q_96367, vs_part_96369, q_96370, vs_part_96372, by rw [ht]; exact hP9, hD9⟩, hS.F ht⟩) hS.2.2 dX3_init_60
theorem qw_937 : Cond.methodLink RX4 3 objectInit ∈ wsL_law := tseg_1 (by decide +kernel) (List.mem_of_getElem? (i := 115) (by decide +kernel))
theorem qw_938 : Cond.code yX11_pack cX11_pack 3 (some .int) ∈ wsL_law := tseg_1 (by decide +kernel) (List.mem_of_getElem? (i := 119) (by decide +kernel))
theorem qw_939 : Cond.static yX11_pack ∈ wsL_law := tseg_1 (by decide +kernel) (List.mem_of_getElem? (i := 118) (by decide +kernel))
theorem dX4_init_0 : decode cX4_init 0 = .ok (.aload_n 0, 1) := by decide +kernel
theorem dX4_init_1 : decode cX4_init 1 = .ok (.invokespecial 3, 3) := by decide +kernel
theorem dX4_init_4 : decode cX4_init 4 = .ok (.aload_n 0, 1) := by decide +kernel
theorem dX4_init_5 : decode cX4_init 5 = .ok (.aload_n 1, 1) := by decide +kernel
theorem dX4_init_6 : decode cX4_init 6 = .ok (.putfield 9, 3) := by decide +kernel
theorem dX4_init_9 : decode cX4_init 9 = .ok (.aload_n 0, 1) := by decide +kernel
theorem dX4_init_10 : decode cX4_init 10 = .ok (.aload_n 2, 1) := by decide +kernel
theorem dX4_init_11 : decode cX4_init 11 = .ok (.putfield 15, 3) := by decide +kernel
theorem dX4_init_14 : decode cX4_init 14 = .ok (.aload_n 0, 1) := by decide +kernel
theorem dX4_init_15 : decode cX4_init 15 = .ok (.iconst 4, 1) := by decide +kernel
theorem dX4_init_16 : decode cX4_init 16 = .ok (.newarray .int, 2) := by decide +kernel
theorem dX4_init_18 : decode cX4_init 18 = .ok (.dup, 1) := by decide +kernel
theorem dX4_init_19 : decode cX4_init 19 = .ok (.iconst 0, 1) := by decide +kernel
theorem dX4_init_20 : decode cX4_init 20 = .ok (.ldc 19, 2) := by decide +kernel
theorem dX4_init_22 : decode cX4_init 22 = .ok (.invokestatic 21, 3) := by decide +kernel
theorem dX4_init_25 : decode cX4_init 25 = .ok (.iastore, 1) := by decide +kernel
theorem dX4_init_26 : decode cX4_init 26 = .ok (.dup, 1) := by decide +kernel
theorem dX4_init_27 : decode cX4_init 27 = .ok (.iconst 1, 1) := by decide +kernel
theorem dX4_init_28 : decode cX4_init 28 = .ok (.ldc 25, 2) := by decide +kernel
theorem dX4_init_30 : decode cX4_init 30 = .ok (.invokestatic 21, 3) := by decide +kernel
theorem dX4_init_33 : decode cX4_init 33 = .ok (.iastore, 1) := by decide +kernel
theorem dX4_init_34 : decode cX4_init 34 = .ok (.dup, 1) := by decide +kernel
theorem dX4_init_35 : decode cX4_init 35 = .ok (.iconst 2, 1) := by decide +kernel
theorem dX4_init_36 : decode cX4_init 36 = .ok (.ldc 27, 2) := by decide +kernel
theorem dX4_init_38 : decode cX4_init 38 = .ok (.invokestatic 21, 3) := by decide +kernel
theorem dX4_init_41 : decode cX4_init 41 = .ok (.iastore, 1) := by decide +kernel
theorem dX4_init_42 : decode cX4_init 42 = .ok (.dup, 1) := by decide +kernel
theorem dX4_init_43 : decode cX4_init 43 = .ok (.iconst 3, 1) := by decide +kernel
theorem dX4_init_44 : decode cX4_init 44 = .ok (.ldc 29, 2) := by decide +kernel
theorem dX4_init_46 : decode cX4_init 46 = .ok (.invokestatic 21, 3) := by decide +kernel
theorem dX4_init_49 : decode cX4_init 49 = .ok (.iastore, 1) := by decide +kernel
theorem dX4_init_50 : decode cX4_init 50 = .ok (.putfield 31, 3) := by decide +kernel
theorem dX4_init_53 : decode cX4_init 53 = .ok (.aload_n 0, 1) := by decide +kernel
theorem dX4_init_54 : decode cX4_init 54 = .ok (.ldc 35, 2) := by decide +kernel
theorem dX4_init_56 : decode cX4_init 56 = .ok (.invokestatic 21, 3) := by decide +kernel
theorem dX4_init_59 : decode cX4_init 59 = .ok (.putfield 37, 3) := by decide +kernel
theorem dX4_init_62 : decode cX4_init 62 = .ok (.return_, 1) := by decide +kernel
set_option maxHeartbeats 4000000 in
set_option maxRecDepth 100000 in
theorem c_X4_init (l : Launch) (D : va_G) (g : Nat → ClassId) (sz : Nat) (ka kv : Nat → Nat) (ff : Nat → Nat → Int32) (rd : Nat) (tp : Nat) (d : Nat) (hff : FFs ff) : Met l yX4_init (.code yX4_init cX4_init 3 none :: wsL_law) ({ frames := 5, cells := 1, slots := 4, locals := 107 }) (va_Pc [.ref rd, .ref tp, .ref d] (fun U => U.heap.size = sz ∧ va_P D vwCl [(rd, .inr (4, [.null, .null, .null, .int 0, .int 0, .int 0, .int 0, .int 0, .int 0, .int 0]))] U.heap ∧ va_K D vwCl (TY g) U ∧ va_D (fun _ => True) [(rd, .inr (4, [.null, .null, .null, .int 0, .int 0, .int 0, .int 0, .int 0, .int 0, .int 0]))] ∧ ZI ka kv ff (va_A [(rd, .inr (4, [.null, .null, .null, .int 0, .int 0, .int 0, .int 0, .int 0, .int 0, .int 0]))] sz) U U.heap)) (va_Qv (fun (_ : Unit) => True) (fun _ t => ∃ rd_kindWords : Nat, ∃ ww : Int32, ∃ kwf : Nat → Int32, (KWs kwf) ∧ ((ww : Int32).toInt = 16819) ∧ va_P D vwCl [(wO4 rd tp d rd_kindWords ww 0 0 0 0 0 0), (wI g rd_kindWords 0 4 kwf)] t.heap ∧ va_D (va_A [(rd, .inr (4, [.null, .null, .null, .int 0, .int 0, .int 0, .int 0, .int 0, .int 0, .int 0]))] sz) [(wO4 rd tp d rd_kindWords ww 0 0 0 0 0 0), (wI g rd_kindWords 0 4 kwf)]) (va_A [(rd, .inr (4, [.null, .null, .null, .int 0, .int 0, .int 0, .int 0, .int 0, .int 0, .int 0]))] sz)) 1 4 (va_A [(rd, .inr (4, [.null, .null, .null, .int 0, .int 0, .int 0, .int 0, .int 0, .int 0, .int 0]))] sz) := by
  refine Met.ofW (cc := cX4_init) (maxL := 3) (ret := none) (by decide) rfl ?_
  intro p e s m args below meth c s₁ B hml hv
  obtain ⟨rfl, hsz, hP, hK, hD0, hZ⟩ := hv
  have hx := B.exec
  have hb := B.bytes
  have hr := B.returns
  have hts0 := atoms_spec (ws := (.code yX4_init cX4_init 3 none :: wsL_law)) B.pre
  have hts : ∀ w ∈ wsL_law, w.before _ s = true := fun w h => hts0 w (List.mem_cons_of_mem _ h)
  have hown : s.vm.findClass RX4 = some m.cls := findClass_of_methodNamed B.named
  have hlocks := B.notSynchronized
  have hin : meth.name = "<init>" := (name_of_methodNamed B.named B.method).1
  subst hsz
  have hD := hD0.self (sz := s.heap.size)
  generalize hAe : va_A [(rd, .inr (4, [.null, .null, .null, .int 0, .int 0, .int 0, .int 0, .int 0, .int 0, .int 0]))] s.heap.size = A at hD hZ ⊢
  have hA : ∀ q : Nat, s.heap.size ≤ q → A q := fun q h => by rw [← hAe]; exact Or.inr h
  have hS : va_S A s.heap s.heap [] := va_S.rf
  have hP : va_P D vwCl [(rd, .inr (4, [.null, .null, .null, .int 0, .int 0, .int 0, .int 0, .int 0, .int 0, .int 0]))] s.heap := hP
  have hl := lv_entry ([.ref rd, .ref tp, .ref d]) (n := 3) (Nat.le_of_ble_eq_true rfl)
  rw [lg_entry_eq]
  generalize (lg_sl ([.ref rd, .ref tp, .ref d]) ++ List.replicate (3 - (lg_sl ([.ref rd, .ref tp, .ref d])).length) Slot.unset).toArray = ls at hl ⊢
  have hl : lv_has ls 3 [(0, .ref rd), (1, .ref tp), (2, .ref d)] := hl
  refine lv_aload_n hx hb dX4_init_0 rfl (lv_at hl 0 rfl) ?_
  refine W.objInit hx hb hown (hts (Cond.methodLink RX4 3 objectInit) qw_937) (hts (Cond.instanceMethod objectInit) qw_911) (hts (Cond.code objectInit ⟨#[0xb1]⟩ 1 none) qw_912) rfl (by rw [hml]; exact hl.1) rfl dX4_init_1 (Nat.le_of_ble_eq_true rfl) (Nat.le_of_ble_eq_true rfl) ?_
  refine W.eq (g2 := F0 m 4 ls []) rfl ?_
  refine lv_aload_n hx hb dX4_init_4 rfl (lv_at hl 0 rfl) ?_
  refine lv_aload_n hx hb dX4_init_5 rfl (lv_at hl 1 rfl) ?_
  refine va_putF (D := D) (ci := 4) (v := .ref tp) (ty := .object "ChanceRings$Tape") (C := RX4) (T := TX4) (N := 10) hx hb hts inlX4 tyX4 tyX4_ok nmX4 hown hK hP hD hS 0 rfl rfl 0 (by decide) (hts (Cond.fieldLink RX4 9 "ChanceRings$Reader" "tape" "LChanceRings$Tape;") qw_367) (fun _ h9 => h9) rfl hin rfl (by decide +kernel) rfl rfl (Nat.le_of_ble_eq_true rfl) dX4_init_6 (fun H locs hP hD hS => ?_)
  have hP : va_P D vwCl [(rd, .inr (4, [.ref tp, .null, .null, .int 0, .int 0, .int 0, .int 0, .int 0, .int 0, .int 0]))] H := hP
  have hD : va_D A [(rd, .inr (4, [.ref tp, .null, .null, .int 0, .int 0, .int 0, .int 0, .int 0, .int 0, .int 0]))] := hD
  refine lv_aload_n hx hb dX4_init_9 rfl (lv_at hl 0 rfl) ?_
  refine lv_aload_n hx hb dX4_init_10 rfl (lv_at hl 2 rfl) ?_
  refine va_putF (D := D) (ci := 4) (v := .ref d) (ty := .object "ChanceRings$Net") (C := RX4) (T := TX4) (N := 10) hx hb hts inlX4 tyX4 tyX4_ok nmX4 hown hK hP hD hS 0 rfl rfl 1 (by decide) (hts (Cond.fieldLink RX4 15 "ChanceRings$Reader" "net" "LChanceRings$Net;") qw_388) (fun _ h9 => h9) rfl hin rfl (by decide +kernel) rfl rfl (Nat.le_of_ble_eq_true rfl) dX4_init_11 (fun H locs hP hD hS => ?_)
  have hP : va_P D vwCl [(rd, .inr (4, [.ref tp, .ref d, .null, .int 0, .int 0, .int 0, .int 0, .int 0, .int 0, .int 0]))] H := hP
  have hD : va_D A [(rd, .inr (4, [.ref tp, .ref d, .null, .int 0, .int 0, .int 0, .int 0, .int 0, .int 0, .int 0]))] := hD
  refine lv_aload_n hx hb dX4_init_14 rfl (lv_at hl 0 rfl) ?_
  refine lv_iconst (v := 4) hx hb dX4_init_15 (by decide) ?_
  refine va_newa (atype := .int) (ty := .int) (N' := 4) (a0 := (4, .inl (fun _ => 0))) hx hb (hts (Cond.arrayClass .int) qw_913) rfl hK hP hD hS hA (fun _ => rfl) (by decide) (by decide +kernel) (by decide) (Nat.le_of_ble_eq_true rfl) (Nat.le_of_ble_eq_true rfl) dX4_init_16 (fun q_96375 cA H hK9 hP hD hS => ?_)
  obtain rfl : cA = g 0 := tz_clsI hK hK9
  have hP : va_P D vwCl [(rd, .inr (4, [.ref tp, .ref d, .null, .int 0, .int 0, .int 0, .int 0, .int 0, .int 0, .int 0])), (wI g q_96375 0 4 (fun _ => 0))] H := hP
  have hD : va_D A [(rd, .inr (4, [.ref tp, .ref d, .null, .int 0, .int 0, .int 0, .int 0, .int 0, .int 0, .int 0])), (wI g q_96375 0 4 (fun _ => 0))] := hD
  refine W.widen (k := 1) (n := 4) (by decide) (by decide) ?_
  refine lv_dup hx hb dX4_init_18 rfl ?_
  refine lv_iconst (v := 0) hx hb dX4_init_19 (by decide) ?_
  refine va_ldcS hx hb hown hZ.2.2.2.2.2.2.2.2.2.2.1.1 dX4_init_20 ?_
  refine vp_callSi (va_Run.run (va_runSN (As := [.ref (ka 0)]) (rest := [.int 0, .ref q_96375, .ref q_96375, .ref rd]) ⟨hx, hb, hml, hown, hts⟩ (c_X11_pack_3 l (ka 0) (kv 0) (ff 0) A) ⟨va_cnB 1 hts (tz_gC qw_938) rfl rfl rfl hZ.2.2.2.2.1 (hts (Cond.initialized RX11) qw_713) (by decide +kernel) ⟨Nat.le_of_ble_eq_true rfl, Nat.le_of_ble_eq_true rfl⟩, (hts (Cond.static yX11_pack) qw_939), trivial⟩ ⟨tz_blJ, tz_preJ (hZ.2.2.2.2.2.2.2.2.2.2.1.2.kept hS.2.1)⟩ rfl rfl hl.1 rfl (lv_room (Nat.le_of_ble_eq_true rfl)) dX4_init_22 ⟨Nat.le_of_ble_eq_true rfl, Nat.le_of_ble_eq_true rfl⟩)) (fun r_96376 r_96376_w => ?_)
  refine va_iast hx hb hK hP hD hS 1 0 rfl rfl (tz_in (by decide +kernel)) dX4_init_25 (fun H locs hP hD hS => ?_)
  obtain ⟨f_96377, f_96377_e, hP, hD⟩ : ∃ FX : Nat → Int32, FX = upd (fun _ => 0) (0 : Int32).toNatClampNeg r_96376 ∧ va_P D vwCl [(rd, .inr (4, [.ref tp, .ref d, .null, .int 0, .int 0, .int 0, .int 0, .int 0, .int 0, .int 0])), (wI g q_96375 0 4 FX)] H ∧ va_D A [(rd, .inr (4, [.ref tp, .ref d, .null, .int 0, .int 0, .int 0, .int 0, .int 0, .int 0, .int 0])), (wI g q_96375 0 4 FX)] := ⟨_, rfl, hP, hD⟩
  have hP : va_P D vwCl [(rd, .inr (4, [.ref tp, .ref d, .null, .int 0, .int 0, .int 0, .int 0, .int 0, .int 0, .int 0])), (wI g q_96375 0 4 f_96377)] H := hP
  have hD : va_D A [(rd, .inr (4, [.ref tp, .ref d, .null, .int 0, .int 0, .int 0, .int 0, .int 0, .int 0, .int 0])), (wI g q_96375 0 4 f_96377)] := hD
  refine lv_dup hx hb dX4_init_26 rfl ?_
  refine lv_iconst (v := 1) hx hb dX4_init_27 (by decide) ?_
  refine va_ldcS hx hb hown hZ.2.2.2.2.2.2.2.2.2.2.2.1.1 dX4_init_28 ?_
  refine vp_callSi (va_Run.run (va_runSN (As := [.ref (ka 1)]) (rest := [.int 1, .ref q_96375, .ref q_96375, .ref rd]) ⟨hx, hb, hml, hown, hts⟩ (c_X11_pack_3 l (ka 1) (kv 1) (ff 1) A) ⟨va_cnB 1 hts (tz_gC qw_938) rfl rfl rfl hZ.2.2.2.2.1 (hts (Cond.initialized RX11) qw_713) (by decide +kernel) ⟨Nat.le_of_ble_eq_true rfl, Nat.le_of_ble_eq_true rfl⟩, (hts (Cond.static yX11_pack) qw_939), trivial⟩ ⟨tz_blJ, tz_preJ (hZ.2.2.2.2.2.2.2.2.2.2.2.1.2.kept hS.2.1)⟩ rfl rfl hl.1 rfl (lv_room (Nat.le_of_ble_eq_true rfl)) dX4_init_30 ⟨Nat.le_of_ble_eq_true rfl, Nat.le_of_ble_eq_true rfl⟩)) (fun r_96378 r_96378_w => ?_)
  refine va_iast hx hb hK hP hD hS 1 0 rfl rfl (tz_in (by decide +kernel)) dX4_init_33 (fun H locs hP hD hS => ?_)
  obtain ⟨f_96379, f_96379_e, hP, hD⟩ : ∃ FX : Nat → Int32, FX = upd f_96377 (1 : Int32).toNatClampNeg r_96378 ∧ va_P D vwCl [(rd, .inr (4, [.ref tp, .ref d, .null, .int 0, .int 0, .int 0, .int 0, .int 0, .int 0, .int 0])), (wI g q_96375 0 4 FX)] H ∧ va_D A [(rd, .inr (4, [.ref tp, .ref d, .null, .int 0, .int 0, .int 0, .int 0, .int 0, .int 0, .int 0])), (wI g q_96375 0 4 FX)] := ⟨_, rfl, hP, hD⟩
  have hP : va_P D vwCl [(rd, .inr (4, [.ref tp, .ref d, .null, .int 0, .int 0, .int 0, .int 0, .int 0, .int 0, .int 0])), (wI g q_96375 0 4 f_96379)] H := hP
  have hD : va_D A [(rd, .inr (4, [.ref tp, .ref d, .null, .int 0, .int 0, .int 0, .int 0, .int 0, .int 0, .int 0])), (wI g q_96375 0 4 f_96379)] := hD
  refine lv_dup hx hb dX4_init_34 rfl ?_
  refine lv_iconst (v := 2) hx hb dX4_init_35 (by decide) ?_
  refine va_ldcS hx hb hown hZ.2.2.2.2.2.2.2.2.2.2.2.2.1.1 dX4_init_36 ?_
  refine vp_callSi (va_Run.run (va_runSN (As := [.ref (ka 2)]) (rest := [.int 2, .ref q_96375, .ref q_96375, .ref rd]) ⟨hx, hb, hml, hown, hts⟩ (c_X11_pack_3 l (ka 2) (kv 2) (ff 2) A) ⟨va_cnB 1 hts (tz_gC qw_938) rfl rfl rfl hZ.2.2.2.2.1 (hts (Cond.initialized RX11) qw_713) (by decide +kernel) ⟨Nat.le_of_ble_eq_true rfl, Nat.le_of_ble_eq_true rfl⟩, (hts (Cond.static yX11_pack) qw_939), trivial⟩ ⟨tz_blJ, tz_preJ (hZ.2.2.2.2.2.2.2.2.2.2.2.2.1.2.kept hS.2.1)⟩ rfl rfl hl.1 rfl (lv_room (Nat.le_of_ble_eq_true rfl)) dX4_init_38 ⟨Nat.le_of_ble_eq_true rfl, Nat.le_of_ble_eq_true rfl⟩)) (fun r_96380 r_96380_w => ?_)
  refine va_iast hx hb hK hP hD hS 1 0 rfl rfl (tz_in (by decide +kernel)) dX4_init_41 (fun H locs hP hD hS => ?_)
  obtain ⟨f_96381, f_96381_e, hP, hD⟩ : ∃ FX : Nat → Int32, FX = upd f_96379 (2 : Int32).toNatClampNeg r_96380 ∧ va_P D vwCl [(rd, .inr (4, [.ref tp, .ref d, .null, .int 0, .int 0, .int 0, .int 0, .int 0, .int 0, .int 0])), (wI g q_96375 0 4 FX)] H ∧ va_D A [(rd, .inr (4, [.ref tp, .ref d, .null, .int 0, .int 0, .int 0, .int 0, .int 0, .int 0, .int 0])), (wI g q_96375 0 4 FX)] := ⟨_, rfl, hP, hD⟩
  have hP : va_P D vwCl [(rd, .inr (4, [.ref tp, .ref d, .null, .int 0, .int 0, .int 0, .int 0, .int 0, .int 0, .int 0])), (wI g q_96375 0 4 f_96381)] H := hP
  have hD : va_D A [(rd, .inr (4, [.ref tp, .ref d, .null, .int 0, .int 0, .int 0, .int 0, .int 0, .int 0, .int 0])), (wI g q_96375 0 4 f_96381)] := hD
  refine lv_dup hx hb dX4_init_42 rfl ?_
  refine lv_iconst (v := 3) hx hb dX4_init_43 (by decide) ?_
  refine va_ldcS hx hb hown hZ.2.2.2.2.2.2.2.2.2.2.2.2.2.1.1 dX4_init_44 ?_
  refine vp_callSi (va_Run.run (va_runSN (As := [.ref (ka 3)]) (rest := [.int 3, .ref q_96375, .ref q_96375, .ref rd]) ⟨hx, hb, hml, hown, hts⟩ (c_X11_pack_6 l (ka 3) (kv 3) (ff 3) A) ⟨va_cnB 1 hts (tz_gC qw_938) rfl rfl rfl hZ.2.2.2.2.1 (hts (Cond.initialized RX11) qw_713) (by decide +kernel) ⟨Nat.le_of_ble_eq_true rfl, Nat.le_of_ble_eq_true rfl⟩, (hts (Cond.static yX11_pack) qw_939), trivial⟩ ⟨tz_blJ, tz_preJ (hZ.2.2.2.2.2.2.2.2.2.2.2.2.2.1.2.kept hS.2.1)⟩ rfl rfl hl.1 rfl (lv_room (Nat.le_of_ble_eq_true rfl)) dX4_init_46 ⟨Nat.le_of_ble_eq_true rfl, Nat.le_of_ble_eq_true rfl⟩)) (fun r_96382 r_96382_w => ?_)
  refine va_iast hx hb hK hP hD hS 1 0 rfl rfl (tz_in (by decide +kernel)) dX4_init_49 (fun H locs hP hD hS => ?_)
  obtain ⟨f_96383, f_96383_e, hP, hD⟩ : ∃ FX : Nat → Int32, FX = upd f_96381 (3 : Int32).toNatClampNeg r_96382 ∧ va_P D vwCl [(rd, .inr (4, [.ref tp, .ref d, .null, .int 0, .int 0, .int 0, .int 0, .int 0, .int 0, .int 0])), (wI g q_96375 0 4 FX)] H ∧ va_D A [(rd, .inr (4, [.ref tp, .ref d, .null, .int 0, .int 0, .int 0, .int 0, .int 0, .int 0, .int 0])), (wI g q_96375 0 4 FX)] := ⟨_, rfl, hP, hD⟩
  have hP : va_P D vwCl [(rd, .inr (4, [.ref tp, .ref d, .null, .int 0, .int 0, .int 0, .int 0, .int 0, .int 0, .int 0])), (wI g q_96375 0 4 f_96383)] H := hP
  have hD : va_D A [(rd, .inr (4, [.ref tp, .ref d, .null, .int 0, .int 0, .int 0, .int 0, .int 0, .int 0, .int 0])), (wI g q_96375 0 4 f_96383)] := hD
  refine va_putF (D := D) (ci := 4) (v := .ref q_96375) (ty := .array .int) (C := RX4) (T := TX4) (N := 10) hx hb hts inlX4 tyX4 tyX4_ok nmX4 hown hK hP hD hS 0 rfl rfl 2 (by decide) (hts (Cond.fieldLink RX4 31 "ChanceRings$Reader" "kindWords" "[I") qw_382) (fun _ h9 => h9) rfl hin rfl (by decide +kernel) rfl rfl (Nat.le_of_ble_eq_true rfl) dX4_init_50 (fun H locs hP hD hS => ?_)
  have hP : va_P D vwCl [(wO4 rd tp d q_96375 0 0 0 0 0 0 0), (wI g q_96375 0 4 f_96383)] H := hP
  have hD : va_D A [(wO4 rd tp d q_96375 0 0 0 0 0 0 0), (wI g q_96375 0 4 f_96383)] := hD
  refine lv_aload_n hx hb dX4_init_53 rfl (lv_at hl 0 rfl) ?_
  refine va_ldcS hx hb hown hZ.2.2.2.2.2.2.2.2.2.2.2.2.2.2.1 dX4_init_54 ?_
  refine vp_callSi (va_Run.run (va_runSN (As := [.ref (ka 4)]) (rest := [.ref rd]) ⟨hx, hb, hml, hown, hts⟩ (c_X11_pack_3 l (ka 4) (kv 4) (ff 4) A) ⟨va_cnB 1 hts (tz_gC qw_938) rfl rfl rfl hZ.2.2.2.2.1 (hts (Cond.initialized RX11) qw_713) (by decide +kernel) ⟨Nat.le_of_ble_eq_true rfl, Nat.le_of_ble_eq_true rfl⟩, (hts (Cond.static yX11_pack) qw_939), trivial⟩ ⟨tz_blJ, tz_preJ (hZ.2.2.2.2.2.2.2.2.2.2.2.2.2.2.2.kept hS.2.1)⟩ rfl rfl hl.1 rfl (lv_room (Nat.le_of_ble_eq_true rfl)) dX4_init_56 ⟨Nat.le_of_ble_eq_true rfl, Nat.le_of_ble_eq_true rfl⟩)) (fun r_96384 r_96384_w => ?_)
  refine va_putF (D := D) (ci := 4) (v := .int r_96384) (ty := .int) (C := RX4) (T := TX4) (N := 10) hx hb hts inlX4 tyX4 tyX4_ok nmX4 hown hK hP hD hS 0 rfl rfl 3 (by decide) (hts (Cond.fieldLink RX4 37 "ChanceRings$Reader" "wayWord" "I") qw_383) (fun _ h9 => h9) rfl hin rfl (by decide +kernel) rfl rfl (Nat.le_of_ble_eq_true rfl) dX4_init_59 (fun H locs hP hD hS => ?_)
  have hP : va_P D vwCl [(wO4 rd tp d q_96375 r_96384 0 0 0 0 0 0), (wI g q_96375 0 4 f_96383)] H := hP
  have hD : va_D A [(wO4 rd tp d q_96375 r_96384 0 0 0 0 0 0), (wI g q_96375 0 4 f_96383)] := hD
  have hP9 := hP.sub (ws' := [(wO4 rd tp d q_96375 r_96384 0 0 0 0 0 0), (wI g q_96375 0 4 f_96383)]) [0, 1] rfl
  have hD9 := hD.sub (ws' := [(wO4 rd tp d q_96375 r_96384 0 0 0 0 0 0), (wI g q_96375 0 4 f_96383)]) [0, 1] (by decide) rfl
  exact W.vret hx hb hr (fun t ht hW => ⟨⟨(), rfl, trivial, q_96375, r_96384, f_96383, (kws_of hff f_96377_e f_96379_e f_96381_e f_96383_e r_96376_w r_96378_w r_96380_w r_96382_w), (ww_of hff r_96384_w), by rw [ht]; exact hP9, hD9⟩, hS.F ht⟩) hS.2.2 dX4_init_62
