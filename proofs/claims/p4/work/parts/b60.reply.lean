/-! the least of all replies; plans that are bettered step by step come to an end -/
theorem rat_cancel {a b c : Rat} (hc : 0 < c) (h : a * c ≤ b * c) : a ≤ b := Rat.not_lt.mp fun hlt => by
  have := Rat.mul_pos (show 0 < a - b by grind) hc
  grind
def CR (c : Nat → Int32) : Prop := ∀ j : Nat, 0 ≤ (c j).toInt ∧ (c j).toInt ≤ 2
def cN (c : Nat → Int32) : Nat → Nat := fun k => (c k).toInt.toNat
section RP
variable {f c c' : Nat → Int32}
theorem g_leg (hc : CR c) (h1 : LGd f 1 c) (h2 : LGd f 2 c) : pz_L (gNo f) (gPl f) (gAl f) (cN c) := by
  intro k hk hp
  have hp : (f (1 + k)).toInt = 1 ∨ (f (1 + k)).toInt = 2 := by unfold gPl at hp; simpa using hp
  have hc := hc k
  have h : (c k).toInt < (f (25 + k)).toInt ∧ (0 ≤ (f (109 + k)).toInt → (c k).toInt = (f (109 + k)).toInt) := by
    rcases hp with e | e
    · exact h1 k hk e
    · exact h2 k hk e
  refine ⟨by unfold wys cN; omega, ?_⟩
  by_cases q : (f (109 + k)).toInt < 0
  · exact Or.inl q
  · have := h.2 (by omega); unfold cN; right; omega
theorem g_leg2 (hc : CR c) : ∀ k, k < gNo f → gPl f k = true → (c k).toInt = ((cN c k : Nat) : Int) := fun k _ _ => by have := hc k; unfold cN; omega
theorem VAL_u (hG : GS f) (hc : CR c) (h1 : LGd f 1 c) (h2 : LGd f 2 c) {v v' : Nat → Rat} (hv : VAL f c v) (hv' : VAL f c v') {t : Nat} (ht : t < (f 0).toInt.toNat) : v t = v' t :=
  (vof_eq hG (g_leg2 hc) (g_leg hc h1 h2) hv t ht).trans (vof_eq hG (g_leg2 hc) (g_leg hc h1 h2) hv' t ht).symm
theorem gsR_cc {k : Nat} (h : c' k = c k) (v : Nat → Rat) : ∀ m, gsR f c' k v m = gsR f c k v m
  | 0 => rfl
  | m + 1 => by
    show gsR f c' k v m + _ = gsR f c k v m + _
    rw [gsR_cc h v m]
    by_cases q : wsel f c k m
    · have q' : wsel f c' k m := by rcases q with z | z; exact Or.inl z; exact Or.inr (by rw [h]; exact z)
      rw [if_pos q, if_pos q']
    · have q' : ¬ wsel f c' k m := fun z => q (by rcases z with z | z; exact Or.inl z; exact Or.inr (by rw [← h]; exact z))
      rw [if_neg q, if_neg q']
theorem RK_cc (h : ∀ j, j < (f 0).toInt.toNat → c' j = c j) : ∀ m k, RK f c m k → RK f c' m k
  | 0, _, hk => hk
  | m + 1, k, hk => by
    rcases hk with hk | ⟨h1, h2, j, ⟨i, h3, h4, h5⟩, h6⟩
    · exact Or.inl (RK_cc h m k hk)
    · exact Or.inr ⟨h1, h2, j, ⟨i, h3, by rw [h k (by omega)]; exact h4, h5⟩, RK_cc h m j h6⟩
theorem VAL_cong (h : ∀ j, j < (f 0).toInt.toNat → c' j = c j) {v : Nat → Rat} (hv : VAL f c v) : VAL f c' v := by
  have e : ∀ k, RC f c' k ↔ RC f c k := fun k => ⟨fun ⟨m, hm⟩ => ⟨m, RK_cc (fun j hj => (h j hj).symm) m k hm⟩, fun ⟨m, hm⟩ => ⟨m, RK_cc h m k hm⟩⟩
  refine ⟨hv.1, fun k hk h1 h2 => hv.2.1 k hk h1 (fun z => h2 ((e k).mpr z)), fun k hk h1 h2 => ?_⟩
  rw [gsR_cc (h k hk), gsR_cc (h k hk)]
  exact hv.2.2 k hk h1 ((e k).mp h2)
def FRB (x y : Int64) : Prop := 0 < y.toInt ∧ y.toInt ≤ 400000000 ∧ 0 ≤ x.toInt ∧ x.toInt ≤ 3600000000
theorem FRB_mul {x y z w : Int64} (h : FRB x y) (h2 : FRB z w) : (x * w).toInt = x.toInt * w.toInt := by
  have := tl_absmul (a := x.toInt) (b := w.toInt) (A := 3600000000) (B := 400000000) ⟨by have := h.2.2.1; omega, h.2.2.2⟩ ⟨by have := h2.1; omega, h2.2.1⟩
  exact tl_mul (by omega) (by omega)
def frq (x : Int64) : Rat := ((x.toInt : Int) : Rat)
theorem frq_pos {x : Int64} (h : 0 < x.toInt) : 0 < frq x := by unfold frq; exact_mod_cast h
theorem FRB_le {x y z w : Int64} (h : FRB x y) (h2 : FRB z w) (hl : (x * w).toInt ≤ (z * y).toInt) : frq x * frq w ≤ frq z * frq y := by
  rw [FRB_mul h h2, FRB_mul h2 h] at hl
  unfold frq; exact_mod_cast hl
theorem FRB_lt {x y z w : Int64} (h : FRB x y) (h2 : FRB z w) (hl : (x * w).toInt < (z * y).toInt) : frq x * frq w < frq z * frq y := by
  rw [FRB_mul h h2, FRB_mul h2 h] at hl
  unfold frq; exact_mod_cast hl
theorem PLV_fr {u l : Nat → Int64} (h : PLV f c u l) : ∃ v, VAL f c v ∧ ∀ t, t < (f 0).toInt.toNat → FRB (u t) (l t) ∧ frq (u t) = frq (l t) * v t := by
  obtain ⟨v, hv, h2⟩ := h
  refine ⟨v, hv, fun t ht => ?_⟩
  obtain ⟨a, b, c, d, e⟩ := h2 t ht
  exact ⟨⟨a, b, c, d⟩, e⟩
def RPL (f c0 : Nat → Int32) (M : Int) (ru rl : Nat → Int64) : Prop := (∀ t, t < (f 0).toInt.toNat → FRB (ru t) (rl t)) ∧ (∀ c v, CR c → LGd f 2 c → OTH f 2 c0 c → NUM f 2 c (f 0).toInt.toNat < M → VAL f c v → ∀ t, t < (f 0).toInt.toNat → frq (ru t) ≤ frq (rl t) * v t) ∧ ∀ t, t < (f 0).toInt.toNat → ∃ c v, CR c ∧ LGd f 2 c ∧ OTH f 2 c0 c ∧ VAL f c v ∧ frq (ru t) = frq (rl t) * v t
def RPO (f c0 c : Nat → Int32) (first : Int32) (ru rl : Nat → Int64) : Prop := (first.toInt = 0 → RPL f c0 (NUM f 2 c (f 0).toInt.toNat) ru rl) ∧ (¬ first.toInt = 0 → NUM f 2 c (f 0).toInt.toNat = 0)
def RPI (first : Int32) (u l ru0 rl0 ru rl : Nat → Int64) (k : Nat) : Prop := (∀ t, k ≤ t → ru t = ru0 t ∧ rl t = rl0 t) ∧ ∀ t, t < k → (ru t = u t ∧ rl t = l t ∧ (first.toInt = 0 → (u t * rl0 t).toInt < (ru0 t * l t).toInt)) ∨ (ru t = ru0 t ∧ rl t = rl0 t ∧ first.toInt = 0 ∧ (ru0 t * l t).toInt ≤ (u t * rl0 t).toInt)
theorem RPI_zero {first : Int32} {u l ru0 rl0 : Nat → Int64} : RPI first u l ru0 rl0 ru0 rl0 0 := ⟨fun _ _ => ⟨rfl, rfl⟩, fun t h => absurd h (by omega)⟩
theorem RPI_put {first : Int32} {u l ru0 rl0 ru rl ru' rl' : Nat → Int64} {k k2 : Nat} {x y : Int64} (h : RPI first u l ru0 rl0 ru rl k) (hx : x = u k) (hy : y = l k) (e1 : ru' = fun j9 => if j9 = k then x else ru j9) (e2 : rl' = fun j9 => if j9 = k then y else rl j9) (hb : first.toInt = 0 → (u k * rl k).toInt < (ru k * l k).toInt) (hk : k2 = k + 1) : RPI first u l ru0 rl0 ru' rl' k2 := by
  subst hk e1 e2
  obtain ⟨z1, z2⟩ := h.1 k (Nat.le_refl _)
  rw [z1, z2] at hb
  refine ⟨fun t ht => ?_, fun t ht => ?_⟩
  · show (if t = k then x else ru t) = ru0 t ∧ (if t = k then y else rl t) = rl0 t
    rw [if_neg (by omega), if_neg (by omega)]
    exact h.1 t (by omega)
  · show ((if t = k then x else ru t) = u t ∧ (if t = k then y else rl t) = l t ∧ _) ∨ ((if t = k then x else ru t) = ru0 t ∧ (if t = k then y else rl t) = rl0 t ∧ _)
    by_cases q : t = k
    · subst q
      rw [if_pos rfl, if_pos rfl]
      exact Or.inl ⟨hx, hy, hb⟩
    · rw [if_neg q, if_neg q]
      exact h.2 t (by omega)
theorem RPI_skip {first : Int32} {u l ru0 rl0 ru rl : Nat → Int64} {k k2 : Nat} (h : RPI first u l ru0 rl0 ru rl k) (hf : first.toInt = 0) (hb : (ru k * l k).toInt ≤ (u k * rl k).toInt) (hk : k2 = k + 1) : RPI first u l ru0 rl0 ru rl k2 := by
  subst hk
  obtain ⟨z1, z2⟩ := h.1 k (Nat.le_refl _)
  refine ⟨fun t ht => h.1 t (by omega), fun t ht => ?_⟩
  by_cases q : t = k
  · subst q
    rw [z1, z2] at hb
    exact Or.inr ⟨z1, z2, hf, hb⟩
  · exact h.2 t (by omega)
theorem RPI_done (hG : GS f) {c0 : Nat → Int32} {first : Int32} {u l ru0 rl0 ru rl : Nat → Int64} {k : Nat} {M : Int} (hc : CR c) (h1 : LGd f 1 c) (h2 : LGd f 2 c) (ho : OTH f 2 c0 c) (hP : PLV f c u l) (hO : RPO f c0 c first ru0 rl0) (h : RPI first u l ru0 rl0 ru rl k) (hk : k = (f 0).toInt.toNat) (hM : M = NUM f 2 c (f 0).toInt.toNat + 1) : RPL f c0 M ru rl := by
  subst hk hM
  obtain ⟨v, hv, hu⟩ := PLV_fr hP
  refine ⟨fun t ht => ?_, fun c2 v2 hc2 hl2 ho2 hn2 hv2 t ht => ?_, fun t ht => ?_⟩
  · rcases h.2 t ht with ⟨a, b, _⟩ | ⟨a, b, hf, _⟩
    · rw [a, b]; exact (hu t ht).1
    · rw [a, b]; exact (hO.1 hf).1 t ht
  · obtain ⟨b1, e1⟩ := hu t ht
    by_cases q : NUM f 2 c2 (f 0).toInt.toNat = NUM f 2 c (f 0).toInt.toNat
    · have hag : ∀ j, j < (f 0).toInt.toNat → c j = c2 j := fun j hj => by
        by_cases q2 : (f (1 + j)).toInt = 2
        · by_cases q3 : (f (109 + j)).toInt < 0
          · exact (NUM_inj _ (fun j hj e => ⟨(hc2 j).1, (hl2 j hj e).1⟩) (fun j hj e => ⟨(hc j).1, (h2 j hj e).1⟩) q j hj q2 q3).symm
          · have a1 := (hl2 j hj q2).2 (by omega)
            have a2 := (h2 j hj q2).2 (by omega)
            exact Int32.toInt_inj.mp (by omega)
        · rw [ho j hj q2, ho2 j hj q2]
      have ev := VAL_u hG hc h1 h2 (VAL_cong hag hv2) hv ht
      rw [ev]
      rcases h.2 t ht with ⟨a, b, _⟩ | ⟨a, b, hf, hle⟩
      · rw [a, b, e1]; exact Rat.le_refl
      · rw [a, b]
        have b0 := (hO.1 hf).1 t ht
        have hq := FRB_le b0 b1 hle
        have hp := frq_pos b1.1
        refine rat_cancel hp ?_
        rw [e1] at hq
        grind
    · have hlt : NUM f 2 c2 (f 0).toInt.toNat < NUM f 2 c (f 0).toInt.toNat := by omega
      have hn0 := (NUM_in hc2 hl2).1
      have hf : first.toInt = 0 := by
        by_cases q4 : first.toInt = 0
        · exact q4
        · have := hO.2 q4; omega
      have hold := (hO.1 hf).2.1 c2 v2 hc2 hl2 ho2 hlt hv2 t ht
      have b0 := (hO.1 hf).1 t ht
      rcases h.2 t ht with ⟨a, b, hb⟩ | ⟨a, b, _⟩
      · rw [a, b]
        have hq := FRB_lt b1 b0 (hb hf)
        have hp := frq_pos b0.1
        have hp1 := frq_pos b1.1
        refine rat_cancel hp ?_
        have := Rat.mul_le_mul_of_nonneg_right hold (Rat.le_of_lt hp1)
        grind
      · rw [a, b]; exact hold
  · rcases h.2 t ht with ⟨a, b, _⟩ | ⟨a, b, hf, _⟩
    · exact ⟨c, v, hc, h2, ho, hv, by rw [a, b]; exact (hu t ht).2⟩
    · rw [a, b]; exact (hO.1 hf).2.2 t ht
/-! the best reply as a plan -/
def AG (f : Nat → Int32) (s c : Nat → Nat) : Prop := ∀ k, k < gNo f → gMx f k = true → c k = s k
def BST (f : Nat → Int32) (s b : Nat → Nat) : Prop := pz_L (gNo f) (gPl f) (gAl f) b ∧ AG f s b ∧ (∀ c, pz_L (gNo f) (gPl f) (gAl f) c → AG f s c → ∀ k, k < gNo f → vof f b k ≤ vof f c k) ∧ (∀ c, pz_L (gNo f) (gPl f) (gAl f) c → AG f s c → ∀ k, k < gNo f → ¬ pz_C (gEn f) (pz_sc (gPl f) (gCh f) (wtg f) c) k → vof f b k = 0) ∧ ∀ k, k < gNo f → gEn f k = false → gPl f k = true → gMx f k = false → ∀ i, gAl f k i → vof f b k ≤ vof f b (wtg f k i)
def plans : Nat → List (Nat → Nat)
  | 0 => [fun _ => 0]
  | m + 1 => (plans m).flatMap (fun p => [(fun k => if k = m then 0 else p k), (fun k => if k = m then 1 else p k), (fun k => if k = m then 2 else p k)])
theorem plans_mem (p : Nat → Nat) : ∀ m, (∀ k, k < m → p k < 3) → (fun k => if k < m then p k else 0) ∈ plans m
  | 0, _ => by
    rw [show (fun k => if k < 0 then p k else 0) = fun _ => 0 from funext fun k => if_neg (by omega)]
    exact List.mem_singleton.mpr rfl
  | m + 1, h => by
    refine List.mem_flatMap.mpr ⟨_, plans_mem p m (fun k hk => h k (by omega)), ?_⟩
    have e : ∀ x, p m = x → (fun k => if k < m + 1 then p k else 0) = fun k => if k = m then x else (if k < m then p k else 0) := fun x hx => funext fun k => by
      by_cases q : k = m
      · subst q; rw [if_pos (by omega), if_pos rfl, hx]
      · rw [if_neg q]
        by_cases q2 : k < m
        · rw [if_pos q2, if_pos (by omega)]
        · rw [if_neg q2, if_neg (by omega)]
    have h3 := h m (by omega)
    rcases (show p m = 0 ∨ p m = 1 ∨ p m = 2 by omega) with z | z | z
    · rw [e 0 z]; exact List.mem_cons_self
    · rw [e 1 z]; exact List.mem_cons_of_mem _ List.mem_cons_self
    · rw [e 2 z]; exact List.mem_cons_of_mem _ (List.mem_cons_of_mem _ List.mem_cons_self)
theorem vof_same (hG : GS f) {d c : Nat → Nat} (hc : pz_L (gNo f) (gPl f) (gAl f) c) (hd : ∀ k, k < gNo f → gPl f k = true → d k = c k) : ∀ k, k < gNo f → vof f d k = vof f c k := by
  have hx := VAL_ex hG (fun k => Int32.ofInt ((d k % 3 : Nat) : Int))
  exact vof_eq hG (d := fun k => Int32.ofInt ((d k % 3 : Nat) : Int)) (fun k hk hp => by
    rw [← hd k hk hp]
    exact i32_mod (d k) (by rw [hd k hk hp]; have := (hc k hk hp).1; have := g_wys hG hk; omega)) hc (Classical.epsilon_spec hx)
def SL (f : Nat → Int32) (s : Nat → Nat) : Prop := ∀ k, k < gNo f → gMx f k = true → gAl f k (s k)
theorem gMx_pl {k : Nat} (h : gMx f k = true) : gPl f k = true := by
  unfold gMx at h
  have : (f (1 + k)).toInt = 1 := by simpa using h
  unfold gPl; simp [this]
theorem bst_ex (hG : GS f) {s : Nat → Nat} (hs : SL f s) : ∃ b, BST f s b := by
  have h0 := hG.r.1
  have hP : ∃ P : List (Nat → Nat), (∀ c, c ∈ P ↔ c ∈ plans 12 ∧ pz_L (gNo f) (gPl f) (gAl f) c ∧ AG f s c) := ⟨(plans 12).filter (fun c => @decide (pz_L (gNo f) (gPl f) (gAl f) c ∧ AG f s c) (Classical.propDecidable _)), fun c => by rw [List.mem_filter]; exact and_congr_right fun _ => @decide_eq_true_iff _ (Classical.propDecidable _)⟩
  obtain ⟨P, hP⟩ := hP
  have hall : ∀ c, pz_L (gNo f) (gPl f) (gAl f) c → AG f s c → ∃ d, d ∈ P ∧ ∀ k, k < gNo f → gPl f k = true → d k = c k := fun c hc hag => by
    have hlt : ∀ k, k < gNo f → k < 12 := fun k hk => by unfold gNo at hk; omega
    have hd : ∀ k, k < gNo f → gPl f k = true → (fun k => if k < 12 then (fun k => if k < gNo f ∧ gPl f k = true then c k else 0) k else 0) k = c k := fun k hk hp => by
      show (if k < 12 then (if k < gNo f ∧ gPl f k = true then c k else 0) else 0) = c k
      rw [if_pos (hlt k hk), if_pos ⟨hk, hp⟩]
    refine ⟨_, (hP _).mpr ⟨plans_mem (fun k => if k < gNo f ∧ gPl f k = true then c k else 0) 12 (fun k _ => ?_), fun k hk hp => by rw [hd k hk hp]; exact hc k hk hp, fun k hk hp => by rw [hd k hk (gMx_pl hp)]; exact hag k hk hp⟩, hd⟩
    show (if k < gNo f ∧ gPl f k = true then c k else 0) < 3
    by_cases q : k < gNo f ∧ gPl f k = true
    · rw [if_pos q]
      have a1 := (hc k q.1 q.2).1
      have a2 := g_wys hG q.1
      omega
    · rw [if_neg q]; omega
  have hne : P ≠ [] := by
    have hc : pz_L (gNo f) (gPl f) (gAl f) (fun k => if gMx f k = true then s k else (f (109 + k)).toInt.toNat) := fun k hk hp => by
      show gAl f k (if gMx f k = true then s k else (f (109 + k)).toInt.toNat)
      by_cases q : gMx f k = true
      · rw [if_pos q]; exact hs k hk q
      · rw [if_neg q]
        have hp2 : (f (1 + k)).toInt = 1 ∨ (f (1 + k)).toInt = 2 := by unfold gPl at hp; simpa using hp
        have hk' : k < (f 0).toInt.toNat := hk
        have a1 := hG.2 k (by omega) (by omega)
        have a2 := hG.1.2.2.2.2.2.1 k (by omega) (by omega)
        exact ⟨by unfold wys; omega, by omega⟩
    obtain ⟨d, hd, _⟩ := hall _ hc (fun k hk hp => if_pos hp)
    intro e
    rw [e] at hd
    exact absurd hd List.not_mem_nil
  obtain ⟨b, hb, hb1, hb2, hb3⟩ := pz_best (g_N hG) (vof f) (vof_V hG) (s := s) hne (fun c hc => ⟨((hP c).mp hc).2.1, ((hP c).mp hc).2.2⟩) (fun c hc hag => by
    obtain ⟨d, hd, hd2⟩ := hall c hc hag
    exact ⟨d, hd, vof_same hG hc hd2⟩)
  exact ⟨b, ((hP b).mp hb).2.1, ((hP b).mp hb).2.2, hb1, hb2, hb3⟩
noncomputable def bst (f : Nat → Int32) (s : Nat → Nat) : Nat → Nat := Classical.epsilon (fun b => BST f s b)
theorem bst_spec (hG : GS f) {s : Nat → Nat} (hs : SL f s) : BST f s (bst f s) := Classical.epsilon_spec (bst_ex hG hs)
noncomputable def LV (f : Nat → Int32) (s : Nat → Nat) : Rat := pz_m (gNo f) (vof f (bst f s))
noncomputable def MU (f : Nat → Int32) (s : Nat → Nat) : Nat := pz_up (LV f) (plans 12) (LV f s)
theorem LV_same {s t : Nat → Nat} (h : ∀ k, k < gNo f → t k = s k) : LV f t = LV f s := by
  have e1 : AG f t = AG f s := funext fun c => propext ⟨fun q k hk hp => (q k hk hp).trans (h k hk), fun q k hk hp => (q k hk hp).trans (h k hk).symm⟩
  have e2 : BST f t = BST f s := funext fun b => by unfold BST; rw [e1]
  unfold LV bst
  rw [e2]
theorem MU_lt (hG : GS f) {s t : Nat → Nat} (ht : ∀ k, t k < 3) (h : LV f s < LV f t) : MU f t < MU f s := by
  have h0 := hG.r.1
  have e : LV f (fun k => if k < 12 then t k else 0) = LV f t := LV_same (fun k hk => by unfold gNo at hk; exact if_pos (by omega))
  have := pz_up_lt (LV f) (plans 12) _ (LV f s) (plans_mem t 12 (fun k _ => ht k)) (by rw [e]; exact h)
  rw [e] at this
  exact this
theorem RPL_bst (hG : GS f) {c0 : Nat → Int32} {s : Nat → Nat} {ru rl : Nat → Int64} (hc0 : CR c0) (h1 : LGd f 1 c0) (hs : ∀ k, k < (f 0).toInt.toNat → (f (1 + k)).toInt = 1 → (c0 k).toInt = (s k : Int)) (hSL : SL f s) (hR : RPL f c0 (TOT f 2 (f 0).toInt.toNat) ru rl) : ∀ t, t < (f 0).toInt.toNat → frq (ru t) = frq (rl t) * vof f (bst f s) t := by
  have h0 := hG.r.1
  obtain ⟨hb, hag, hmin, _, _⟩ := bst_spec hG hSL
  have hpl1 : ∀ k, (f (1 + k)).toInt = 1 → gPl f k = true ∧ gMx f k = true := fun k e => ⟨by unfold gPl; simp [e], by unfold gMx; simp [e]⟩
  have hpl2 : ∀ k, (f (1 + k)).toInt = 2 → gPl f k = true := fun k e => by unfold gPl; simp [e]
  intro t ht
  have hp := frq_pos (hR.1 t ht).1
  refine Rat.le_antisymm ?_ ?_
  · obtain ⟨db, hdb⟩ : ∃ db : Nat → Int32, db = fun k => if k < (f 0).toInt.toNat ∧ (f (1 + k)).toInt = 2 then Int32.ofInt ((bst f s k % 3 : Nat) : Int) else c0 k := ⟨_, rfl⟩
    have e2 : ∀ k, k < (f 0).toInt.toNat → (f (1 + k)).toInt = 2 → (db k).toInt = (bst f s k : Int) := fun k hk e => by
      rw [hdb]
      show (if k < (f 0).toInt.toNat ∧ (f (1 + k)).toInt = 2 then Int32.ofInt ((bst f s k % 3 : Nat) : Int) else c0 k).toInt = _
      rw [if_pos ⟨hk, e⟩]
      exact i32_mod _ (by have a1 := (hb k hk (hpl2 k e)).1; have a2 := g_wys hG (k := k) hk; omega)
    have eo : OTH f 2 c0 db := fun k hk e => by
      rw [hdb]
      exact if_neg (fun z => e z.2)
    have hcr : CR db := fun k => by
      by_cases q : k < (f 0).toInt.toNat ∧ (f (1 + k)).toInt = 2
      · have a0 := e2 k q.1 q.2
        have a1 := (hb k q.1 (hpl2 k q.2)).1; have a2 := g_wys hG (k := k) q.1; omega
      · rw [hdb]
        show 0 ≤ (if k < (f 0).toInt.toNat ∧ (f (1 + k)).toInt = 2 then Int32.ofInt ((bst f s k % 3 : Nat) : Int) else c0 k).toInt ∧ (if k < (f 0).toInt.toNat ∧ (f (1 + k)).toInt = 2 then Int32.ofInt ((bst f s k % 3 : Nat) : Int) else c0 k).toInt ≤ 2
        rw [if_neg q]; exact hc0 k
    have hl2 : LGd f 2 db := fun k hk e => by
      have a1 := hb k hk (hpl2 k e)
      have a2 := e2 k hk e
      have a3 := a1.1
      unfold wys at a3
      exact ⟨by omega, fun z => by rcases a1.2 with q | q <;> omega⟩
    obtain ⟨v, hv⟩ := VAL_ex hG db
    have hev := vof_eq hG (d := db) (c := bst f s) (fun k hk hp => by
      have hp2 : (f (1 + k)).toInt = 1 ∨ (f (1 + k)).toInt = 2 := by unfold gPl at hp; simpa using hp
      rcases hp2 with e | e
      · rw [eo k hk (by omega), hs k hk e, hag k hk (hpl1 k e).2]
      · exact e2 k hk e) hb hv t ht
    have := hR.2.1 db v hcr hl2 eo (by have := (NUM_in hcr hl2).2; omega) hv t ht
    rw [hev] at this
    exact this
  · obtain ⟨c, v, hcr, hl2, ho, hv, e⟩ := hR.2.2 t ht
    have hl1 := LGd_oth h1 ho (by omega)
    have hev := vof_eq hG (g_leg2 hcr) (g_leg hcr hl1 hl2) hv t ht
    rw [e, hev]
    refine Rat.mul_le_mul_of_nonneg_left (hmin _ (g_leg hcr hl1 hl2) (fun k hk hp => ?_) t ht) (Rat.le_of_lt hp)
    have hk1 : (f (1 + k)).toInt = 1 := by unfold gMx at hp; simpa using hp
    have a1 := hs k hk hk1
    unfold cN
    rw [ho k hk (by omega)]
    omega
/-- more, by the replies' fractions -/
def MORE (ru rl : Nat → Int64) (a b : Nat) : Prop := (ru b * rl a).toInt < (ru a * rl b).toInt
theorem IMP_lt (hG : GS f) {c0 : Nat → Int32} {s t : Nat → Nat} {ru rl : Nat → Int64} (hc0 : CR c0) (h1 : LGd f 1 c0) (hs : ∀ k, k < (f 0).toInt.toNat → (f (1 + k)).toInt = 1 → (c0 k).toInt = (s k : Int)) (hSL : SL f s) (hTL : SL f t) (ht3 : ∀ k, t k < 3) (hR : RPL f c0 (TOT f 2 (f 0).toInt.toNat) ru rl) (ht : ∀ k, k < (f 0).toInt.toNat → (f (1 + k)).toInt = 1 → t k = s k ∨ MORE ru rl (wtg f k (t k)) (wtg f k (s k))) (hsome : ∃ k, k < (f 0).toInt.toNat ∧ (f (1 + k)).toInt = 1 ∧ MORE ru rl (wtg f k (t k)) (wtg f k (s k))) : MU f t < MU f s := by
  have h0 := hG.r.1
  have hq := RPL_bst hG hc0 h1 hs hSL hR
  obtain ⟨hb, hag, hmin, hb2, hb3⟩ := bst_spec hG hSL
  obtain ⟨hd, hdg, _⟩ := bst_spec hG hTL
  have hmx : ∀ k, gMx f k = true → (f (1 + k)).toInt = 1 := fun k h => by unfold gMx at h; simpa using h
  have hM : ∀ a b, a < (f 0).toInt.toNat → b < (f 0).toInt.toNat → MORE ru rl a b → vof f (bst f s) b < vof f (bst f s) a := fun a b ha hb' h => by
    have h2 := FRB_lt (hR.1 b hb') (hR.1 a ha) h
    rw [hq a ha, hq b hb'] at h2
    have p1 := frq_pos (hR.1 a ha).1
    have p2 := frq_pos (hR.1 b hb').1
    refine Rat.not_le.mp fun z => ?_
    have := Rat.mul_le_mul_of_nonneg_left z (Rat.le_of_lt (Rat.mul_pos p1 p2))
    grind
  have hto : ∀ u, SL f u → ∀ k, k < (f 0).toInt.toNat → gMx f k = true → wtg f k (u k) < (f 0).toInt.toNat := fun u hu k hk hp => (g_N hG).2.1 k hk (u k) (gMx_pl hp) (hu k hk hp)
  refine MU_lt hG ht3 ?_
  unfold LV
  refine pz_step (g_N hG) (fun k _ h => by unfold gEn; simp [hmx k h]) (fun k _ h => ?_) (vof f) (vof_V hG) hb hag hd hdg hb2 hb3 (fun k hk hp => ?_) ?_
  · have hp2 : (f (1 + k)).toInt = 1 ∨ (f (1 + k)).toInt = 2 := by unfold gPl at h; simpa using h
    unfold gEn
    have : ¬ (f (1 + k)).toInt = 0 := by omega
    simp [this]
  · rcases ht k hk (hmx k hp) with q | q
    · exact Or.inl q
    · exact Or.inr (hM _ _ (hto t hTL k hk hp) (hto s hSL k hk hp) q)
  · obtain ⟨k, hk, e, q⟩ := hsome
    have hp : gMx f k = true := by unfold gMx; simp [e]
    exact ⟨k, hk, hp, hM _ _ (hto t hTL k hk hp) (hto s hSL k hk hp) q⟩
end RP
