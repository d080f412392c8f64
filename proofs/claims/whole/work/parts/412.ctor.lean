abbrev lsC := List (Nat × Nat × Nat × Nat)
abbrev lsP := List (Nat × Nat × Nat × Nat × Nat)
def csV : lsC := [(0, 22, 16, 400), (0, 21, 5, 0), (0, 20, 16, 4), (0, 19, 7, 0), (0, 18, 19, 200), (0, 17, 19, 32), (0, 16, 15, 40), (0, 15, 16, 60), (0, 14, 16, 60), (0, 4, 10, 0), (0, 13, 16, 30), (0, 12, 16, 30), (0, 3, 3, 0), (0, 11, 19, 200), (0, 10, 15, 200), (0, 9, 19, 200), (0, 2, 8, 0), (0, 8, 19, 200), (0, 7, 19, 200), (0, 6, 16, 60), (0, 5, 18, 8), (0, 1, 11, 0), (0, 0, 13, 0)]
def psV : lsP := [(0, 4, 0, 0, 1), (0, 4, 7, 0, 21), (0, 21, 0, 0, 22), (0, 4, 6, 0, 19), (0, 19, 0, 0, 20), (0, 4, 5, 0, 18), (0, 4, 4, 0, 17), (0, 4, 3, 0, 16), (0, 4, 2, 0, 15), (0, 4, 1, 0, 14), (0, 0, 2, 0, 3), (0, 3, 1, 0, 13), (0, 3, 0, 0, 12), (0, 0, 1, 0, 2), (0, 2, 0, 0, 1), (0, 2, 4, 0, 11), (0, 2, 2, 0, 10), (0, 2, 1, 0, 9), (0, 0, 0, 0, 1), (0, 1, 6, 0, 8), (0, 1, 5, 0, 7), (0, 1, 4, 0, 6), (0, 1, 0, 0, 5)]
def csW : lsC := [(0, 22, 16, 400), (0, 21, 5, 0), (0, 20, 16, 4), (0, 19, 7, 0), (0, 18, 19, 200), (0, 17, 19, 32), (0, 16, 15, 40), (0, 15, 16, 60), (0, 14, 16, 60), (0, 4, 10, 0), (0, 13, 16, 30), (0, 12, 16, 30), (0, 3, 3, 0), (0, 11, 19, 200), (0, 10, 15, 200), (0, 9, 19, 200), (0, 2, 8, 0), (0, 8, 19, 200), (0, 7, 19, 200), (0, 6, 16, 60), (0, 5, 18, 8), (0, 1, 11, 0), (0, 0, 13, 0)]
def psW : lsP := [(0, 0, 3, 0, 4), (0, 4, 0, 0, 1), (0, 4, 7, 0, 21), (0, 21, 0, 0, 22), (0, 4, 6, 0, 19), (0, 19, 0, 0, 20), (0, 4, 5, 0, 18), (0, 4, 4, 0, 17), (0, 4, 3, 0, 16), (0, 4, 2, 0, 15), (0, 4, 1, 0, 14), (0, 0, 2, 0, 3), (0, 3, 1, 0, 13), (0, 3, 0, 0, 12), (0, 0, 1, 0, 2), (0, 2, 0, 0, 1), (0, 2, 4, 0, 11), (0, 2, 2, 0, 10), (0, 2, 1, 0, 9), (0, 0, 0, 0, 1), (0, 1, 6, 0, 8), (0, 1, 5, 0, 7), (0, 1, 4, 0, 6), (0, 1, 0, 0, 5)]
def csY : lsC := [(1, 47, 15, 200), (1, 46, 15, 200), (1, 45, 17, 200), (1, 44, 17, 200), (1, 43, 16, 30), (1, 42, 17, 30), (1, 40, 16, 30), (1, 38, 15, 600), (1, 37, 15, 600), (1, 36, 15, 600), (1, 35, 16, 60), (1, 34, 15, 40), (1, 33, 15, 40), (1, 32, 15, 32), (1, 31, 15, 200), (1, 30, 15, 200), (1, 29, 15, 200), (1, 28, 15, 200), (1, 27, 15, 200), (1, 26, 15, 200), (1, 21, 15, 200), (1, 20, 15, 200), (1, 19, 15, 200), (1, 18, 15, 6000), (1, 17, 15, 200), (1, 16, 15, 200), (1, 15, 15, 200), (1, 14, 15, 12000), (1, 13, 15, 12000), (1, 12, 17, 8000), (1, 11, 17, 40000), (1, 10, 17, 40000), (1, 9, 15, 200), (1, 8, 15, 200), (1, 7, 15, 200), (1, 6, 15, 60), (1, 5, 15, 8), (0, 23, 14, 0), (0, 22, 16, 400), (0, 21, 5, 0), (0, 20, 16, 4), (0, 19, 7, 0), (0, 18, 19, 200), (0, 17, 19, 32), (0, 16, 15, 40), (0, 15, 16, 60), (0, 14, 16, 60), (0, 4, 10, 0), (0, 13, 16, 30), (0, 12, 16, 30), (0, 3, 3, 0), (0, 11, 19, 200), (0, 10, 15, 200), (0, 9, 19, 200), (0, 2, 8, 0), (0, 8, 19, 200), (0, 7, 19, 200), (0, 6, 16, 60), (0, 5, 18, 8), (0, 1, 11, 0), (0, 0, 13, 0)]
def psY : lsP := [(0, 23, 47, 1, 47), (0, 23, 46, 1, 46), (0, 23, 45, 1, 45), (0, 23, 44, 1, 44), (0, 23, 43, 1, 43), (0, 23, 42, 1, 42), (0, 23, 40, 1, 40), (0, 23, 38, 1, 38), (0, 23, 37, 1, 37), (0, 23, 36, 1, 36), (0, 23, 35, 1, 35), (0, 23, 34, 1, 34), (0, 23, 33, 1, 33), (0, 23, 32, 1, 32), (0, 23, 31, 1, 31), (0, 23, 30, 1, 30), (0, 23, 29, 1, 29), (0, 23, 28, 1, 28), (0, 23, 27, 1, 27), (0, 23, 26, 1, 26), (0, 23, 21, 1, 21), (0, 23, 20, 1, 20), (0, 23, 19, 1, 19), (0, 23, 18, 1, 18), (0, 23, 17, 1, 17), (0, 23, 16, 1, 16), (0, 23, 15, 1, 15), (0, 23, 14, 1, 14), (0, 23, 13, 1, 13), (0, 23, 12, 1, 12), (0, 23, 11, 1, 11), (0, 23, 10, 1, 10), (0, 23, 9, 1, 9), (0, 23, 8, 1, 8), (0, 23, 7, 1, 7), (0, 23, 6, 1, 6), (0, 23, 5, 1, 5), (0, 0, 3, 0, 4), (0, 4, 0, 0, 1), (0, 4, 7, 0, 21), (0, 21, 0, 0, 22), (0, 4, 6, 0, 19), (0, 19, 0, 0, 20), (0, 4, 5, 0, 18), (0, 4, 4, 0, 17), (0, 4, 3, 0, 16), (0, 4, 2, 0, 15), (0, 4, 1, 0, 14), (0, 0, 2, 0, 3), (0, 3, 1, 0, 13), (0, 3, 0, 0, 12), (0, 0, 1, 0, 2), (0, 2, 0, 0, 1), (0, 2, 4, 0, 11), (0, 2, 2, 0, 10), (0, 2, 1, 0, 9), (0, 0, 0, 0, 1), (0, 1, 6, 0, 8), (0, 1, 5, 0, 7), (0, 1, 4, 0, 6), (0, 1, 0, 0, 5)]
/-- the ints behind the first wipe -/
def iW (I : FI) : Prop := (∀ c i p, ¬ (c = 0 ∧ i = 16) → ¬ (c = 0 ∧ i = 4 ∧ p = 9) → I c i p = 0) ∧ (∀ m, m < 40 → I 0 16 m = -1) ∧ I 0 4 9 = -1
section CT
variable {A : Nat → Nat → Nat} {I : FI} {et x mm : Nat} {T : Hp} {Q : Hp → Prop}
theorem b_w36 {K2 : Hp → Prop} (hK : ∀ I T, Bt A I csV psV et T → (∀ c i p, ¬ (c = 0 ∧ i = 16) → I c i p = 0) → (∀ m, m < 40 → I 0 16 m = -1) → K2 T) : ∀ (r k fu : Nat) (I : FI) (T : Hp), k + r = 40 → r < fu → Bt A I csV psV et T → (∀ c i p, ¬ (c = 0 ∧ i = 16) → I c i p = 0) → (∀ m, m < k → I 0 16 m = -1) → wp_X8_wipe_L36 (A 0 4) K2 Q fu T (nI k) := by
  intro r
  induction r with
  | zero =>
    intro k fu I T hk hf hb h1 h2
    obtain ⟨fu, rfl⟩ : ∃ z, fu = z + 1 := ⟨fu - 1, by omega⟩
    have : k = 40 := by omega
    subst this
    rw [wp_X8_wipe_L36]
    exact ⟨fun _ => hK I T hb h1 h2, fun z => absurd (by decide) z⟩
  | succ r ih =>
    intro k fu I T hk hf hb h1 h2
    obtain ⟨fu, rfl⟩ : ∃ z, fu = z + 1 := ⟨fu - 1, by omega⟩
    have e0 : ¬ (40 : Int32) ≤ nI k := by rw [show (40 : Int32) = nI 40 from rfl, nI_leI (by decide) (by omega)]; omega
    rw [wp_X8_wipe_L36]
    refine ⟨fun z => absurd z e0, fun _ => ⟨hb.k (k := 10) (n := 0) (by decide +kernel), A 0 16, hb.p (by decide +kernel), hb.k (k := 15) (n := 40) (by decide +kernel), ?_, ?_⟩⟩
    · rw [hb.n (k := 15) (n := 40) (by decide +kernel)]; exact vin (show k < 40 by omega) (by decide)
    rw [nI_clamp (show k < 2 ^ 31 by omega), ← nI_succ]
    refine ih (k + 1) fu _ _ (by omega) (by omega) (hb.wi 0 16 k (-1) (k := 15) (n := 40) (by decide +kernel)) (fun c i p z => ?_) (fun m hm => ?_)
    · rw [up3_off (fun w => z ⟨w.1, w.2.1⟩)]; exact h1 c i p z
    · by_cases e : m = k
      · rw [e, up3_same]
      · rw [up3_off (by omega)]; exact h2 m (by omega)
theorem b_w57 {K2 : Hp → Prop} (hK : ∀ T, Bt A I csV psV et T → K2 T) : ∀ (r k fu : Nat) (T : Hp), k + r = 32 → r < fu → Bt A I csV psV et T → wp_X8_wipe_L57 (A 0 4) K2 Q fu T (nI k) := by
  intro r
  induction r with
  | zero =>
    intro k fu T hk hf hb
    obtain ⟨fu, rfl⟩ : ∃ z, fu = z + 1 := ⟨fu - 1, by omega⟩
    have : k = 32 := by omega
    subst this
    rw [wp_X8_wipe_L57]
    exact ⟨fun _ => hK T hb, fun z => absurd (by decide) z⟩
  | succ r ih =>
    intro k fu T hk hf hb
    obtain ⟨fu, rfl⟩ : ∃ z, fu = z + 1 := ⟨fu - 1, by omega⟩
    have e0 : ¬ (32 : Int32) ≤ nI k := by rw [show (32 : Int32) = nI 32 from rfl, nI_leI (by decide) (by omega)]; omega
    rw [wp_X8_wipe_L57]
    refine ⟨fun z => absurd z e0, fun _ => ⟨hb.k (k := 10) (n := 0) (by decide +kernel), A 0 17, hb.p (by decide +kernel), hb.k (k := 19) (n := 32) (by decide +kernel), ?_, ?_⟩⟩
    · rw [hb.n (k := 19) (n := 32) (by decide +kernel)]; exact vin (show k < 32 by omega) (by decide)
    rw [nI_clamp (show k < 2 ^ 31 by omega), ← nI_succ]
    exact ih (k + 1) fu _ (by omega) (by omega) (hb.wr 0 17 k (k := 19) (n := 32) (by decide +kernel) (by decide +kernel))
theorem b_clr {K2 : Hp → Prop} (hK : ∀ T, Bt A I csV psV et T → K2 T) : ∀ (r k fu : Nat) (T : Hp), k + r = 4 → r < fu → Bt A I csV psV et T → wp_X5_clear_L2 (A 0 19) K2 fu T (nI k) := by
  intro r
  induction r with
  | zero =>
    intro k fu T hk hf hb
    obtain ⟨fu, rfl⟩ : ∃ z, fu = z + 1 := ⟨fu - 1, by omega⟩
    have : k = 4 := by omega
    subst this
    rw [wp_X5_clear_L2]
    exact ⟨fun _ => hK T hb, fun z => absurd (by decide) z⟩
  | succ r ih =>
    intro k fu T hk hf hb
    obtain ⟨fu, rfl⟩ : ∃ z, fu = z + 1 := ⟨fu - 1, by omega⟩
    have e0 : ¬ (4 : Int32) ≤ nI k := by rw [show (4 : Int32) = nI 4 from rfl, nI_leI (by decide) (by omega)]; omega
    rw [wp_X5_clear_L2]
    refine ⟨fun z => absurd z e0, fun _ => ⟨hb.k (k := 7) (n := 0) (by decide +kernel), A 0 20, hb.p (by decide +kernel), hb.k (k := 16) (n := 4) (by decide +kernel), ?_, ?_⟩⟩
    · rw [hb.n (k := 16) (n := 4) (by decide +kernel)]; exact vin (show k < 4 by omega) (by decide)
    rw [nI_clamp (show k < 2 ^ 31 by omega), ← nI_succ]
    exact ih (k + 1) fu _ (by omega) (by omega) (hb.wj (A 0 20) k)
theorem b_wipe {a4 : Nat} (hb : Bt A (fun _ _ _ => 0) csV psV et T) (e4 : A 0 4 = a4) (hQ : ∀ I T, Bt A I csV psV et T → iW I → Q T) : wp_X8_wipe T a4 Q := by
  subst e4
  unfold wp_X8_wipe
  have l2 : ∀ (K2 : Hp → Prop) (fu : Nat), 0 < fu → K2 T → wp_X8_wipe_L2 (A 0 4) K2 Q fu T 0 := fun K2 fu hf hK => by
    obtain ⟨fu, rfl⟩ : ∃ z, fu = z + 1 := ⟨fu - 1, by omega⟩
    rw [wp_X8_wipe_L2]
    refine ⟨hb.k (k := 10) (n := 0) (by decide +kernel), A 0 1, hb.p (by decide +kernel), hb.k (k := 11) (n := 0) (by decide +kernel), fun _ => hK, fun z => absurd ?_ z⟩
    rw [hb.i (k := 11) (n := 0) (by decide +kernel)]; exact Int32.le_refl _
  refine l2 _ FU (by unfold FU; omega) ?_
  refine b_w36 (et := et) (fun I1 T1 hb1 g1 g2 => ?_) 40 0 FU (fun _ _ _ => 0) T (by omega) (by unfold FU; omega) hb (fun _ _ _ _ => rfl) (fun m hm => by omega)
  refine b_w57 (I := I1) (et := et) (fun T2 hb2 => ⟨hb2.k (k := 10) (n := 0) (by decide +kernel), A 0 21, hb2.p (by decide +kernel), hb2.k (k := 5) (n := 0) (by decide +kernel), ?_⟩) 32 0 FU T1 (by omega) (by unfold FU; omega) hb1
  have m4 : ((0, 4, 10, 0) : Nat × Nat × Nat × Nat) ∈ csV := by decide +kernel
  have hb3 := ((((((((((hb2.wi 0 21 1 0 (k := 5) (n := 0) (by decide +kernel)).wi 0 4 8 0 m4).wi 0 4 9 (-1) m4).wi 0 4 10 0 m4).wi 0 4 11 0 m4).wi 0 4 12 0 m4).wi 0 4 13 0 m4).wi 0 4 14 0 m4).wi 0 4 15 0 m4).wj (A 0 4) 17)
  unfold wp_X8_forgetMarks
  refine ⟨hb3.k m4, A 0 19, hb3.p (by decide +kernel), hb3.k (k := 7) (n := 0) (by decide +kernel), ?_⟩
  unfold wp_X5_clear
  refine b_clr (fun T4 hb4 => ⟨hb4.k m4, hQ _ _ (hb4.wi 0 4 16 0 m4) ⟨fun c i p z1 z2 => ?_, fun m hm => ?_, ?_⟩⟩) 4 0 FU _ (by omega) (by unfold FU; omega) hb3
  · have := g1 c i p z1
    unfold up3
    repeat' split
    all_goals first | rfl | exact this | exact absurd (by assumption) z2
  · have := g2 m hm
    simp [up3, this]
  · simp [up3]
set_option maxRecDepth 100000 in
set_option maxHeartbeats 4000000 in
theorem b_X11 (hb : Bt A (fun _ _ _ => 0) [(0, 0, 13, 0)] [] et T) (e_x : A 0 0 = x) (hQ : ∀ A I T, Bt A I csW psW et T → A 0 0 = x → iW I → Q T) : wp_X11_init T x Q := by
  unfold wp_X11_init
  intro a1 hq
  obtain ⟨A, hb, e_a1, o⟩ := hb.new 0 1 11 0 hq (by decide) (fun _ => rfl) (by decide +kernel) (by decide +kernel)
  have e_x : A 0 0 = x := (o 0 0 (by decide)).trans e_x
  generalize sN T a1 11 0 = T at hb ⊢
  unfold wp_X9_init
  intro q hq
  obtain ⟨hk, A, hb, -, o⟩ := hb.st 0 5 18 8 0 1 0 (K0 := 11) (N0 := 0) hq e_a1 (by decide +kernel) (by decide) (fun _ => rfl) (by decide +kernel) (by decide +kernel) (by decide +kernel)
  have e_x : A 0 0 = x := (o 0 0 (by decide)).trans e_x
  have e_a1 : A 0 1 = a1 := (o 0 1 (by decide)).trans e_a1
  refine ⟨hk, ?_⟩
  generalize sR (sN T q 18 8) a1 0 (some q) = T at hb ⊢
  intro q hq
  obtain ⟨hk, A, hb, -, o⟩ := hb.st 0 6 16 60 0 1 4 (K0 := 11) (N0 := 0) hq e_a1 (by decide +kernel) (by decide) (fun _ => rfl) (by decide +kernel) (by decide +kernel) (by decide +kernel)
  have e_x : A 0 0 = x := (o 0 0 (by decide)).trans e_x
  have e_a1 : A 0 1 = a1 := (o 0 1 (by decide)).trans e_a1
  refine ⟨hk, ?_⟩
  generalize sR (sN T q 16 60) a1 4 (some q) = T at hb ⊢
  intro q hq
  obtain ⟨hk, A, hb, -, o⟩ := hb.st 0 7 19 200 0 1 5 (K0 := 11) (N0 := 0) hq e_a1 (by decide +kernel) (by decide) (fun _ => rfl) (by decide +kernel) (by decide +kernel) (by decide +kernel)
  have e_x : A 0 0 = x := (o 0 0 (by decide)).trans e_x
  have e_a1 : A 0 1 = a1 := (o 0 1 (by decide)).trans e_a1
  refine ⟨hk, ?_⟩
  generalize sR (sN T q 19 200) a1 5 (some q) = T at hb ⊢
  intro q hq
  obtain ⟨hk, A, hb, -, o⟩ := hb.st 0 8 19 200 0 1 6 (K0 := 11) (N0 := 0) hq e_a1 (by decide +kernel) (by decide) (fun _ => rfl) (by decide +kernel) (by decide +kernel) (by decide +kernel)
  have e_x : A 0 0 = x := (o 0 0 (by decide)).trans e_x
  have e_a1 : A 0 1 = a1 := (o 0 1 (by decide)).trans e_a1
  refine ⟨hk, ?_⟩
  generalize sR (sN T q 19 200) a1 6 (some q) = T at hb ⊢
  refine ⟨by rw [← e_x]; exact hb.k (k := 13) (n := 0) (by decide +kernel), ?_⟩
  have hb := hb.ptr 0 0 0 0 1 (k := 13) (n := 0) (by decide +kernel) (by decide +kernel)
  rw [e_x, e_a1] at hb
  generalize sR T x 0 (some a1) = T at hb ⊢
  intro a2 hq
  obtain ⟨A, hb, e_a2, o⟩ := hb.new 0 2 8 0 hq (by decide) (fun _ => rfl) (by decide +kernel) (by decide +kernel)
  have e_x : A 0 0 = x := (o 0 0 (by decide)).trans e_x
  have e_a1 : A 0 1 = a1 := (o 0 1 (by decide)).trans e_a1
  generalize sN T a2 8 0 = T at hb ⊢
  refine ⟨by rw [← e_x]; exact hb.k (k := 13) (n := 0) (by decide +kernel), ?_⟩
  rw [show hR T x 0 = some a1 from by rw [← e_x, ← e_a1]; exact hb.p (by decide +kernel)]
  unfold wp_X6_init
  intro q hq
  obtain ⟨hk, A, hb, -, o⟩ := hb.st 0 9 19 200 0 2 1 (K0 := 8) (N0 := 0) hq e_a2 (by decide +kernel) (by decide) (fun _ => rfl) (by decide +kernel) (by decide +kernel) (by decide +kernel)
  have e_x : A 0 0 = x := (o 0 0 (by decide)).trans e_x
  have e_a1 : A 0 1 = a1 := (o 0 1 (by decide)).trans e_a1
  have e_a2 : A 0 2 = a2 := (o 0 2 (by decide)).trans e_a2
  refine ⟨hk, ?_⟩
  generalize sR (sN T q 19 200) a2 1 (some q) = T at hb ⊢
  intro q hq
  obtain ⟨hk, A, hb, -, o⟩ := hb.st 0 10 15 200 0 2 2 (K0 := 8) (N0 := 0) hq e_a2 (by decide +kernel) (by decide) (fun _ => rfl) (by decide +kernel) (by decide +kernel) (by decide +kernel)
  have e_x : A 0 0 = x := (o 0 0 (by decide)).trans e_x
  have e_a1 : A 0 1 = a1 := (o 0 1 (by decide)).trans e_a1
  have e_a2 : A 0 2 = a2 := (o 0 2 (by decide)).trans e_a2
  refine ⟨hk, ?_⟩
  generalize sR (sN T q 15 200) a2 2 (some q) = T at hb ⊢
  intro q hq
  obtain ⟨hk, A, hb, -, o⟩ := hb.st 0 11 19 200 0 2 4 (K0 := 8) (N0 := 0) hq e_a2 (by decide +kernel) (by decide) (fun _ => rfl) (by decide +kernel) (by decide +kernel) (by decide +kernel)
  have e_x : A 0 0 = x := (o 0 0 (by decide)).trans e_x
  have e_a1 : A 0 1 = a1 := (o 0 1 (by decide)).trans e_a1
  have e_a2 : A 0 2 = a2 := (o 0 2 (by decide)).trans e_a2
  refine ⟨hk, ?_⟩
  generalize sR (sN T q 19 200) a2 4 (some q) = T at hb ⊢
  have hb := hb.ptr 0 2 0 0 1 (k := 8) (n := 0) (by decide +kernel) (by decide +kernel)
  rw [e_a2, e_a1] at hb
  generalize sR T a2 0 (some a1) = T at hb ⊢
  refine ⟨by rw [← e_x]; exact hb.k (k := 13) (n := 0) (by decide +kernel), ?_⟩
  have hb := hb.ptr 0 0 1 0 2 (k := 13) (n := 0) (by decide +kernel) (by decide +kernel)
  rw [e_x, e_a2] at hb
  generalize sR T x 1 (some a2) = T at hb ⊢
  intro a3 hq
  obtain ⟨A, hb, e_a3, o⟩ := hb.new 0 3 3 0 hq (by decide) (fun _ => rfl) (by decide +kernel) (by decide +kernel)
  have e_x : A 0 0 = x := (o 0 0 (by decide)).trans e_x
  have e_a1 : A 0 1 = a1 := (o 0 1 (by decide)).trans e_a1
  have e_a2 : A 0 2 = a2 := (o 0 2 (by decide)).trans e_a2
  generalize sN T a3 3 0 = T at hb ⊢
  unfold wp_X1_init
  intro q hq
  obtain ⟨hk, A, hb, -, o⟩ := hb.st 0 12 16 30 0 3 0 (K0 := 3) (N0 := 0) hq e_a3 (by decide +kernel) (by decide) (fun _ => rfl) (by decide +kernel) (by decide +kernel) (by decide +kernel)
  have e_x : A 0 0 = x := (o 0 0 (by decide)).trans e_x
  have e_a1 : A 0 1 = a1 := (o 0 1 (by decide)).trans e_a1
  have e_a2 : A 0 2 = a2 := (o 0 2 (by decide)).trans e_a2
  have e_a3 : A 0 3 = a3 := (o 0 3 (by decide)).trans e_a3
  refine ⟨hk, ?_⟩
  generalize sR (sN T q 16 30) a3 0 (some q) = T at hb ⊢
  intro q hq
  obtain ⟨hk, A, hb, -, o⟩ := hb.st 0 13 16 30 0 3 1 (K0 := 3) (N0 := 0) hq e_a3 (by decide +kernel) (by decide) (fun _ => rfl) (by decide +kernel) (by decide +kernel) (by decide +kernel)
  have e_x : A 0 0 = x := (o 0 0 (by decide)).trans e_x
  have e_a1 : A 0 1 = a1 := (o 0 1 (by decide)).trans e_a1
  have e_a2 : A 0 2 = a2 := (o 0 2 (by decide)).trans e_a2
  have e_a3 : A 0 3 = a3 := (o 0 3 (by decide)).trans e_a3
  refine ⟨hk, ?_⟩
  generalize sR (sN T q 16 30) a3 1 (some q) = T at hb ⊢
  refine ⟨by rw [← e_x]; exact hb.k (k := 13) (n := 0) (by decide +kernel), ?_⟩
  have hb := hb.ptr 0 0 2 0 3 (k := 13) (n := 0) (by decide +kernel) (by decide +kernel)
  rw [e_x, e_a3] at hb
  generalize sR T x 2 (some a3) = T at hb ⊢
  intro a4 hq
  obtain ⟨A, hb, e_a4, o⟩ := hb.new 0 4 10 0 hq (by decide) (fun _ => rfl) (by decide +kernel) (by decide +kernel)
  have e_x : A 0 0 = x := (o 0 0 (by decide)).trans e_x
  have e_a1 : A 0 1 = a1 := (o 0 1 (by decide)).trans e_a1
  have e_a2 : A 0 2 = a2 := (o 0 2 (by decide)).trans e_a2
  have e_a3 : A 0 3 = a3 := (o 0 3 (by decide)).trans e_a3
  generalize sN T a4 10 0 = T at hb ⊢
  refine ⟨by rw [← e_x]; exact hb.k (k := 13) (n := 0) (by decide +kernel), ?_⟩
  rw [show hR T x 0 = some a1 from by rw [← e_x, ← e_a1]; exact hb.p (by decide +kernel)]
  unfold wp_X8_init
  intro q hq
  obtain ⟨hk, A, hb, -, o⟩ := hb.st 0 14 16 60 0 4 1 (K0 := 10) (N0 := 0) hq e_a4 (by decide +kernel) (by decide) (fun _ => rfl) (by decide +kernel) (by decide +kernel) (by decide +kernel)
  have e_x : A 0 0 = x := (o 0 0 (by decide)).trans e_x
  have e_a1 : A 0 1 = a1 := (o 0 1 (by decide)).trans e_a1
  have e_a2 : A 0 2 = a2 := (o 0 2 (by decide)).trans e_a2
  have e_a3 : A 0 3 = a3 := (o 0 3 (by decide)).trans e_a3
  have e_a4 : A 0 4 = a4 := (o 0 4 (by decide)).trans e_a4
  refine ⟨hk, ?_⟩
  generalize sR (sN T q 16 60) a4 1 (some q) = T at hb ⊢
  intro q hq
  obtain ⟨hk, A, hb, -, o⟩ := hb.st 0 15 16 60 0 4 2 (K0 := 10) (N0 := 0) hq e_a4 (by decide +kernel) (by decide) (fun _ => rfl) (by decide +kernel) (by decide +kernel) (by decide +kernel)
  have e_x : A 0 0 = x := (o 0 0 (by decide)).trans e_x
  have e_a1 : A 0 1 = a1 := (o 0 1 (by decide)).trans e_a1
  have e_a2 : A 0 2 = a2 := (o 0 2 (by decide)).trans e_a2
  have e_a3 : A 0 3 = a3 := (o 0 3 (by decide)).trans e_a3
  have e_a4 : A 0 4 = a4 := (o 0 4 (by decide)).trans e_a4
  refine ⟨hk, ?_⟩
  generalize sR (sN T q 16 60) a4 2 (some q) = T at hb ⊢
  intro q hq
  obtain ⟨hk, A, hb, -, o⟩ := hb.st 0 16 15 40 0 4 3 (K0 := 10) (N0 := 0) hq e_a4 (by decide +kernel) (by decide) (fun _ => rfl) (by decide +kernel) (by decide +kernel) (by decide +kernel)
  have e_x : A 0 0 = x := (o 0 0 (by decide)).trans e_x
  have e_a1 : A 0 1 = a1 := (o 0 1 (by decide)).trans e_a1
  have e_a2 : A 0 2 = a2 := (o 0 2 (by decide)).trans e_a2
  have e_a3 : A 0 3 = a3 := (o 0 3 (by decide)).trans e_a3
  have e_a4 : A 0 4 = a4 := (o 0 4 (by decide)).trans e_a4
  refine ⟨hk, ?_⟩
  generalize sR (sN T q 15 40) a4 3 (some q) = T at hb ⊢
  intro q hq
  obtain ⟨hk, A, hb, -, o⟩ := hb.st 0 17 19 32 0 4 4 (K0 := 10) (N0 := 0) hq e_a4 (by decide +kernel) (by decide) (fun _ => rfl) (by decide +kernel) (by decide +kernel) (by decide +kernel)
  have e_x : A 0 0 = x := (o 0 0 (by decide)).trans e_x
  have e_a1 : A 0 1 = a1 := (o 0 1 (by decide)).trans e_a1
  have e_a2 : A 0 2 = a2 := (o 0 2 (by decide)).trans e_a2
  have e_a3 : A 0 3 = a3 := (o 0 3 (by decide)).trans e_a3
  have e_a4 : A 0 4 = a4 := (o 0 4 (by decide)).trans e_a4
  refine ⟨hk, ?_⟩
  generalize sR (sN T q 19 32) a4 4 (some q) = T at hb ⊢
  intro q hq
  obtain ⟨hk, A, hb, -, o⟩ := hb.st 0 18 19 200 0 4 5 (K0 := 10) (N0 := 0) hq e_a4 (by decide +kernel) (by decide) (fun _ => rfl) (by decide +kernel) (by decide +kernel) (by decide +kernel)
  have e_x : A 0 0 = x := (o 0 0 (by decide)).trans e_x
  have e_a1 : A 0 1 = a1 := (o 0 1 (by decide)).trans e_a1
  have e_a2 : A 0 2 = a2 := (o 0 2 (by decide)).trans e_a2
  have e_a3 : A 0 3 = a3 := (o 0 3 (by decide)).trans e_a3
  have e_a4 : A 0 4 = a4 := (o 0 4 (by decide)).trans e_a4
  refine ⟨hk, ?_⟩
  generalize sR (sN T q 19 200) a4 5 (some q) = T at hb ⊢
  intro a19 hq
  obtain ⟨A, hb, e_a19, o⟩ := hb.new 0 19 7 0 hq (by decide) (fun _ => rfl) (by decide +kernel) (by decide +kernel)
  have e_x : A 0 0 = x := (o 0 0 (by decide)).trans e_x
  have e_a1 : A 0 1 = a1 := (o 0 1 (by decide)).trans e_a1
  have e_a2 : A 0 2 = a2 := (o 0 2 (by decide)).trans e_a2
  have e_a3 : A 0 3 = a3 := (o 0 3 (by decide)).trans e_a3
  have e_a4 : A 0 4 = a4 := (o 0 4 (by decide)).trans e_a4
  generalize sN T a19 7 0 = T at hb ⊢
  unfold wp_X5_init
  intro q hq
  obtain ⟨hk, A, hb, -, o⟩ := hb.st 0 20 16 4 0 19 0 (K0 := 7) (N0 := 0) hq e_a19 (by decide +kernel) (by decide) (fun _ => rfl) (by decide +kernel) (by decide +kernel) (by decide +kernel)
  have e_x : A 0 0 = x := (o 0 0 (by decide)).trans e_x
  have e_a1 : A 0 1 = a1 := (o 0 1 (by decide)).trans e_a1
  have e_a2 : A 0 2 = a2 := (o 0 2 (by decide)).trans e_a2
  have e_a3 : A 0 3 = a3 := (o 0 3 (by decide)).trans e_a3
  have e_a4 : A 0 4 = a4 := (o 0 4 (by decide)).trans e_a4
  have e_a19 : A 0 19 = a19 := (o 0 19 (by decide)).trans e_a19
  refine ⟨hk, ?_⟩
  generalize sR (sN T q 16 4) a19 0 (some q) = T at hb ⊢
  refine ⟨by rw [← e_a4]; exact hb.k (k := 10) (n := 0) (by decide +kernel), ?_⟩
  have hb := hb.ptr 0 4 6 0 19 (k := 10) (n := 0) (by decide +kernel) (by decide +kernel)
  rw [e_a4, e_a19] at hb
  generalize sR T a4 6 (some a19) = T at hb ⊢
  intro a21 hq
  obtain ⟨A, hb, e_a21, o⟩ := hb.new 0 21 5 0 hq (by decide) (fun _ => rfl) (by decide +kernel) (by decide +kernel)
  have e_x : A 0 0 = x := (o 0 0 (by decide)).trans e_x
  have e_a1 : A 0 1 = a1 := (o 0 1 (by decide)).trans e_a1
  have e_a2 : A 0 2 = a2 := (o 0 2 (by decide)).trans e_a2
  have e_a3 : A 0 3 = a3 := (o 0 3 (by decide)).trans e_a3
  have e_a4 : A 0 4 = a4 := (o 0 4 (by decide)).trans e_a4
  have e_a19 : A 0 19 = a19 := (o 0 19 (by decide)).trans e_a19
  generalize sN T a21 5 0 = T at hb ⊢
  unfold wp_X3_init
  intro q hq
  obtain ⟨hk, A, hb, -, o⟩ := hb.st 0 22 16 400 0 21 0 (K0 := 5) (N0 := 0) hq e_a21 (by decide +kernel) (by decide) (fun _ => rfl) (by decide +kernel) (by decide +kernel) (by decide +kernel)
  have e_x : A 0 0 = x := (o 0 0 (by decide)).trans e_x
  have e_a1 : A 0 1 = a1 := (o 0 1 (by decide)).trans e_a1
  have e_a2 : A 0 2 = a2 := (o 0 2 (by decide)).trans e_a2
  have e_a3 : A 0 3 = a3 := (o 0 3 (by decide)).trans e_a3
  have e_a4 : A 0 4 = a4 := (o 0 4 (by decide)).trans e_a4
  have e_a19 : A 0 19 = a19 := (o 0 19 (by decide)).trans e_a19
  have e_a21 : A 0 21 = a21 := (o 0 21 (by decide)).trans e_a21
  refine ⟨hk, ?_⟩
  generalize sR (sN T q 16 400) a21 0 (some q) = T at hb ⊢
  refine ⟨by rw [← e_a4]; exact hb.k (k := 10) (n := 0) (by decide +kernel), ?_⟩
  have hb := hb.ptr 0 4 7 0 21 (k := 10) (n := 0) (by decide +kernel) (by decide +kernel)
  rw [e_a4, e_a21] at hb
  generalize sR T a4 7 (some a21) = T at hb ⊢
  have hb := hb.ptr 0 4 0 0 1 (k := 10) (n := 0) (by decide +kernel) (by decide +kernel)
  rw [e_a4, e_a1] at hb
  generalize sR T a4 0 (some a1) = T at hb ⊢
  refine b_wipe hb e_a4 (fun I T hb hi => ?_)
  refine ⟨by rw [← e_x]; exact hb.k (k := 13) (n := 0) (by decide +kernel), ?_⟩
  have hb := hb.ptr 0 0 3 0 4 (k := 13) (n := 0) (by decide +kernel) (by decide +kernel)
  rw [e_x, e_a4] at hb
  generalize sR T x 3 (some a4) = T at hb ⊢
  exact hQ A I T hb e_x hi
set_option maxRecDepth 100000 in
set_option maxHeartbeats 4000000 in
theorem b_X12 (hb : Bt A I ((0, 23, 14, 0) :: csW) psW et T) (e_mm : A 0 23 = mm) (e_x : A 0 0 = x) (hz : ∀ c i p, c = 1 → I c i p = 0) (hQ : ∀ A T, Bt A I csY psY et T → A 0 23 = mm → A 0 0 = x → Q T) : wp_X12_init T mm Q := by
  unfold wp_X12_init
  intro q hq
  obtain ⟨hk, A, hb, -, o⟩ := hb.st 1 5 15 8 0 23 5 (K0 := 14) (N0 := 0) hq e_mm (by decide +kernel) (by decide) (fun p => hz 1 5 p rfl) (by decide +kernel) (by decide +kernel) (by decide +kernel)
  have e_x : A 0 0 = x := (o 0 0 (by decide)).trans e_x
  have e_mm : A 0 23 = mm := (o 0 23 (by decide)).trans e_mm
  refine ⟨hk, ?_⟩
  generalize sR (sN T q 15 8) mm 5 (some q) = T at hb ⊢
  intro q hq
  obtain ⟨hk, A, hb, -, o⟩ := hb.st 1 6 15 60 0 23 6 (K0 := 14) (N0 := 0) hq e_mm (by decide +kernel) (by decide) (fun p => hz 1 6 p rfl) (by decide +kernel) (by decide +kernel) (by decide +kernel)
  have e_x : A 0 0 = x := (o 0 0 (by decide)).trans e_x
  have e_mm : A 0 23 = mm := (o 0 23 (by decide)).trans e_mm
  refine ⟨hk, ?_⟩
  generalize sR (sN T q 15 60) mm 6 (some q) = T at hb ⊢
  intro q hq
  obtain ⟨hk, A, hb, -, o⟩ := hb.st 1 7 15 200 0 23 7 (K0 := 14) (N0 := 0) hq e_mm (by decide +kernel) (by decide) (fun p => hz 1 7 p rfl) (by decide +kernel) (by decide +kernel) (by decide +kernel)
  have e_x : A 0 0 = x := (o 0 0 (by decide)).trans e_x
  have e_mm : A 0 23 = mm := (o 0 23 (by decide)).trans e_mm
  refine ⟨hk, ?_⟩
  generalize sR (sN T q 15 200) mm 7 (some q) = T at hb ⊢
  intro q hq
  obtain ⟨hk, A, hb, -, o⟩ := hb.st 1 8 15 200 0 23 8 (K0 := 14) (N0 := 0) hq e_mm (by decide +kernel) (by decide) (fun p => hz 1 8 p rfl) (by decide +kernel) (by decide +kernel) (by decide +kernel)
  have e_x : A 0 0 = x := (o 0 0 (by decide)).trans e_x
  have e_mm : A 0 23 = mm := (o 0 23 (by decide)).trans e_mm
  refine ⟨hk, ?_⟩
  generalize sR (sN T q 15 200) mm 8 (some q) = T at hb ⊢
  intro q hq
  obtain ⟨hk, A, hb, -, o⟩ := hb.st 1 9 15 200 0 23 9 (K0 := 14) (N0 := 0) hq e_mm (by decide +kernel) (by decide) (fun p => hz 1 9 p rfl) (by decide +kernel) (by decide +kernel) (by decide +kernel)
  have e_x : A 0 0 = x := (o 0 0 (by decide)).trans e_x
  have e_mm : A 0 23 = mm := (o 0 23 (by decide)).trans e_mm
  refine ⟨hk, ?_⟩
  generalize sR (sN T q 15 200) mm 9 (some q) = T at hb ⊢
  intro q hq
  obtain ⟨hk, A, hb, -, o⟩ := hb.st 1 10 17 40000 0 23 10 (K0 := 14) (N0 := 0) hq e_mm (by decide +kernel) (by decide) (fun p => hz 1 10 p rfl) (by decide +kernel) (by decide +kernel) (by decide +kernel)
  have e_x : A 0 0 = x := (o 0 0 (by decide)).trans e_x
  have e_mm : A 0 23 = mm := (o 0 23 (by decide)).trans e_mm
  refine ⟨hk, ?_⟩
  generalize sR (sN T q 17 40000) mm 10 (some q) = T at hb ⊢
  intro q hq
  obtain ⟨hk, A, hb, -, o⟩ := hb.st 1 11 17 40000 0 23 11 (K0 := 14) (N0 := 0) hq e_mm (by decide +kernel) (by decide) (fun p => hz 1 11 p rfl) (by decide +kernel) (by decide +kernel) (by decide +kernel)
  have e_x : A 0 0 = x := (o 0 0 (by decide)).trans e_x
  have e_mm : A 0 23 = mm := (o 0 23 (by decide)).trans e_mm
  refine ⟨hk, ?_⟩
  generalize sR (sN T q 17 40000) mm 11 (some q) = T at hb ⊢
  intro q hq
  obtain ⟨hk, A, hb, -, o⟩ := hb.st 1 12 17 8000 0 23 12 (K0 := 14) (N0 := 0) hq e_mm (by decide +kernel) (by decide) (fun p => hz 1 12 p rfl) (by decide +kernel) (by decide +kernel) (by decide +kernel)
  have e_x : A 0 0 = x := (o 0 0 (by decide)).trans e_x
  have e_mm : A 0 23 = mm := (o 0 23 (by decide)).trans e_mm
  refine ⟨hk, ?_⟩
  generalize sR (sN T q 17 8000) mm 12 (some q) = T at hb ⊢
  intro q hq
  obtain ⟨hk, A, hb, -, o⟩ := hb.st 1 13 15 12000 0 23 13 (K0 := 14) (N0 := 0) hq e_mm (by decide +kernel) (by decide) (fun p => hz 1 13 p rfl) (by decide +kernel) (by decide +kernel) (by decide +kernel)
  have e_x : A 0 0 = x := (o 0 0 (by decide)).trans e_x
  have e_mm : A 0 23 = mm := (o 0 23 (by decide)).trans e_mm
  refine ⟨hk, ?_⟩
  generalize sR (sN T q 15 12000) mm 13 (some q) = T at hb ⊢
  intro q hq
  obtain ⟨hk, A, hb, -, o⟩ := hb.st 1 14 15 12000 0 23 14 (K0 := 14) (N0 := 0) hq e_mm (by decide +kernel) (by decide) (fun p => hz 1 14 p rfl) (by decide +kernel) (by decide +kernel) (by decide +kernel)
  have e_x : A 0 0 = x := (o 0 0 (by decide)).trans e_x
  have e_mm : A 0 23 = mm := (o 0 23 (by decide)).trans e_mm
  refine ⟨hk, ?_⟩
  generalize sR (sN T q 15 12000) mm 14 (some q) = T at hb ⊢
  intro q hq
  obtain ⟨hk, A, hb, -, o⟩ := hb.st 1 15 15 200 0 23 15 (K0 := 14) (N0 := 0) hq e_mm (by decide +kernel) (by decide) (fun p => hz 1 15 p rfl) (by decide +kernel) (by decide +kernel) (by decide +kernel)
  have e_x : A 0 0 = x := (o 0 0 (by decide)).trans e_x
  have e_mm : A 0 23 = mm := (o 0 23 (by decide)).trans e_mm
  refine ⟨hk, ?_⟩
  generalize sR (sN T q 15 200) mm 15 (some q) = T at hb ⊢
  intro q hq
  obtain ⟨hk, A, hb, -, o⟩ := hb.st 1 16 15 200 0 23 16 (K0 := 14) (N0 := 0) hq e_mm (by decide +kernel) (by decide) (fun p => hz 1 16 p rfl) (by decide +kernel) (by decide +kernel) (by decide +kernel)
  have e_x : A 0 0 = x := (o 0 0 (by decide)).trans e_x
  have e_mm : A 0 23 = mm := (o 0 23 (by decide)).trans e_mm
  refine ⟨hk, ?_⟩
  generalize sR (sN T q 15 200) mm 16 (some q) = T at hb ⊢
  intro q hq
  obtain ⟨hk, A, hb, -, o⟩ := hb.st 1 17 15 200 0 23 17 (K0 := 14) (N0 := 0) hq e_mm (by decide +kernel) (by decide) (fun p => hz 1 17 p rfl) (by decide +kernel) (by decide +kernel) (by decide +kernel)
  have e_x : A 0 0 = x := (o 0 0 (by decide)).trans e_x
  have e_mm : A 0 23 = mm := (o 0 23 (by decide)).trans e_mm
  refine ⟨hk, ?_⟩
  generalize sR (sN T q 15 200) mm 17 (some q) = T at hb ⊢
  intro q hq
  obtain ⟨hk, A, hb, -, o⟩ := hb.st 1 18 15 6000 0 23 18 (K0 := 14) (N0 := 0) hq e_mm (by decide +kernel) (by decide) (fun p => hz 1 18 p rfl) (by decide +kernel) (by decide +kernel) (by decide +kernel)
  have e_x : A 0 0 = x := (o 0 0 (by decide)).trans e_x
  have e_mm : A 0 23 = mm := (o 0 23 (by decide)).trans e_mm
  refine ⟨hk, ?_⟩
  generalize sR (sN T q 15 6000) mm 18 (some q) = T at hb ⊢
  intro q hq
  obtain ⟨hk, A, hb, -, o⟩ := hb.st 1 19 15 200 0 23 19 (K0 := 14) (N0 := 0) hq e_mm (by decide +kernel) (by decide) (fun p => hz 1 19 p rfl) (by decide +kernel) (by decide +kernel) (by decide +kernel)
  have e_x : A 0 0 = x := (o 0 0 (by decide)).trans e_x
  have e_mm : A 0 23 = mm := (o 0 23 (by decide)).trans e_mm
  refine ⟨hk, ?_⟩
  generalize sR (sN T q 15 200) mm 19 (some q) = T at hb ⊢
  intro q hq
  obtain ⟨hk, A, hb, -, o⟩ := hb.st 1 20 15 200 0 23 20 (K0 := 14) (N0 := 0) hq e_mm (by decide +kernel) (by decide) (fun p => hz 1 20 p rfl) (by decide +kernel) (by decide +kernel) (by decide +kernel)
  have e_x : A 0 0 = x := (o 0 0 (by decide)).trans e_x
  have e_mm : A 0 23 = mm := (o 0 23 (by decide)).trans e_mm
  refine ⟨hk, ?_⟩
  generalize sR (sN T q 15 200) mm 20 (some q) = T at hb ⊢
  intro q hq
  obtain ⟨hk, A, hb, -, o⟩ := hb.st 1 21 15 200 0 23 21 (K0 := 14) (N0 := 0) hq e_mm (by decide +kernel) (by decide) (fun p => hz 1 21 p rfl) (by decide +kernel) (by decide +kernel) (by decide +kernel)
  have e_x : A 0 0 = x := (o 0 0 (by decide)).trans e_x
  have e_mm : A 0 23 = mm := (o 0 23 (by decide)).trans e_mm
  refine ⟨hk, ?_⟩
  generalize sR (sN T q 15 200) mm 21 (some q) = T at hb ⊢
  intro q hq
  obtain ⟨hk, A, hb, -, o⟩ := hb.st 1 26 15 200 0 23 26 (K0 := 14) (N0 := 0) hq e_mm (by decide +kernel) (by decide) (fun p => hz 1 26 p rfl) (by decide +kernel) (by decide +kernel) (by decide +kernel)
  have e_x : A 0 0 = x := (o 0 0 (by decide)).trans e_x
  have e_mm : A 0 23 = mm := (o 0 23 (by decide)).trans e_mm
  refine ⟨hk, ?_⟩
  generalize sR (sN T q 15 200) mm 26 (some q) = T at hb ⊢
  intro q hq
  obtain ⟨hk, A, hb, -, o⟩ := hb.st 1 27 15 200 0 23 27 (K0 := 14) (N0 := 0) hq e_mm (by decide +kernel) (by decide) (fun p => hz 1 27 p rfl) (by decide +kernel) (by decide +kernel) (by decide +kernel)
  have e_x : A 0 0 = x := (o 0 0 (by decide)).trans e_x
  have e_mm : A 0 23 = mm := (o 0 23 (by decide)).trans e_mm
  refine ⟨hk, ?_⟩
  generalize sR (sN T q 15 200) mm 27 (some q) = T at hb ⊢
  intro q hq
  obtain ⟨hk, A, hb, -, o⟩ := hb.st 1 28 15 200 0 23 28 (K0 := 14) (N0 := 0) hq e_mm (by decide +kernel) (by decide) (fun p => hz 1 28 p rfl) (by decide +kernel) (by decide +kernel) (by decide +kernel)
  have e_x : A 0 0 = x := (o 0 0 (by decide)).trans e_x
  have e_mm : A 0 23 = mm := (o 0 23 (by decide)).trans e_mm
  refine ⟨hk, ?_⟩
  generalize sR (sN T q 15 200) mm 28 (some q) = T at hb ⊢
  intro q hq
  obtain ⟨hk, A, hb, -, o⟩ := hb.st 1 29 15 200 0 23 29 (K0 := 14) (N0 := 0) hq e_mm (by decide +kernel) (by decide) (fun p => hz 1 29 p rfl) (by decide +kernel) (by decide +kernel) (by decide +kernel)
  have e_x : A 0 0 = x := (o 0 0 (by decide)).trans e_x
  have e_mm : A 0 23 = mm := (o 0 23 (by decide)).trans e_mm
  refine ⟨hk, ?_⟩
  generalize sR (sN T q 15 200) mm 29 (some q) = T at hb ⊢
  intro q hq
  obtain ⟨hk, A, hb, -, o⟩ := hb.st 1 30 15 200 0 23 30 (K0 := 14) (N0 := 0) hq e_mm (by decide +kernel) (by decide) (fun p => hz 1 30 p rfl) (by decide +kernel) (by decide +kernel) (by decide +kernel)
  have e_x : A 0 0 = x := (o 0 0 (by decide)).trans e_x
  have e_mm : A 0 23 = mm := (o 0 23 (by decide)).trans e_mm
  refine ⟨hk, ?_⟩
  generalize sR (sN T q 15 200) mm 30 (some q) = T at hb ⊢
  intro q hq
  obtain ⟨hk, A, hb, -, o⟩ := hb.st 1 31 15 200 0 23 31 (K0 := 14) (N0 := 0) hq e_mm (by decide +kernel) (by decide) (fun p => hz 1 31 p rfl) (by decide +kernel) (by decide +kernel) (by decide +kernel)
  have e_x : A 0 0 = x := (o 0 0 (by decide)).trans e_x
  have e_mm : A 0 23 = mm := (o 0 23 (by decide)).trans e_mm
  refine ⟨hk, ?_⟩
  generalize sR (sN T q 15 200) mm 31 (some q) = T at hb ⊢
  intro q hq
  obtain ⟨hk, A, hb, -, o⟩ := hb.st 1 32 15 32 0 23 32 (K0 := 14) (N0 := 0) hq e_mm (by decide +kernel) (by decide) (fun p => hz 1 32 p rfl) (by decide +kernel) (by decide +kernel) (by decide +kernel)
  have e_x : A 0 0 = x := (o 0 0 (by decide)).trans e_x
  have e_mm : A 0 23 = mm := (o 0 23 (by decide)).trans e_mm
  refine ⟨hk, ?_⟩
  generalize sR (sN T q 15 32) mm 32 (some q) = T at hb ⊢
  intro q hq
  obtain ⟨hk, A, hb, -, o⟩ := hb.st 1 33 15 40 0 23 33 (K0 := 14) (N0 := 0) hq e_mm (by decide +kernel) (by decide) (fun p => hz 1 33 p rfl) (by decide +kernel) (by decide +kernel) (by decide +kernel)
  have e_x : A 0 0 = x := (o 0 0 (by decide)).trans e_x
  have e_mm : A 0 23 = mm := (o 0 23 (by decide)).trans e_mm
  refine ⟨hk, ?_⟩
  generalize sR (sN T q 15 40) mm 33 (some q) = T at hb ⊢
  intro q hq
  obtain ⟨hk, A, hb, -, o⟩ := hb.st 1 34 15 40 0 23 34 (K0 := 14) (N0 := 0) hq e_mm (by decide +kernel) (by decide) (fun p => hz 1 34 p rfl) (by decide +kernel) (by decide +kernel) (by decide +kernel)
  have e_x : A 0 0 = x := (o 0 0 (by decide)).trans e_x
  have e_mm : A 0 23 = mm := (o 0 23 (by decide)).trans e_mm
  refine ⟨hk, ?_⟩
  generalize sR (sN T q 15 40) mm 34 (some q) = T at hb ⊢
  intro q hq
  obtain ⟨hk, A, hb, -, o⟩ := hb.st 1 35 16 60 0 23 35 (K0 := 14) (N0 := 0) hq e_mm (by decide +kernel) (by decide) (fun p => hz 1 35 p rfl) (by decide +kernel) (by decide +kernel) (by decide +kernel)
  have e_x : A 0 0 = x := (o 0 0 (by decide)).trans e_x
  have e_mm : A 0 23 = mm := (o 0 23 (by decide)).trans e_mm
  refine ⟨hk, ?_⟩
  generalize sR (sN T q 16 60) mm 35 (some q) = T at hb ⊢
  intro q hq
  obtain ⟨hk, A, hb, -, o⟩ := hb.st 1 36 15 600 0 23 36 (K0 := 14) (N0 := 0) hq e_mm (by decide +kernel) (by decide) (fun p => hz 1 36 p rfl) (by decide +kernel) (by decide +kernel) (by decide +kernel)
  have e_x : A 0 0 = x := (o 0 0 (by decide)).trans e_x
  have e_mm : A 0 23 = mm := (o 0 23 (by decide)).trans e_mm
  refine ⟨hk, ?_⟩
  generalize sR (sN T q 15 600) mm 36 (some q) = T at hb ⊢
  intro q hq
  obtain ⟨hk, A, hb, -, o⟩ := hb.st 1 37 15 600 0 23 37 (K0 := 14) (N0 := 0) hq e_mm (by decide +kernel) (by decide) (fun p => hz 1 37 p rfl) (by decide +kernel) (by decide +kernel) (by decide +kernel)
  have e_x : A 0 0 = x := (o 0 0 (by decide)).trans e_x
  have e_mm : A 0 23 = mm := (o 0 23 (by decide)).trans e_mm
  refine ⟨hk, ?_⟩
  generalize sR (sN T q 15 600) mm 37 (some q) = T at hb ⊢
  intro q hq
  obtain ⟨hk, A, hb, -, o⟩ := hb.st 1 38 15 600 0 23 38 (K0 := 14) (N0 := 0) hq e_mm (by decide +kernel) (by decide) (fun p => hz 1 38 p rfl) (by decide +kernel) (by decide +kernel) (by decide +kernel)
  have e_x : A 0 0 = x := (o 0 0 (by decide)).trans e_x
  have e_mm : A 0 23 = mm := (o 0 23 (by decide)).trans e_mm
  refine ⟨hk, ?_⟩
  generalize sR (sN T q 15 600) mm 38 (some q) = T at hb ⊢
  intro q hq
  obtain ⟨hk, A, hb, -, o⟩ := hb.st 1 40 16 30 0 23 40 (K0 := 14) (N0 := 0) hq e_mm (by decide +kernel) (by decide) (fun p => hz 1 40 p rfl) (by decide +kernel) (by decide +kernel) (by decide +kernel)
  have e_x : A 0 0 = x := (o 0 0 (by decide)).trans e_x
  have e_mm : A 0 23 = mm := (o 0 23 (by decide)).trans e_mm
  refine ⟨hk, ?_⟩
  generalize sR (sN T q 16 30) mm 40 (some q) = T at hb ⊢
  intro q hq
  obtain ⟨hk, A, hb, -, o⟩ := hb.st 1 42 17 30 0 23 42 (K0 := 14) (N0 := 0) hq e_mm (by decide +kernel) (by decide) (fun p => hz 1 42 p rfl) (by decide +kernel) (by decide +kernel) (by decide +kernel)
  have e_x : A 0 0 = x := (o 0 0 (by decide)).trans e_x
  have e_mm : A 0 23 = mm := (o 0 23 (by decide)).trans e_mm
  refine ⟨hk, ?_⟩
  generalize sR (sN T q 17 30) mm 42 (some q) = T at hb ⊢
  intro q hq
  obtain ⟨hk, A, hb, -, o⟩ := hb.st 1 43 16 30 0 23 43 (K0 := 14) (N0 := 0) hq e_mm (by decide +kernel) (by decide) (fun p => hz 1 43 p rfl) (by decide +kernel) (by decide +kernel) (by decide +kernel)
  have e_x : A 0 0 = x := (o 0 0 (by decide)).trans e_x
  have e_mm : A 0 23 = mm := (o 0 23 (by decide)).trans e_mm
  refine ⟨hk, ?_⟩
  generalize sR (sN T q 16 30) mm 43 (some q) = T at hb ⊢
  intro q hq
  obtain ⟨hk, A, hb, -, o⟩ := hb.st 1 44 17 200 0 23 44 (K0 := 14) (N0 := 0) hq e_mm (by decide +kernel) (by decide) (fun p => hz 1 44 p rfl) (by decide +kernel) (by decide +kernel) (by decide +kernel)
  have e_x : A 0 0 = x := (o 0 0 (by decide)).trans e_x
  have e_mm : A 0 23 = mm := (o 0 23 (by decide)).trans e_mm
  refine ⟨hk, ?_⟩
  generalize sR (sN T q 17 200) mm 44 (some q) = T at hb ⊢
  intro q hq
  obtain ⟨hk, A, hb, -, o⟩ := hb.st 1 45 17 200 0 23 45 (K0 := 14) (N0 := 0) hq e_mm (by decide +kernel) (by decide) (fun p => hz 1 45 p rfl) (by decide +kernel) (by decide +kernel) (by decide +kernel)
  have e_x : A 0 0 = x := (o 0 0 (by decide)).trans e_x
  have e_mm : A 0 23 = mm := (o 0 23 (by decide)).trans e_mm
  refine ⟨hk, ?_⟩
  generalize sR (sN T q 17 200) mm 45 (some q) = T at hb ⊢
  intro q hq
  obtain ⟨hk, A, hb, -, o⟩ := hb.st 1 46 15 200 0 23 46 (K0 := 14) (N0 := 0) hq e_mm (by decide +kernel) (by decide) (fun p => hz 1 46 p rfl) (by decide +kernel) (by decide +kernel) (by decide +kernel)
  have e_x : A 0 0 = x := (o 0 0 (by decide)).trans e_x
  have e_mm : A 0 23 = mm := (o 0 23 (by decide)).trans e_mm
  refine ⟨hk, ?_⟩
  generalize sR (sN T q 15 200) mm 46 (some q) = T at hb ⊢
  intro q hq
  obtain ⟨hk, A, hb, -, o⟩ := hb.st 1 47 15 200 0 23 47 (K0 := 14) (N0 := 0) hq e_mm (by decide +kernel) (by decide) (fun p => hz 1 47 p rfl) (by decide +kernel) (by decide +kernel) (by decide +kernel)
  have e_x : A 0 0 = x := (o 0 0 (by decide)).trans e_x
  have e_mm : A 0 23 = mm := (o 0 23 (by decide)).trans e_mm
  refine ⟨hk, ?_⟩
  generalize sR (sN T q 15 200) mm 47 (some q) = T at hb ⊢
  exact hQ A T hb e_mm e_x
end CT
