section PS
variable {A : Nat → Nat → Nat} {B : Nat → Nat × Nat} {S : Hp} {nc nw nm nj : Nat} {cw jc : Nat → Nat} {I : FI} {J : FJ} {R : FR} {xs : Nat → Int32} {L : Nat} {l4 : Int32}
variable {E : FI} {R0 : FR} {bn an : Nat → Nat} {bl al : Nat → Nat → Nat} {j : Nat} {K2 Q : Hp → Prop}
theorem p_s7 (hK : ∀ n so I' R', pX A B S nc nw nm nj cw jc bn bl an al E J R0 I' R' → so1 A nj n so I' R' → (∀ j, j < nj → I' 0 10 j = nI (bn j)) → (∀ j, j < nj → (bn j = 0 ↔ ∃ q, q < n ∧ so q = j)) → K2 (hq A B S I' J R')) : ∀ (r i fu n : Nat) (so : Nat → Nat) (I : FI) (R : FR), i + r = nj → r < fu → pX A B S nc nw nm nj cw jc bn bl an al E J R0 I R → so1 A nj n so I R → (∀ j, j < i → I 0 10 j = nI (bn j)) → (∀ q, q < n → so q < i) → (∀ j, j < i → (bn j = 0 ↔ ∃ q, q < n ∧ so q = j)) → wp_X6_sortJobs_L7 (A 0 2) K2 Q fu (hq A B S I J R) (nI i) := by
  intro r
  induction r with
  | zero =>
    intro i fu n so I R hi hf hX h1 h2 h3 h4
    obtain ⟨fu, rfl⟩ : ∃ z, fu = z + 1 := ⟨fu - 1, by omega⟩
    have h := hX.1
    have : i = nj := by omega
    subst this
    rw [wp_X6_sortJobs_L7]
    simp only [fr_2 h, fr_1 h, hi_q h, hj_q h, si_q h, sj_q h, vv_5 h, vs_5 h, vv_7 h, vs_7 h, vv_8 h, vs_8 h, vv_9 h, vs_9 h, vv_11 h, vs_11 h, vv_17 h, vs_17 h, vv_18 h, vs_18 h, vj_3 h, vj_4 h, vj_5 h, ex_some, ex_def, all_def, true_and, and_true, Nat.reduceLT, exists_eq_left, Option.some.injEq, exists_eq_left', hX.c7]
    exact ⟨fun _ => hK n so I R hX h1 h2 h4, fun z => absurd (Int32.le_refl _) z⟩
  | succ r ih =>
    intro i fu n so I R hi hf hX h1 h2 h3 h4
    obtain ⟨fu, rfl⟩ : ∃ z, fu = z + 1 := ⟨fu - 1, by omega⟩
    have h := hX.1
    have n4 := hX.n4
    have hj : i < nj := by omega
    have e0 : ¬ nI nj ≤ nI i := by rw [nI_leI (by omega) (by omega)]; omega
    obtain ⟨u1, u2, u3, u4, u5⟩ := hX.jo hj
    obtain ⟨dd, hA, -⟩ := al_q (J := J) h (Or.inl ⟨rfl, rfl⟩) hX.lb hj
    have hb := (hX.lb i hj).2.1
    have ez : nI (bn i) = 0 ↔ bn i = 0 := nI_zero (by omega)
    rw [wp_X6_sortJobs_L7]
    simp only [fr_2 h, fr_1 h, fr_7 h, fj_3 h hj, fj_4 h hj, hi_q h, hj_q h, si_q h, sj_q h, vv_5 h, vs_5 h, vv_7 h, vs_7 h, vv_8 h, vs_8 h, vv_9 h, vs_9 h, vv_11 h, vs_11 h, vv_17 h, vs_17 h, vv_18 h, vs_18 h, vj_3 h, vj_4 h, vj_5 h, ex_some, ex_def, all_def, true_and, and_true, Nat.reduceLT, exists_eq_left, Option.some.injEq, exists_eq_left', hX.c7, e0, not_false_eq_true, true_implies, not_true_eq_false, false_implies, true_and, and_true, false_and, and_false, forall_const, imp_self, implies_true, if_true, if_false, eq_self, Bool.true_eq_false, Bool.false_eq_true, false_or, or_false, true_or, or_true, nI_clamp (show i < 2 ^ 31 by omega), vin (show i < 200 by omega) (show 200 < 2 ^ 31 by decide), u1]
    refine p_lsize hA ?_
    simp only [fr_2 h, fr_1 h, fr_7 h, fr_10 h, hi_q h, hj_q h, si_q h, sj_q h, vv_5 h, vs_5 h, vv_7 h, vs_7 h, vv_8 h, vs_8 h, vv_9 h, vs_9 h, vv_11 h, vs_11 h, vv_17 h, vs_17 h, vv_18 h, vs_18 h, vj_3 h, vj_4 h, vj_5 h, ex_some, ex_def, all_def, true_and, and_true, Nat.reduceLT, exists_eq_left, Option.some.injEq, exists_eq_left', nI_clamp (show i < 2 ^ 31 by omega), vin (show i < 200 by omega) (show 200 < 2 ^ 31 by decide), u1, up3_same, ez, ← nI_succ]
    have X1 : pX A B S nc nw nm nj cw jc bn bl an al E J R0 (up3 I 0 10 i (nI (bn i))) R := hX.up rfl
    have S1 : so1 A nj n so (up3 I 0 10 i (nI (bn i))) R := h1
    have ne : ∀ q, q < n → so q ≠ i := fun q hq z => by have := h3 q hq; omega
    have c10 : ∀ j, j < i + 1 → up3 I 0 10 i (nI (bn i)) 0 10 j = nI (bn j) := fun j hj' => by
      by_cases e : j = i
      · rw [e, up3_same]
      · rw [up3_off (by omega)]; exact h2 j (by omega)
    refine ⟨fun z => p_puts X1 hj S1 ne (fun I' R' X' f' s' => ih (i + 1) fu (n + 1) _ I' R' (by omega) (by omega) X' s' (fun j hj' => ?_) (fun q hq => ?_) (fun j hj' => ?_)), fun z => ih (i + 1) fu n so _ R (by omega) (by omega) X1 S1 c10 (fun q hq => by have := h3 q hq; omega) (fun j hj' => ?_)⟩
    · rw [f' 0 10 j (by omega)]; exact c10 j hj'
    · by_cases e : q = n
      · rw [e, u1_s]; omega
      · rw [u1_o e]; have := h3 q (by omega); omega
    · by_cases e : j = i
      · subst e
        exact ⟨fun _ => ⟨n, by omega, u1_s _ _ _⟩, fun _ => z⟩
      · rw [h4 j (by omega)]
        constructor
        · rintro ⟨q, hq, w⟩; exact ⟨q, by omega, by rw [u1_o (by omega)]; exact w⟩
        · rintro ⟨q, hq, w⟩
          by_cases e2 : q = n
          · rw [e2, u1_s] at w; omega
          · rw [u1_o e2] at w; exact ⟨q, by omega, w⟩
    · by_cases e : j = i
      · subst e
        exact ⟨fun w => absurd w z, fun ⟨q, hq, w⟩ => absurd w (ne q hq)⟩
      · exact h4 j (by omega)
theorem p_s96 {i b0 : Nat} {l1 : Int32} (hb0 : b0 < nj) (hK : ∀ n so I' R', pX A B S nc nw nm nj cw jc bn bl an al E J R0 I' R' → i < n → so1 A nj n so I' R' → so2 E nj so al n (i + 1) 0 I' → K2 (hq A B S I' J R')) : ∀ (r k fu n : Nat) (so : Nat → Nat) (I : FI) (R : FR), k + r = an b0 → r < fu → pX A B S nc nw nm nj cw jc bn bl an al E J R0 I R → i < n → so i = b0 → so1 A nj n so I R → so2 E nj so al n i k I → wp_X6_sortJobs_L96 (A 0 2) l1 (some (A 5 b0)) K2 Q fu (hq A B S I J R) (nI k) := by
  intro r
  induction r with
  | zero =>
    intro k fu n so I R hk hf hX hin hb h1 h2
    obtain ⟨fu, rfl⟩ : ∃ z, fu = z + 1 := ⟨fu - 1, by omega⟩
    have h := hX.1
    have hkn : k = an b0 := by omega
    subst hkn
    obtain ⟨dd, hA, -⟩ := al_q (J := J) h (Or.inr ⟨rfl, rfl⟩) hX.la hb0
    rw [wp_X6_sortJobs_L96]
    simp only [fj_5 h hb0, hi_q h, hj_q h, si_q h, sj_q h, vv_5 h, vs_5 h, vv_7 h, vs_7 h, vv_8 h, vs_8 h, vv_9 h, vs_9 h, vv_11 h, vs_11 h, vv_17 h, vs_17 h, vv_18 h, vs_18 h, vj_3 h, vj_4 h, vj_5 h, ex_some, ex_def, all_def, true_and, and_true, Nat.reduceLT, exists_eq_left, Option.some.injEq, exists_eq_left']
    refine p_lsize hA ⟨fun _ => hK n so I R hX hin h1 ?_, fun z => absurd (Int32.le_refl _) z⟩
    have eo : ∀ j, j < nj → opn E nj so al (i + 1) 0 j = opn E nj so al i (an b0) j := fun j hj => opn_cg (fun b hb' e => by
      constructor
      · rintro (⟨q, hq, w⟩ | ⟨-, t, ht, -⟩)
        · by_cases e2 : q = i
          · right
            rw [e2, hb] at w
            obtain ⟨t, ht, e3⟩ := (hX.2.2.2.2.1 j b hj hb').2.2.mp e
            rw [← w] at e3 ht
            exact ⟨by rw [hb, ← w], t, ht, by rw [← w]; exact e3⟩
          · exact Or.inl ⟨q, by omega, w⟩
        · omega
      · rintro (⟨q, hq, w⟩ | ⟨w, -⟩)
        · exact Or.inl ⟨q, by omega, w⟩
        · exact Or.inl ⟨i, by omega, w.symm⟩)
    exact ⟨fun j hj => by rw [eo j hj]; exact h2.1 j hj, fun j hj => by rw [eo j hj]; exact h2.2.1 j hj, h2.2.2⟩
  | succ r ih =>
    intro k fu n so I R hk hf hX hin hb h1 h2
    obtain ⟨fu, rfl⟩ : ∃ z, fu = z + 1 := ⟨fu - 1, by omega⟩
    have h := hX.1
    have n4 := hX.n4
    have hkn : k < an b0 := by omega
    have ha := (hX.la b0 hb0).2.1
    obtain ⟨dd, hA, -⟩ := al_q (J := J) h (Or.inr ⟨rfl, rfl⟩) hX.la hb0
    have hj := ((hX.la b0 hb0).2.2.2 k hkn).1
    obtain ⟨u1', u2, u3, u4, u5⟩ := hX.jo hj
    have e0 : ¬ nI (an b0) ≤ nI k := by rw [nI_leI (by omega) (by omega)]; omega
    have he : E 1 10 (200 * al b0 k + b0) = 1 := (hX.2.2.2.2.1 _ _ hj hb0).2.2.mpr ⟨k, hkn, rfl⟩
    have np : ¬ pz so al i k (so i) (al (so i) k) := by
      rintro (⟨q, hq, w⟩ | ⟨-, t, ht, w⟩)
      · have := h1.2.1 q i (by omega) hin w; omega
      · rw [hb] at w
        have := hX.2.2.2.2.2.2.1 b0 t k hb0 (by omega) hkn w; omega
    have od := opn_dec (E := E) (nj := nj) (so := so) (al := al) (i := i) (k := k) (by rw [hb]; exact hb0) (by rw [hb]; exact he) np
    rw [hb] at od
    have ol : opn E nj so al i (k + 1) (al b0 k) ≤ 200 := Nat.le_trans (cntN_le _ _) n4
    have c10 : I 0 10 (al b0 k) = nI (opn E nj so al i (k + 1) (al b0 k) + 1) := by rw [h2.1 _ hj, od]
    have ez : nI (opn E nj so al i (k + 1) (al b0 k)) = 0 ↔ opn E nj so al i (k + 1) (al b0 k) = 0 := nI_zero (by omega)
    rw [wp_X6_sortJobs_L96]
    simp only [fj_5 h hb0, hi_q h, hj_q h, si_q h, sj_q h, vv_5 h, vs_5 h, vv_7 h, vs_7 h, vv_8 h, vs_8 h, vv_9 h, vs_9 h, vv_11 h, vs_11 h, vv_17 h, vs_17 h, vv_18 h, vs_18 h, vj_3 h, vj_4 h, vj_5 h, ex_some, ex_def, all_def, true_and, and_true, Nat.reduceLT, exists_eq_left, Option.some.injEq, exists_eq_left']
    refine p_lsize hA ⟨fun z => absurd z e0, fun _ => ?_⟩
    simp only [fj_5 h hb0, hi_q h, hj_q h, si_q h, sj_q h, vv_5 h, vs_5 h, vv_7 h, vs_7 h, vv_8 h, vs_8 h, vv_9 h, vs_9 h, vv_11 h, vs_11 h, vv_17 h, vs_17 h, vv_18 h, vs_18 h, vj_3 h, vj_4 h, vj_5 h, ex_some, ex_def, all_def, true_and, and_true, Nat.reduceLT, exists_eq_left, Option.some.injEq, exists_eq_left']
    refine p_lget hA hkn ?_
    have u2' : up3 I 0 10 (al b0 k) (nI (opn E nj so al i (k + 1) (al b0 k))) 3 (al b0 k) 0 = nI (al b0 k) := u2
    simp only [fr_2 h, fr_10 h, fj_3 h hj, hi_q h, hj_q h, si_q h, sj_q h, vv_5 h, vs_5 h, vv_7 h, vs_7 h, vv_8 h, vs_8 h, vv_9 h, vs_9 h, vv_11 h, vs_11 h, vv_17 h, vs_17 h, vv_18 h, vs_18 h, vj_3 h, vj_4 h, vj_5 h, ex_some, ex_def, all_def, true_and, and_true, Nat.reduceLT, exists_eq_left, Option.some.injEq, exists_eq_left', u2, nI_clamp (show al b0 k < 2 ^ 31 by omega), vin (show al b0 k < 200 by omega) (show 200 < 2 ^ 31 by decide), c10, nI_p1, u2', up3_same, ez, ← nI_succ]
    have X1 : pX A B S nc nw nm nj cw jc bn bl an al E J R0 (up3 I 0 10 (al b0 k) (nI (opn E nj so al i (k + 1) (al b0 k)))) R := hX.up rfl
    have S1 : so1 A nj n so (up3 I 0 10 (al b0 k) (nI (opn E nj so al i (k + 1) (al b0 k)))) R := h1
    have nin : ¬ ∃ q, q < n ∧ so q = al b0 k := fun w => by have := (h2.2.1 _ hj).mpr w; omega
    have c10' : ∀ j, j < nj → up3 I 0 10 (al b0 k) (nI (opn E nj so al i (k + 1) (al b0 k))) 0 10 j = nI (opn E nj so al i (k + 1) j) := fun j hj' => by
      by_cases e : j = al b0 k
      · rw [e, up3_same]
      · rw [up3_off (by omega), h2.1 j hj', opn_same (by rw [hb]; exact e)]
    have osm : ∀ j, j ≠ al b0 k → opn E nj so al i (k + 1) j = opn E nj so al i k j := fun j e => opn_same (by rw [hb]; exact e)
    refine ⟨fun z => p_puts X1 hj S1 (fun q hq w => nin ⟨q, hq, w⟩) (fun I' R' X' f' s' => ?_), fun z => ih (k + 1) fu n so _ R (by omega) (by omega) X1 hin hb S1 ⟨c10', fun j hj' => ?_, h2.2.2⟩⟩
    · have ei : u1 so n (al b0 k) i = so i := u1_o (by omega)
      have eo : ∀ j, opn E nj (u1 so n (al b0 k)) al i (k + 1) j = opn E nj so al i (k + 1) j := fun j => opn_cg (fun b _ _ => by
        constructor
        · rintro (⟨q, hq, w⟩ | ⟨w, y⟩)
          · rw [u1_o (by omega)] at w; exact Or.inl ⟨q, hq, w⟩
          · rw [ei] at w; exact Or.inr ⟨w, y⟩
        · rintro (⟨q, hq, w⟩ | ⟨w, y⟩)
          · exact Or.inl ⟨q, hq, by rw [u1_o (by omega)]; exact w⟩
          · exact Or.inr ⟨by rw [ei]; exact w, y⟩)
      refine ih (k + 1) fu (n + 1) _ I' R' (by omega) (by omega) X' (by omega) (ei.trans hb) s' ⟨fun j hj' => ?_, fun j hj' => ?_, fun q hq b hb' e => ?_⟩
      · rw [f' 0 10 j (by omega), eo]; exact c10' j hj'
      · rw [eo]
        by_cases e : j = al b0 k
        · rw [e]; exact ⟨fun _ => ⟨n, by omega, u1_s _ _ _⟩, fun _ => z⟩
        · rw [osm j e, h2.2.1 j hj']
          constructor
          · rintro ⟨q, hq, w⟩; exact ⟨q, by omega, by rw [u1_o (by omega)]; exact w⟩
          · rintro ⟨q, hq, w⟩
            by_cases e2 : q = n
            · rw [e2, u1_s] at w; exact absurd w.symm e
            · rw [u1_o e2] at w; exact ⟨q, by omega, w⟩
      · by_cases e2 : q = n
        · rw [e2, u1_s] at e
          rw [e2]
          rcases opn_0.mp z b hb' e with ⟨q', hq', w⟩ | ⟨w, -⟩
          · exact ⟨q', by omega, by rw [u1_o (by omega)]; exact w⟩
          · exact ⟨i, hin, by rw [ei]; exact w.symm⟩
        · rw [u1_o e2] at e
          obtain ⟨q', hq', w⟩ := h2.2.2 q (by omega) b hb' e
          exact ⟨q', hq', by rw [u1_o (by omega)]; exact w⟩
    · by_cases e : j = al b0 k
      · rw [e]; exact ⟨fun w => absurd w z, fun w => absurd w nin⟩
      · rw [osm j e]; exact h2.2.1 j hj'
theorem p_s69 (hQ : ∀ so I' R', pX A B S nc nw nm nj cw jc bn bl an al E J R0 I' R' → pO E nj so → I' 0 2 3 = nI nj → (∀ q, q < nj → R' 0 9 q = some (A 3 (so q))) → Q (hq A B S I' J R')) : ∀ (r i fu n : Nat) (so : Nat → Nat) (I : FI) (R : FR), i + r = nj → r < fu → pX A B S nc nw nm nj cw jc bn bl an al E J R0 I R → i ≤ n → so1 A nj n so I R → so2 E nj so al n i 0 I → wp_X6_sortJobs_L69 (A 0 2) Q fu (hq A B S I J R) (nI i) := by
  intro r
  induction r with
  | zero =>
    intro i fu n so I R hi hf hX hin h1 h2
    obtain ⟨fu, rfl⟩ : ∃ z, fu = z + 1 := ⟨fu - 1, by omega⟩
    have h := hX.1
    have n4 := hX.n4
    have hn : n ≤ nj := php h1.1 h1.2.1
    have e1 : n = nj := by omega
    have e2 : i = nj := by omega
    subst e1
    subst e2
    rw [wp_X6_sortJobs_L69]
    simp only [fr_2 h, hi_q h, hj_q h, si_q h, sj_q h, vv_5 h, vs_5 h, vv_7 h, vs_7 h, vv_8 h, vs_8 h, vv_9 h, vs_9 h, vv_11 h, vs_11 h, vv_17 h, vs_17 h, vv_18 h, vs_18 h, vj_3 h, vj_4 h, vj_5 h, ex_some, ex_def, all_def, true_and, and_true, Nat.reduceLT, h1.2.2.1]
    exact ⟨fun _ => hQ so I R hX ⟨h1.1, h1.2.1, so_all (hX.2.1.2.2.2.2.2.2.1) h2.2.1, h2.2.2⟩ h1.2.2.1 h1.2.2.2, fun z => absurd (Int32.le_refl _) z⟩
  | succ r ih =>
    intro i fu n so I R hi hf hX hin h1 h2
    obtain ⟨fu, rfl⟩ : ∃ z, fu = z + 1 := ⟨fu - 1, by omega⟩
    have h := hX.1
    have n4 := hX.n4
    have hn : n ≤ nj := php h1.1 h1.2.1
    have el : nI n ≤ nI i ↔ n ≤ i := nI_leI (by omega) (by omega)
    have e0 : ¬ (200 : Int32) ≤ nI i := by rw [show (200 : Int32) = nI 200 from rfl, nI_leI (by decide) (by omega)]; omega
    rw [wp_X6_sortJobs_L69]
    simp only [fr_2 h, fr_9 h, hi_q h, hj_q h, si_q h, sj_q h, vv_5 h, vs_5 h, vv_7 h, vs_7 h, vv_8 h, vs_8 h, vv_9 h, vs_9 h, vv_11 h, vs_11 h, vv_17 h, vs_17 h, vv_18 h, vs_18 h, vj_3 h, vj_4 h, vj_5 h, ex_some, ex_def, all_def, true_and, and_true, Nat.reduceLT, h1.2.2.1, el, e0, not_false_eq_true, true_implies, not_true_eq_false, false_implies, true_and, and_true, false_and, and_false, forall_const, imp_self, implies_true, if_true, if_false, eq_self, Bool.true_eq_false, Bool.false_eq_true, false_or, or_false, true_or, or_true, nI_clamp (show i < 2 ^ 31 by omega), vin (show i < 200 by omega) (show 200 < 2 ^ 31 by decide), ← nI_succ]
    refine ⟨fun z => ?_, fun z => ?_⟩
    · have ein : i = n := by omega
      subst ein
      have all := so_all (J := J) hX.2.1.2.2.2.2.2.2.1 h2.2.1
      have e1 : i = nj := by
        have := cntN_ls (N := nj) (f := so) (n := i) (p := fun _ => true) h1.1 h1.2.1 (fun b hb => ⟨fun _ => all b hb, fun _ => rfl⟩)
        rw [← this]
        exact cntN_n.mpr (fun _ _ => rfl)
      omega
    · have hb := h1.1 i (by omega)
      rw [h1.2.2.2 i (by omega)]
      refine ⟨A 3 (so i), rfl, (fj_3 h hb _ _ _).1, ?_⟩
      simp only [fj_3 h hb]
      exact p_s96 hb (fun n' so' I' R' X' i' s1 s2 => ih (i + 1) fu n' so' I' R' (by omega) (by omega) X' (by omega) s1 s2) _ 0 FU n so I R (Nat.zero_add _) (by have := (hX.la (so i) hb).2.1; unfold FU; omega) hX (by omega) rfl h1 h2
theorem p_sort (hX : pX A B S nc nw nm nj cw jc bn bl an al E J R0 I R) (hQ : ∀ so I' R', pX A B S nc nw nm nj cw jc bn bl an al E J R0 I' R' → pO E nj so → I' 0 2 3 = nI nj → (∀ q, q < nj → R' 0 9 q = some (A 3 (so q))) → Q (hq A B S I' J R')) : wp_X6_sortJobs (hq A B S I J R) (A 0 2) Q := by
  have h := hX.1
  have n4 := hX.n4
  unfold wp_X6_sortJobs
  refine ⟨(fr_2 h _ _ _).1, ?_⟩
  rw [si_q h (by decide)]
  refine p_s7 (fun n so I' R' X' s' c' d' => ?_) nj 0 FU 0 (fun _ => 0) _ R (by omega) (by unfold FU; omega) (hX.up rfl) ⟨fun q hq => by omega, fun q q' hq => by omega, up3_same _ _ _ _ _, fun q hq => by omega⟩ (fun j hj => by omega) (fun q hq => by omega) (fun j hj => by omega)
  have eo : ∀ j, j < nj → opn E nj so al 0 0 j = bn j := fun j hj => by
    unfold opn
    refine cntN_ls (f := bl j) (fun i hi => ((hX.2.2.1 j hj).2.2.2 i hi).1) (fun i i' a b => hX.2.2.2.2.2.1 j i i' hj a b) (fun b hb => ?_)
    rw [decide_eq_true_iff, ← (hX.2.2.2.2.1 j b hj hb).2.1]
    refine ⟨fun z => z.1, fun z => ⟨z, ?_⟩⟩
    rintro (⟨q, hq, -⟩ | ⟨-, t, ht, -⟩) <;> omega
  refine p_s69 hQ nj 0 FU n so I' R' (by omega) (by unfold FU; omega) X' (Nat.zero_le _) s' ⟨fun j hj => by rw [eo j hj]; exact c' j hj, fun j hj => by rw [eo j hj]; exact d' j hj, fun q hq b hb e => ?_⟩
  have z := (d' (so q) (s'.1 q hq)).mpr ⟨q, hq, rfl⟩
  obtain ⟨i, hi, -⟩ := (hX.2.2.2.2.1 (so q) b (s'.1 q hq) hb).2.1.mp e
  omega
end PS
