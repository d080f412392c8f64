section LY
variable {A : Nat → Nat → Nat} {B : Nat → Nat × Nat} {S : Hp} {nc nw nm nj : Nat} {cw jc : Nat → Nat} {I : FI} {J : FJ} {R : FR} {xs : Nat → Int32} {L : Nat} {l4 : Int32}
variable {E : FI} {J0 : FJ} {R0 : FR} {od : Nat → Nat} {s : Rs} {j : Nat} {K Q : Hp → Prop}
theorem p_lay1 (h : Sh A B S nj nc) (hK : ∀ J', J' = (fun c i p => if c = 0 ∧ (i = 14 ∨ i = 15) ∧ p < 60 then J 0 6 p else J c i p) → K (hq A B S I J' R)) : ∀ (r k fu : Nat), k + r = 60 → r < fu → wp_X8_layOut_L2 (A 0 4) K Q fu (hq A B S I (fun c i p => if c = 0 ∧ (i = 14 ∨ i = 15) ∧ p < k then J 0 6 p else J c i p) R) (nI k) := by
  intro r
  induction r with
  | zero =>
    intro k fu hk hf
    obtain ⟨fu, rfl⟩ : ∃ z, fu = z + 1 := ⟨fu - 1, by omega⟩
    have : k = 60 := by omega
    subst this
    rw [wp_X8_layOut_L2]
    exact ⟨fun _ => hK _ rfl, fun z => absurd (by decide) z⟩
  | succ r ih =>
    intro k fu hk hf
    obtain ⟨fu, rfl⟩ : ∃ z, fu = z + 1 := ⟨fu - 1, by omega⟩
    have e0 : ¬ (60 : Int32) ≤ nI k := by rw [show (60 : Int32) = nI 60 from rfl, nI_leI (by decide) (by omega)]; omega
    rw [wp_X8_layOut_L2]
    generalize eJ : (fun c i p => if c = 0 ∧ (i = 14 ∨ i = 15) ∧ p < k then J 0 6 p else J c i p) = J2
    have g6 : J2 0 6 k = J 0 6 k := by rw [← eJ]; rfl
    have g6' : up3 J2 0 14 k (J 0 6 k) 0 6 k = J 0 6 k := by rw [up3_off (by omega), g6]
    simp only [fr_4 h, fr_1 h, fr_6 h, fr_14 h, fr_15 h, hi_q h, hj_q h, si_q h, sj_q h, vv_5 h, vs_5 h, vv_7 h, vs_7 h, vv_8 h, vs_8 h, vv_9 h, vs_9 h, vv_11 h, vs_11 h, vv_17 h, vs_17 h, vv_18 h, vs_18 h, vj_3 h, vj_4 h, vj_5 h, ex_some, ex_def, all_def, true_and, and_true, Nat.reduceLT, exists_eq_left, Option.some.injEq, exists_eq_left', e0, not_false_eq_true, true_implies, not_true_eq_false, false_implies, true_and, and_true, false_and, and_false, forall_const, imp_self, implies_true, if_true, if_false, eq_self, Bool.true_eq_false, Bool.false_eq_true, false_or, or_false, true_or, or_true, nI_clamp (show k < 2 ^ 31 by omega), vin (show k < 60 by omega) (show 60 < 2 ^ 31 by decide), g6, g6', ← nI_succ]
    have := ih (k + 1) fu (by omega) (by omega)
    have eq : up3 (up3 J2 0 14 k (J 0 6 k)) 0 15 k (J 0 6 k) = (fun c i p => if c = 0 ∧ (i = 14 ∨ i = 15) ∧ p < k + 1 then J 0 6 p else J c i p) := by
      rw [← eJ]
      funext c i p
      unfold up3
      by_cases q : c = 0 ∧ (i = 14 ∨ i = 15)
      · obtain ⟨rfl, q⟩ := q
        by_cases q2 : p = k
        · subst q2
          rcases q with rfl | rfl <;> simp
        · have e : p < k + 1 ↔ p < k := by omega
          rcases q with rfl | rfl <;> simp [q2, e]
      · have q1 : ¬ (c = 0 ∧ i = 15 ∧ p = k) := fun z => q ⟨z.1, Or.inr z.2.1⟩
        have q2 : ¬ (c = 0 ∧ i = 14 ∧ p = k) := fun z => q ⟨z.1, Or.inl z.2.1⟩
        have q3 : ∀ m, ¬ (c = 0 ∧ (i = 14 ∨ i = 15) ∧ p < m) := fun m z => q ⟨z.1, z.2.1⟩
        rw [if_neg q1, if_neg q2, if_neg (q3 (k + 1))]; exact if_neg (q3 k)
    rw [eq]; exact this
theorem p_lay2 (h : Sh A B S nj nc) (hn : nc ≤ 8) (hR5 : ∀ c, c < nc → R 0 5 c = some (A 2 c)) (h1 : I 0 1 1 = nI nc) (hK : ∀ I', I' = (fun c i p => if c = 2 ∧ p = 3 ∧ i < nc then I 2 i 2 else I c i p) → K (hq A B S I' J R)) : ∀ (r k fu : Nat), k + r = nc → r < fu → wp_X8_layOut_L46 (A 0 4) K Q fu (hq A B S (fun c i p => if c = 2 ∧ p = 3 ∧ i < k then I 2 i 2 else I c i p) J R) (nI k) := by
  intro r
  induction r with
  | zero =>
    intro k fu hk hf
    obtain ⟨fu, rfl⟩ : ∃ z, fu = z + 1 := ⟨fu - 1, by omega⟩
    have : k = nc := by omega
    subst this
    rw [wp_X8_layOut_L46]
    generalize eI : (fun c i p => if c = 2 ∧ p = 3 ∧ i < k then I 2 i 2 else I c i p) = I2
    have g : I2 0 1 1 = nI k := by rw [← eI]; exact h1
    simp only [fr_4 h, fr_1 h, hi_q h, hj_q h, si_q h, sj_q h, vv_5 h, vs_5 h, vv_7 h, vs_7 h, vv_8 h, vs_8 h, vv_9 h, vs_9 h, vv_11 h, vs_11 h, vv_17 h, vs_17 h, vv_18 h, vs_18 h, vj_3 h, vj_4 h, vj_5 h, ex_some, ex_def, all_def, true_and, and_true, Nat.reduceLT, exists_eq_left, Option.some.injEq, exists_eq_left', g]
    exact ⟨fun _ => hK _ eI.symm, fun z => absurd (Int32.le_refl _) z⟩
  | succ r ih =>
    intro k fu hk hf
    obtain ⟨fu, rfl⟩ : ∃ z, fu = z + 1 := ⟨fu - 1, by omega⟩
    have hkn : k < nc := by omega
    have e0 : ¬ nI nc ≤ nI k := by rw [nI_leI (by omega) (by omega)]; omega
    rw [wp_X8_layOut_L46]
    generalize eI : (fun c i p => if c = 2 ∧ p = 3 ∧ i < k then I 2 i 2 else I c i p) = I2
    have g : I2 0 1 1 = nI nc := by rw [← eI]; exact h1
    have g2 : I2 2 k 2 = I 2 k 2 := by rw [← eI]; show (if 2 = 2 ∧ 2 = 3 ∧ k < k then _ else _) = _; rw [if_neg (by omega)]
    simp only [fr_4 h, fr_1 h, fr_5 h, fc_2 h hkn, hi_q h, hj_q h, si_q h, sj_q h, vv_5 h, vs_5 h, vv_7 h, vs_7 h, vv_8 h, vs_8 h, vv_9 h, vs_9 h, vv_11 h, vs_11 h, vv_17 h, vs_17 h, vv_18 h, vs_18 h, vj_3 h, vj_4 h, vj_5 h, ex_some, ex_def, all_def, true_and, and_true, Nat.reduceLT, exists_eq_left, Option.some.injEq, exists_eq_left', g, e0, not_false_eq_true, true_implies, not_true_eq_false, false_implies, true_and, and_true, false_and, and_false, forall_const, imp_self, implies_true, if_true, if_false, eq_self, Bool.true_eq_false, Bool.false_eq_true, false_or, or_false, true_or, or_true, nI_clamp (show k < 2 ^ 31 by omega), vin (show k < 8 by omega) (show 8 < 2 ^ 31 by decide), hR5 k hkn, g2, ← nI_succ]
    have := ih (k + 1) fu (by omega) (by omega)
    have eq : up3 I2 2 k 3 (I 2 k 2) = (fun c i p => if c = 2 ∧ p = 3 ∧ i < k + 1 then I 2 i 2 else I c i p) := by
      rw [← eI]
      funext c i p
      unfold up3
      by_cases q : c = 2 ∧ i = k ∧ p = 3
      · obtain ⟨rfl, rfl, rfl⟩ := q
        simp
      · rw [if_neg q]
        have : (c = 2 ∧ p = 3 ∧ i < k + 1) ↔ (c = 2 ∧ p = 3 ∧ i < k) := by omega
        simp only [this]
    rw [eq]; exact this
theorem p_lay3 {bn : Nat → Nat} {bl : Nat → Nat → Nat} {I1 : FI} {J1 : FJ} {R1 : FR} (hl : lsA A S E R0 4 17 nj bn bl) (hQ : ∀ I' J' R', rx A B S nc nw nm nj cw jc od E J0 R0 I' J' R' → I' 0 4 14 = nI nj → Ag (fun c i p => !((c == 16 && p == 7) || (c == 0 && i == 4 && p == 14))) I1 I' → Ag (fun c i _ => !(c == 0 && i == 15)) J1 J' → Ag (fun c i _ => !(c == 0 && i == 18)) R1 R' → (∀ i, i < nj → I' 16 i 7 = nI (bn i)) → (∀ y, y < 60 → J' 0 15 y = J1 0 15 y + sumJ nj (fun i => (E 1 14 (60 * i + y)).toInt64)) → (∀ t, t < nj → R' 0 18 t = some (A 3 (od t))) → Q (hq A B S I' J' R')) : ∀ (r k fu : Nat) (I : FI) (J : FJ) (R : FR), k + r = nj → r < fu → rx A B S nc nw nm nj cw jc od E J0 R0 I J R → Ag (fun c i p => !((c == 16 && p == 7) || (c == 0 && i == 4 && p == 14))) I1 I → Ag (fun c i _ => !(c == 0 && i == 15)) J1 J → Ag (fun c i _ => !(c == 0 && i == 18)) R1 R → (∀ i, i < k → I 16 i 7 = nI (bn i)) → (∀ y, y < 60 → J 0 15 y = J1 0 15 y + sumJ k (fun i => (E 1 14 (60 * i + y)).toInt64)) → (∀ t, t < k → R 0 18 t = some (A 3 (od t))) → wp_X8_layOut_L89 (A 0 4) Q fu (hq A B S I J R) (nI k) := by
  intro r
  induction r with
  | zero =>
    intro k fu I J R hk hf hr aI aJ aR f1 f2 f3
    obtain ⟨fu, rfl⟩ : ∃ z, fu = z + 1 := ⟨fu - 1, by omega⟩
    have h := hr.1
    have : k = nj := by omega
    subst this
    have c7 : I 0 1 7 = nI k := hr.st.2.1.2.2.2.1
    rw [wp_X8_layOut_L89]
    simp only [fr_4 h, fr_1 h, hi_q h, hj_q h, si_q h, sj_q h, vv_5 h, vs_5 h, vv_7 h, vs_7 h, vv_8 h, vs_8 h, vv_9 h, vs_9 h, vv_11 h, vs_11 h, vv_17 h, vs_17 h, vv_18 h, vs_18 h, vj_3 h, vj_4 h, vj_5 h, ex_some, ex_def, all_def, true_and, and_true, Nat.reduceLT, exists_eq_left, Option.some.injEq, exists_eq_left', c7]
    refine ⟨fun _ => hQ _ _ _ (hr.fx (hr.2.2.1.I rfl)) (up3_same _ _ _ _ _) (aI.up rfl) aJ aR f1 f2 f3, fun z => absurd (Int32.le_refl _) z⟩
  | succ r ih =>
    intro k fu I J R hk hf hr aI aJ aR f1 f2 f3
    obtain ⟨fu, rfl⟩ : ∃ z, fu = z + 1 := ⟨fu - 1, by omega⟩
    have h := hr.1
    have n4 : nj ≤ 200 := hr.2.1.1.2.2.2.1
    have hj : k < nj := by omega
    have c7 : I 0 1 7 = nI nj := hr.st.2.1.2.2.2.1
    have e0 : ¬ nI nj ≤ nI k := by rw [nI_leI (by omega) (by omega)]; omega
    have u1 := (hr.jo hj).1
    have hl2 : lsA A S I R 4 17 nj bn bl := fun i hi => by
      rw [hr.i (c := 4) (p := 2) rfl, hr.r (c := 4) (p := 1) rfl]
      obtain ⟨y1, y2, y3, y4⟩ := hl i hi
      exact ⟨y1, y2, y3, fun t ht => by rw [hr.r (c := 17) rfl]; exact y4 t ht⟩
    obtain ⟨dd, hA, -⟩ := al_q (J := J) h (Or.inl ⟨rfl, rfl⟩) hl2 hj
    rw [wp_X8_layOut_L89]
    simp only [fr_4 h, fr_1 h, fr_7 h, fj_3 h hj, fj_4 h hj, hi_q h, hj_q h, si_q h, sj_q h, vv_5 h, vs_5 h, vv_7 h, vs_7 h, vv_8 h, vs_8 h, vv_9 h, vs_9 h, vv_11 h, vs_11 h, vv_17 h, vs_17 h, vv_18 h, vs_18 h, vj_3 h, vj_4 h, vj_5 h, ex_some, ex_def, all_def, true_and, and_true, Nat.reduceLT, exists_eq_left, Option.some.injEq, exists_eq_left', c7, e0, not_false_eq_true, true_implies, not_true_eq_false, false_implies, true_and, and_true, false_and, and_false, forall_const, imp_self, implies_true, if_true, if_false, eq_self, Bool.true_eq_false, Bool.false_eq_true, false_or, or_false, true_or, or_true, nI_clamp (show k < 2 ^ 31 by omega), vin (show k < 200 by omega) (show 200 < 2 ^ 31 by decide), u1, ← nI_succ]
    refine p_lsize hA ?_
    simp only [fr_4 h, fj_16 h hj, hi_q h, hj_q h, si_q h, sj_q h, vv_5 h, vs_5 h, vv_7 h, vs_7 h, vv_8 h, vs_8 h, vv_9 h, vs_9 h, vv_11 h, vs_11 h, vv_17 h, vs_17 h, vv_18 h, vs_18 h, vj_3 h, vj_4 h, vj_5 h, ex_some, ex_def, all_def, true_and, and_true, Nat.reduceLT, exists_eq_left, Option.some.injEq, exists_eq_left']
    have hr1 : rx A B S nc nw nm nj cw jc od E J0 R0 (up3 I 16 k 7 (nI (bn k))) J R := hr.fx (hr.2.2.1.I rfl)
    refine p_given (Or.inr rfl) hr1 hj (fun f hf2 => ?_)
    have o8 : R 0 8 k = some (A 3 (od k)) := by rw [hr.r (c := 0) (i := 8) rfl]; exact (hr.2.2.2.1 k hj).2
    have ho := (hr.2.2.2.1 k hj).1
    simp only [fr_4 h, fr_1 h, fr_8 h, fr_18 h, fj_3 h ho, hi_q h, hj_q h, si_q h, sj_q h, vv_5 h, vs_5 h, vv_7 h, vs_7 h, vv_8 h, vs_8 h, vv_9 h, vs_9 h, vv_11 h, vs_11 h, vv_17 h, vs_17 h, vv_18 h, vs_18 h, vj_3 h, vj_4 h, vj_5 h, ex_some, ex_def, all_def, true_and, and_true, Nat.reduceLT, exists_eq_left, Option.some.injEq, exists_eq_left', nI_clamp (show k < 2 ^ 31 by omega), vin (show k < 200 by omega) (show 200 < 2 ^ 31 by decide), o8]
    refine ih (k + 1) fu _ _ _ (by omega) (by omega) (hr1.fx ((hr1.2.2.1.JR (fun _ => rfl)).R rfl)) (aI.up rfl) (aJ.ur (fun _ => rfl)) (aR.up rfl) (fun i hi => ?_) (fun y hy => ?_) (fun t ht => ?_)
    · by_cases q : i = k
      · rw [q, up3_same]
      · rw [up3_off (by omega)]; exact f1 i (by omega)
    · rw [up_j, hf2 y hy, f2 y hy, sumJ]; grind
    · by_cases q : t = k
      · rw [q, up3_same]
      · rw [up3_off (by omega)]; exact f3 t (by omega)
end LY
