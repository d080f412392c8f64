section FN
variable {A : Nat → Nat → Nat} {B : Nat → Nat × Nat} {S : Hp} {nc nw nm nj : Nat} {cw jc : Nat → Nat} {I : FI} {J : FJ} {R : FR} {xs : Nat → Int32} {L : Nat} {l4 : Int32}
variable {E : FI} {J0 : FJ} {R0 : FR} {od : Nat → Nat} {s : Rs} {j x : Nat} {t5 t6 t7 : Nat → Int32} {lf : Nat → Int64} {dn fl : Int32} {Q : Hp → Prop}
/-- addGiven: row b of the roots 14, 15 grows by what job j gives -/
theorem p_given {b : Nat} (hb : b = 14 ∨ b = 15) (hr : rx A B S nc nw nm nj cw jc od E J0 R0 I J R) (hj : j < nj) (hQ : ∀ f, (∀ y, y < 60 → f y = J 0 b y + (E 1 14 (60 * j + y)).toInt64) → Q (hq A B S I (upR J 0 b f) R)) : wp_X8_addGiven (hq A B S I J R) (some (A 3 j)) (some (A 0 b)) Q := by
  have h := hr.1
  obtain ⟨⟨n, st, e2, hF⟩, -⟩ := hr.st.2.2.2.2.2.2.2.2.2.1 j hj
  obtain ⟨f1, f2, f3, f4⟩ := hF
  have eE : ∀ y, I 1 14 (60 * j + y) = E 1 14 (60 * j + y) := fun y => hr.i rfl
  have kb : hK (hq A B S I J R) (A 0 b) = 16 ∧ hN (hq A B S I J R) (A 0 b) = 60 := hb.elim (fun e => by rw [e]; exact fr_14 h _ _ _) (fun e => by rw [e]; exact fr_15 h _ _ _)
  have kb2 : ∀ J', hK (hq A B S I J' R) (A 0 b) = 16 ∧ hN (hq A B S I J' R) (A 0 b) = 60 := fun J' => kb
  unfold wp_X8_addGiven
  simp only [fj_3 h hj, hi_q h, hj_q h, si_q h, sj_q h, vv_5 h, vs_5 h, vv_7 h, vs_7 h, vv_8 h, vs_8 h, vv_9 h, vs_9 h, vv_11 h, vs_11 h, vv_17 h, vs_17 h, vv_18 h, vs_18 h, vj_3 h, vj_4 h, vj_5 h, ex_some, ex_def, all_def, true_and, and_true, Nat.reduceLT, exists_eq_left, Option.some.injEq, exists_eq_left']
  have key : ∀ (r k fu : Nat) (f : Nat → Int64), k + r = n → r < fu → (∀ y, y < 60 → f y = J 0 b y + (if ∃ i, i < k ∧ st i = y then (I 1 14 (60 * j + y)).toInt64 else 0)) → wp_X8_addGiven_L7 (some (A 0 b)) (some (A 11 j)) Q fu (hq A B S I (upR J 0 b f) R) (nI k) := by
    intro r
    induction r with
    | zero =>
      intro k fu f hk hf hy
      obtain ⟨fu, rfl⟩ : ∃ z, fu = z + 1 := ⟨fu - 1, by omega⟩
      have hkn : k = n := by omega
      subst hkn
      rw [wp_X8_addGiven_L7]
      simp only [fj_11 h hj, hi_q h, hj_q h, si_q h, sj_q h, vv_5 h, vs_5 h, vv_7 h, vs_7 h, vv_8 h, vs_8 h, vv_9 h, vs_9 h, vv_11 h, vs_11 h, vv_17 h, vs_17 h, vv_18 h, vs_18 h, vj_3 h, vj_4 h, vj_5 h, ex_some, ex_def, all_def, true_and, and_true, Nat.reduceLT, exists_eq_left, Option.some.injEq, exists_eq_left', e2]
      refine ⟨fun _ => hQ f (fun y hy60 => ?_), fun z => absurd (Int32.le_refl _) z⟩
      rw [hy y hy60, eE]
      by_cases e : ∃ i, i < k ∧ st i = y
      · rw [if_pos e]
      · rw [if_neg e]
        have : I 1 14 (60 * j + y) = 0 := by
          by_cases z : I 1 14 (60 * j + y) = 0
          · exact z
          · exact absurd (f4 y hy60 z) e
        rw [eE] at this; rw [this]; rfl
    | succ r ih =>
      intro k fu f hk hf hy
      obtain ⟨fu, rfl⟩ : ∃ z, fu = z + 1 := ⟨fu - 1, by omega⟩
      have hkn : k < n := by omega
      obtain ⟨g1, g2, g3, g4⟩ := f2 k hkn
      have g2 : I 12 j k = nI (st k) := g2
      have e0 : ¬ nI n ≤ nI k := by rw [nI_leI (by omega) (by omega)]; omega
      rw [wp_X8_addGiven_L7]
      simp only [fj_11 h hj, fj_12 h hj, fj_13 h hj, kb2, hi_q h, hj_q h, si_q h, sj_q h, vv_5 h, vs_5 h, vv_7 h, vs_7 h, vv_8 h, vs_8 h, vv_9 h, vs_9 h, vv_11 h, vs_11 h, vv_17 h, vs_17 h, vv_18 h, vs_18 h, vj_3 h, vj_4 h, vj_5 h, ex_some, ex_def, all_def, true_and, and_true, Nat.reduceLT, exists_eq_left, Option.some.injEq, exists_eq_left', e2, e0, not_false_eq_true, true_implies, not_true_eq_false, false_implies, true_and, and_true, false_and, and_false, forall_const, imp_self, implies_true, if_true, if_false, eq_self, Bool.true_eq_false, Bool.false_eq_true, false_or, or_false, true_or, or_true, nI_clamp (show k < 2 ^ 31 by omega), vin (show k < 60 by omega) (show 60 < 2 ^ 31 by decide), g2, nI_clamp (show st k < 2 ^ 31 by omega), vin g1 (show 60 < 2 ^ 31 by decide), ← nI_succ]
      have g3' : I 13 j k = I 1 14 (60 * j + st k) := g3
      have eq : up3 (upR J 0 b f) 0 b (st k) (upR J 0 b f 0 b (st k) + (I 13 j k).toInt64) = upR J 0 b (fun y => if y = st k then f y + (I 1 14 (60 * j + st k)).toInt64 else f y) := by
        funext c i p
        unfold up3 upR
        by_cases e : c = 0 ∧ i = b
        · obtain ⟨rfl, rfl⟩ := e
          by_cases e2 : p = st k
          · simp [e2, g3']
          · simp [e2]
        · have : ¬ (c = 0 ∧ i = b ∧ p = st k) := fun z => e ⟨z.1, z.2.1⟩
          simp [e, this]
      rw [eq]
      refine ih (k + 1) fu _ (by omega) (by omega) (fun y hy60 => ?_)
      by_cases e : y = st k
      · subst e
        have z1 : ∃ i, i < k + 1 ∧ st i = st k := ⟨k, by omega, rfl⟩
        have z2 : ¬ ∃ i, i < k ∧ st i = st k := fun ⟨i, hi, z⟩ => by have := f3 i k (by omega) hkn z; omega
        have := hy (st k) hy60
        simp only [z2, if_false] at this
        simp only [z1, if_true, this]; grind
      · have z : (∃ i, i < k + 1 ∧ st i = y) ↔ ∃ i, i < k ∧ st i = y := ⟨fun ⟨i, hi, q⟩ => ⟨i, by
          have : i ≠ k := fun w => e (by rw [← q, w])
          omega, q⟩, fun ⟨i, hi, q⟩ => ⟨i, by omega, q⟩⟩
        simp only [e, if_false, z]; exact hy y hy60
  have := key n 0 FU (fun y => J 0 b y) (by omega) (by unfold FU; omega) (fun y hy => by simp)
  rw [show upR J 0 b (fun y => J 0 b y) = J from by funext c i p; unfold upR; by_cases e : c = 0 ∧ i = b <;> simp [e]] at this
  exact this
end FN
