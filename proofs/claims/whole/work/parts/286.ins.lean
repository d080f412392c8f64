section JI
variable {A : Nat → Nat → Nat} {B : Nat → Nat × Nat} {S : Hp} {nc nw nm nj : Nat} {cw jc : Nat → Nat} {I : FI} {J : FJ} {R : FR} {xs : Nat → Int32} {L : Nat} {l4 : Int32}
theorem nI_p1 (k : Nat) : nI (k + 1) - 1 = nI k := by rw [nI_succ]; grind
theorem nI_p2 (k : Nat) : nI (k + 1) + (-1) = nI k := by rw [nI_succ]; grind
theorem p_ins {K : Hp → Int32 → Prop} {Q : Int32 → Hp → Prop} {pr : Nat → Int32} {od : Nat → Nat} (h : Sh A B S (nj + 1) nc) (hn : nj < 200) (hnc : nc ≤ 8) (hjc : ∀ j, j ≤ nj → jc j < nc) (d0 : ∀ c, c < nc → I 2 c 0 = nI c) (d1 : ∀ j, j ≤ nj → R 3 j 1 = some (A 2 (jc j)) ∧ I 3 j 0 = nI j ∧ I 3 j 3 = pr j) (hod : ∀ t, t < nj → od t < nj)
  (hk : ∀ R2 k, k ≤ nj → Ag (fun c i _ => !(c == 0 && i == 8)) R R2 → (∀ t, t < k → R2 0 8 t = some (A 3 (od t))) → (∀ t, k < t → t ≤ nj → R2 0 8 t = some (A 3 (od (t - 1)))) → (∀ s, k ≤ s → s < nj → ahd jc pr nj (od s)) → (k = 0 ∨ ¬ ahd jc pr nj (od (k - 1))) → K (hq A B S I J R2) (nI k)) :
  ∀ k fu R2, k ≤ nj → k < fu → Ag (fun c i _ => !(c == 0 && i == 8)) R R2 → (∀ t, t < k → R2 0 8 t = some (A 3 (od t))) → (∀ t, k < t → t ≤ nj → R2 0 8 t = some (A 3 (od (t - 1)))) → (∀ s, k ≤ s → s < nj → ahd jc pr nj (od s)) → wp_X9_addJob_L46 (A 0 1) (A 3 nj) K Q fu (hq A B S I J R2) (nI k) := by
  intro k
  induction k with
  | zero =>
    intro fu R2 _ hf g q1 q2 q3
    obtain ⟨fu, rfl⟩ : ∃ f, fu = f + 1 := ⟨fu - 1, by omega⟩
    rw [wp_X9_addJob_L46]
    exact ⟨fun _ => hk R2 0 (by omega) g q1 q2 q3 (Or.inl rfl), fun z => absurd (by decide) z⟩
  | succ k ih =>
    intro fu R2 hkn hf g q1 q2 q3
    obtain ⟨fu, rfl⟩ : ∃ f, fu = f + 1 := ⟨fu - 1, by omega⟩
    rw [wp_X9_addJob_L46]
    have e0 : ¬ nI (k + 1) ≤ 0 := by rw [show (0 : Int32) = nI 0 from rfl, nI_leI (by omega) (by decide)]; omega
    have hkj : k < nj := by omega
    have ho := hod k hkj
    have r3 : ∀ j, R2 3 j 1 = R 3 j 1 := fun j => g 3 j 1 rfl
    obtain ⟨u1, u2, u3⟩ := d1 nj (Nat.le_refl _)
    obtain ⟨w1, w2, w3⟩ := d1 (od k) (by omega)
    have c1 := hjc nj (Nat.le_refl _)
    have c2 := hjc (od k) (by omega)
    have no : ¬ ahd jc pr nj (od k) → (k + 1 = 0 ∨ ¬ ahd jc pr nj (od (k + 1 - 1))) := fun z => Or.inr z
    have e1 : nI (jc nj) = nI (jc (od k)) ↔ jc nj = jc (od k) := nI_eq (by omega) (by omega)
    have e2 : nI (jc (od k)) ≤ nI (jc nj) ↔ jc (od k) ≤ jc nj := nI_leI (by omega) (by omega)
    have e3 : nI (od k) ≤ nI nj := (nI_leI (by omega) (by omega)).mpr (by omega)
    unfold wp_X4_comesAheadOf
    simp only [e0, nI_p1, nI_p2, fr_1 h, fr_8 h, fj_3 h (show nj < nj + 1 by omega), fj_3 h (show od k < nj + 1 by omega), fc_2 h c1, fc_2 h c2, hi_q h, hj_q h, si_q h, sj_q h, vv_5 h, vs_5 h, vv_7 h, vs_7 h, vv_8 h, vs_8 h, vv_9 h, vs_9 h, vv_11 h, vs_11 h, vv_17 h, vs_17 h, vv_18 h, vs_18 h, vj_3 h, vj_4 h, vj_5 h, ex_some, ex_def, all_def, true_and, and_true, Nat.reduceLT, r3, u1, u2, u3, w1, w2, w3, d0 _ c1, d0 _ c2, q1 k (by omega), nI_clamp (show k < 2 ^ 31 by omega), nI_clamp (show k + 1 < 2 ^ 31 by omega), vin (show k < 200 by omega) (show 200 < 2 ^ 31 by decide), vin (show k + 1 < 200 by omega) (show 200 < 2 ^ 31 by decide), e1, e2, e3, not_false_eq_true, true_implies, not_true_eq_false, false_implies, true_and, and_true, false_and, and_false, forall_const, imp_self, implies_true, if_true, if_false, eq_self, Bool.true_eq_false, Bool.false_eq_true, false_or, or_false, true_or, or_true, Option.some.injEq, exists_eq_left', show ¬ (1 : Int32) = 0 by decide]
    have stop : ¬ ahd jc pr nj (od k) → K (hq A B S I J R2) (nI (k + 1)) := fun z => hk R2 (k + 1) hkn g q1 q2 q3 (no z)
    have go : ahd jc pr nj (od k) → wp_X9_addJob_L46 (A 0 1) (A 3 nj) K Q fu (hq A B S I J (up3 R2 0 8 (k + 1) (some (A 3 (od k))))) (nI k) := fun z => by
      refine ih fu _ (by omega) (by omega) (g.up rfl) (fun t ht => ?_) (fun t t1 t2 => ?_) (fun s s1 s2 => ?_)
      · rw [up3_off (by omega)]; exact q1 t (by omega)
      · by_cases e : t = k + 1
        · subst e; rw [up3_same]; rfl
        · rw [up3_off (by omega)]; exact q2 t (by omega) t2
      · by_cases e : s = k
        · rw [e]; exact z
        · exact q3 s (by omega) s2
    refine ⟨fun z => ⟨fun y => ?_, fun y => ⟨fun x => ?_, fun x => ?_⟩⟩, fun z => ⟨fun y => ?_, fun y => ?_⟩⟩
    · refine stop (fun v => ?_)
      unfold ahd at v
      rcases v with v | ⟨-, v | ⟨-, v⟩⟩
      · omega
      · rw [y] at v; exact Int32.lt_irrefl v
      · omega
    · refine stop (fun v => ?_)
      unfold ahd at v
      rcases v with v | ⟨-, v | ⟨v, -⟩⟩
      · omega
      · exact absurd x (i_nle.mpr v)
      · exact y v
    · exact go (Or.inr ⟨z, Or.inl (i_nle.mp x)⟩)
    · exact stop (fun v => by unfold ahd at v; omega)
    · exact go (Or.inl (by omega))
theorem ahd_of {pr : Nat → Int32} {a b : Nat} (h : ¬ ahd jc pr a b) (hab : a ≠ b) : ahd jc pr b a := by
  unfold ahd at *
  by_cases z : jc b < jc a
  · exact Or.inl z
  · by_cases z2 : jc a < jc b
    · exact absurd (Or.inl z2) h
    · have e : jc a = jc b := by omega
      refine Or.inr ⟨e.symm, ?_⟩
      have h2 : ¬ (pr a < pr b ∨ pr a = pr b ∧ a < b) := fun w => h (Or.inr ⟨e, w⟩)
      by_cases z3 : pr b < pr a
      · exact Or.inl z3
      · by_cases z4 : pr a = pr b
        · exact Or.inr ⟨z4.symm, by
            by_cases z5 : a < b
            · exact absurd (Or.inr ⟨z4, z5⟩) h2
            · omega⟩
        · refine absurd (Or.inl ?_) h2
          rw [i_nlt] at z3
          rw [Int32.lt_iff_toInt_lt]
          rw [Int32.le_iff_toInt_le] at z3
          have : (pr a).toInt ≠ (pr b).toInt := fun w => z4 (Int32.toInt_inj.mp w)
          omega
theorem ahd_tr {pr : Nat → Int32} {a b c : Nat} (h : ahd jc pr a b) (h2 : ahd jc pr b c) : ahd jc pr a c := by
  unfold ahd at *
  simp only [Int32.lt_iff_toInt_lt, ← Int32.toInt_inj] at *
  omega
end JI
