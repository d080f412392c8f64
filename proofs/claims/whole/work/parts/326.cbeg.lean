section CB
variable {A : Nat → Nat → Nat} {B : Nat → Nat × Nat} {S : Hp} {nc nw nm nj : Nat} {cw jc : Nat → Nat} {I : FI} {J : FJ} {R : FR} {xs : Nat → Int32} {L : Nat} {l4 : Int32}
variable {E : FI} {J0 : FJ} {R0 : FR} {od : Nat → Nat} {s : Rs} {j x : Nat}
theorem p_there {Q : Int32 → Hp → Prop} (hr : rx A B S nc nw nm nj cw jc od E J0 R0 I J R) (hl : cLf E nj s J) (hn : nng E nj s) (hj : j < nj) (hQ1 : (∀ x, x < 60 → (E 1 13 (60 * j + x)).toInt64 ≤ lft E nj s x) → Q 1 (hq A B S I J R)) (hQ0 : (¬ ∀ x, x < 60 → (E 1 13 (60 * j + x)).toInt64 ≤ lft E nj s x) → Q 0 (hq A B S I J R)) : wp_X8_isThere (hq A B S I J R) (A 0 4) (some (A 8 j)) Q := by
  have h := hr.1
  obtain ⟨⟨n, st, e2, hF⟩, -⟩ := hr.st.2.2.2.2.2.2.2.2.1 j hj
  obtain ⟨f1, f2, f3, f4⟩ := hF
  have eE : ∀ y, I 1 13 (60 * j + y) = E 1 13 (60 * j + y) := fun y => hr.i rfl
  unfold wp_X8_isThere
  have key : ∀ (r k fu : Nat), k + r = n → r < fu → (∀ i, i < k → (E 1 13 (60 * j + st i)).toInt64 ≤ lft E nj s (st i)) → wp_X8_isThere_L2 (hq A B S I J R) (A 0 4) (some (A 8 j)) Q fu (nI k) := by
    intro r
    induction r with
    | zero =>
      intro k fu hk hf hy
      obtain ⟨fu, rfl⟩ : ∃ z, fu = z + 1 := ⟨fu - 1, by omega⟩
      have hkn : k = n := by omega
      subst hkn
      rw [wp_X8_isThere_L2]
      simp only [fj_8 h hj, hi_q h, hj_q h, si_q h, sj_q h, vv_5 h, vs_5 h, vv_7 h, vs_7 h, vv_8 h, vs_8 h, vv_9 h, vs_9 h, vv_11 h, vs_11 h, vv_17 h, vs_17 h, vv_18 h, vs_18 h, vj_3 h, vj_4 h, vj_5 h, ex_some, ex_def, all_def, true_and, and_true, Nat.reduceLT, exists_eq_left, Option.some.injEq, exists_eq_left', e2]
      refine ⟨fun _ => hQ1 (fun y hy60 => ?_), fun z => absurd (Int32.le_refl _) z⟩
      by_cases z : I 1 13 (60 * j + y) = 0
      · rw [eE] at z
        rw [z, Int64.le_iff_toInt_le]
        exact hn y hy60
      · obtain ⟨i, hi, e⟩ := f4 y hy60 z
        rw [← e]; exact hy i hi
    | succ r ih =>
      intro k fu hk hf hy
      obtain ⟨fu, rfl⟩ : ∃ z, fu = z + 1 := ⟨fu - 1, by omega⟩
      have hkn : k < n := by omega
      obtain ⟨g1, g2, g3, g4⟩ := f2 k hkn
      have g2 : I 9 j k = nI (st k) := g2
      have g3 : I 10 j k = E 1 13 (60 * j + st k) := g3.trans (eE _)
      have e0 : ¬ nI n ≤ nI k := by rw [nI_leI (by omega) (by omega)]; omega
      rw [wp_X8_isThere_L2]
      simp only [fr_4 h, fr_14 h, fj_8 h hj, fj_9 h hj, fj_10 h hj, hi_q h, hj_q h, si_q h, sj_q h, vv_5 h, vs_5 h, vv_7 h, vs_7 h, vv_8 h, vs_8 h, vv_9 h, vs_9 h, vv_11 h, vs_11 h, vv_17 h, vs_17 h, vv_18 h, vs_18 h, vj_3 h, vj_4 h, vj_5 h, ex_some, ex_def, all_def, true_and, and_true, Nat.reduceLT, exists_eq_left, Option.some.injEq, exists_eq_left', e2, e0, not_false_eq_true, true_implies, not_true_eq_false, false_implies, true_and, and_true, false_and, and_false, forall_const, imp_self, implies_true, if_true, if_false, eq_self, Bool.true_eq_false, Bool.false_eq_true, false_or, or_false, true_or, or_true, nI_clamp (show k < 2 ^ 31 by omega), vin (show k < 60 by omega) (show 60 < 2 ^ 31 by decide), g2, g3, nI_clamp (show st k < 2 ^ 31 by omega), vin g1 (show 60 < 2 ^ 31 by decide), ← nI_succ, hl (st k) g1]
      refine ⟨fun z => ih (k + 1) fu (by omega) (by omega) (fun i hi => ?_), fun z => hQ0 (fun w => z (w _ g1))⟩
      by_cases e : i = k
      · rw [e]; exact z
      · exact hy i (by omega)
  exact key n 0 FU (by omega) (by unfold FU; omega) (fun i hi => by omega)
theorem p_canB {Q : Int32 → Hp → Prop} (hr : rx A B S nc nw nm nj cw jc od E J0 R0 I J R) (hw : wf E nj nw cw jc s) (hn : nng E nj s) (hc : cN A E nc nj cw s I J R) (hj : j < nj) (h6 : oS s j ≠ 6) (hQ1 : can E nj cw jc s j → Q 1 (hq A B S I J R)) (hQ0 : ¬ can E nj cw jc s j → Q 0 (hq A B S I J R)) : wp_X8_canBegin (hq A B S I J R) (A 0 4) (some (A 3 j)) Q := by
  have h := hr.1
  have n4 : nj ≤ 200 := hr.2.1.1.2.2.2.1
  have n2 : nw ≤ 32 := hr.2.1.1.2.1
  obtain ⟨u1, u2, u3, u4, u5, u6, u7, u8, u9⟩ := hr.jo hj
  obtain ⟨q1, q2, q3, q4, q5, q6, q12, q13⟩ := hc
  obtain ⟨a1, a2, a3, a4, a5, a6, a7, a8⟩ := q1 j hj
  have cc : cw (jc j) ≤ 32 := by
    have := fwk_ge (cw := cw) nc u7
    have := hr.2.1.1.2.2.2.2.1
    omega
  have l0 := cntN_le (fun i => fre nj s (fwk cw (jc j) + i)) (cw (jc j))
  have l1 := cntN_le (fun b => E 1 10 (200 * j + b) == 1 && !(oS s b == 1)) nj
  have e0 : I 16 j 0 = 0 ↔ oS s j = 0 := by
    rw [a1]; unfold cS; rw [if_neg h6, nI_zero (by have := hw.1 j hj; omega)]
  have e1 : nI (cntN (cw (jc j)) (fun i => fre nj s (fwk cw (jc j) + i))) ≤ 0 ↔ ¬ hasW nj cw s (jc j) := by
    rw [show (0 : Int32) = nI 0 from rfl, nI_leI (by omega) (by decide), Nat.le_zero, cntN_0]
    constructor
    · rintro z ⟨i, hi, e⟩
      have := z i hi
      rw [this] at e; cases e
    · intro z i hi
      cases e : fre nj s (fwk cw (jc j) + i) with
      | false => rfl
      | true => exact absurd ⟨i, hi, e⟩ z
  have e2 : nI (wts E nj s j) = 0 ↔ ∀ k, k < nj → E 1 10 (200 * j + k) = 1 → oS s k = 1 := by
    rw [nI_zero (by unfold wts; omega)]
    unfold wts
    rw [cntN_0]
    constructor
    · intro z k hk e
      have := z k hk
      simp [e] at this
      exact this
    · intro z k hk
      by_cases e : E 1 10 (200 * j + k) = 1
      · simp [z k hk e]
      · rw [beq_eq_false_iff_ne.mpr e]; rfl
  have e3 : J 3 j 7 &&& J 0 4 17 = 0 ↔ ∀ m, m < 40 → E 1 12 (40 * j + m) = 1 → ¬ bsy E nj s m := by
    rw [jb_eq0]
    constructor
    · intro z m hm e b
      have := z m (by omega)
      rw [jb_and, (hr.nd hj (by omega)).mpr ⟨hm, e⟩, (q5 m (by omega)).mpr b] at this
      cases this
    · intro z m hm
      rw [jb_and]
      cases e : jb (J 3 j 7) m with
      | false => rfl
      | true =>
        obtain ⟨g1, g2⟩ := (hr.nd hj hm).mp e
        cases e' : jb (J 0 4 17) m with
        | false => rfl
        | true => exact absurd ((q5 m hm).mp e') (z m g1 g2)
  unfold wp_X8_canBegin
  simp only [fr_4 h, fj_3 h hj, fj_16 h hj, fc_2 h u7, hi_q h, hj_q h, si_q h, sj_q h, vv_5 h, vs_5 h, vv_7 h, vs_7 h, vv_8 h, vs_8 h, vv_9 h, vs_9 h, vv_11 h, vs_11 h, vv_17 h, vs_17 h, vv_18 h, vs_18 h, vj_3 h, vj_4 h, vj_5 h, ex_some, ex_def, all_def, true_and, and_true, Nat.reduceLT, exists_eq_left, Option.some.injEq, exists_eq_left', u3, e0, q4 _ u7, e1, a8, e2, e3]
  refine ⟨fun z0 => ⟨fun z1 => hQ0 (fun c => z1 c.2.1), fun z1 => ⟨fun z2 => ⟨fun z3 => ?_, fun z3 => hQ0 (fun c => z3 c.2.2.1)⟩, fun z2 => hQ0 (fun c => z2 c.1.2)⟩⟩, fun z0 => hQ0 (fun c => z0 c.1.1)⟩
  refine p_there hr q2 hn hj (fun z4 => ⟨fun w => absurd w (by decide), fun _ => hQ1 ⟨⟨z0, z2⟩, Classical.not_not.mp z1, z3, z4⟩⟩) (fun z4 => ⟨fun _ => hQ0 (fun c => z4 c.2.2.2), fun w => absurd rfl w⟩)
theorem p_lfw {Q : Int32 → Hp → Prop} {c : Nat} (hr : rx A B S nc nw nm nj cw jc od E J0 R0 I J R) (hc : cAw A nj s R) (hcn : c < nc) (hW : hasW nj cw s c) (hQ : ∀ w, lfw nj cw s c w → Q (nI w) (hq A B S I J R)) : wp_X8_leastFreeWorker (hq A B S I J R) (A 0 4) (some (A 2 c)) Q := by
  have h := hr.1
  have n2 : nw ≤ 32 := hr.2.1.1.2.1
  have cc : fwk cw c + cw c ≤ 32 := by
    have := fwk_ge (cw := cw) nc hcn
    have := hr.2.1.1.2.2.2.2.1
    omega
  obtain ⟨-, -, g1, g2, -⟩ := hr.st.2.2.1 c hcn
  unfold wp_X8_leastFreeWorker
  simp only [fc_2 h hcn, hi_q h, hj_q h, si_q h, sj_q h, vv_5 h, vs_5 h, vv_7 h, vs_7 h, vv_8 h, vs_8 h, vv_9 h, vs_9 h, vv_11 h, vs_11 h, vv_17 h, vs_17 h, vv_18 h, vs_18 h, vj_3 h, vj_4 h, vj_5 h, ex_some, ex_def, all_def, true_and, and_true, Nat.reduceLT, exists_eq_left, Option.some.injEq, exists_eq_left', g1, g2, nI_add]
  have key : ∀ (r k fu : Nat), k + r = cw c → r < fu → (∀ i, i < k → fre nj s (fwk cw c + i) = false) → wp_X8_leastFreeWorker_L15 (hq A B S I J R) (A 0 4) (nI (fwk cw c + cw c)) Q fu (nI (fwk cw c + k)) := by
    intro r
    induction r with
    | zero =>
      intro k fu hk hf hy
      obtain ⟨i, hi, e⟩ := hW
      rw [hy i (by omega)] at e; cases e
    | succ r ih =>
      intro k fu hk hf hy
      obtain ⟨fu, rfl⟩ : ∃ z, fu = z + 1 := ⟨fu - 1, by omega⟩
      have e0 : ¬ nI (fwk cw c + cw c) ≤ nI (fwk cw c + k) := by rw [nI_leI (by omega) (by omega)]; omega
      have e1 : ¬ (32 : Int32) ≤ nI (fwk cw c + k) := by rw [show (32 : Int32) = nI 32 from rfl, nI_leI (by decide) (by omega)]; omega
      rw [wp_X8_leastFreeWorker_L15]
      simp only [fr_4 h, fr_17 h, hi_q h, hj_q h, si_q h, sj_q h, vv_5 h, vs_5 h, vv_7 h, vs_7 h, vv_8 h, vs_8 h, vv_9 h, vs_9 h, vv_11 h, vs_11 h, vv_17 h, vs_17 h, vv_18 h, vs_18 h, vj_3 h, vj_4 h, vj_5 h, ex_some, ex_def, all_def, true_and, and_true, Nat.reduceLT, exists_eq_left, Option.some.injEq, exists_eq_left', e0, e1, not_false_eq_true, true_implies, not_true_eq_false, false_implies, true_and, and_true, false_and, and_false, forall_const, imp_self, implies_true, if_true, if_false, eq_self, Bool.true_eq_false, Bool.false_eq_true, false_or, or_false, true_or, or_true, nI_clamp (show fwk cw c + k < 2 ^ 31 by omega), vin (show fwk cw c + k < 32 by omega) (show 32 < 2 ^ 31 by decide), ← nI_succ]
      rcases hc (fwk cw c + k) (by omega) with ⟨y1, y2⟩ | ⟨i, y1, y2, y3, y4⟩
      · exact ⟨fun _ => hQ _ ⟨k, by omega, rfl, y2, hy⟩, fun z => absurd y1 z⟩
      · refine ⟨fun z => (by rw [y4] at z; cases z), fun _ => ih (k + 1) fu (by omega) (by omega) (fun i' hi' => ?_)⟩
        by_cases e : i' = k
        · rw [e]
          cases z : fre nj s (fwk cw c + k) with
          | false => rfl
          | true => exact absurd y3 (fre_t.mp z i y1 y2)
        · exact hy i' (by omega)
  have := key (cw c) 0 FU (by omega) (by unfold FU; omega) (fun i hi => by omega)
  simpa using this
theorem p_take {Q : Hp → Prop} (hr : rx A B S nc nw nm nj cw jc od E J0 R0 I J R) (hj : j < nj) (hQ : Q (hq A B S (fun c i p => if c = 0 ∧ i = 16 ∧ p < nm ∧ E 1 12 (40 * j + p) = 1 then nI j else I c i p) (up3 J 0 4 17 (J 0 4 17 ||| J 3 j 7)) R)) : wp_X8_takeMachines (hq A B S I J R) (A 0 4) (some (A 3 j)) Q := by
  have h := hr.1
  have n3 : nm ≤ 40 := hr.2.1.1.2.2.1
  have c3 : I 0 1 3 = nI nm := hr.st.2.1.2.2.1
  have u2 := (hr.jo hj).2.1
  unfold wp_X8_takeMachines
  simp only [fr_4 h, fj_3 h hj, hi_q h, hj_q h, si_q h, sj_q h, vv_5 h, vs_5 h, vv_7 h, vs_7 h, vv_8 h, vs_8 h, vv_9 h, vs_9 h, vv_11 h, vs_11 h, vv_17 h, vs_17 h, vv_18 h, vs_18 h, vj_3 h, vj_4 h, vj_5 h, ex_some, ex_def, all_def, true_and, and_true, Nat.reduceLT, exists_eq_left, Option.some.injEq, exists_eq_left']
  have key : ∀ (r k fu : Nat), k + r = nm → r < fu → wp_X8_takeMachines_L15 (A 0 4) (A 3 j) Q fu (hq A B S (fun c i p => if c = 0 ∧ i = 16 ∧ p < k ∧ E 1 12 (40 * j + p) = 1 then nI j else I c i p) (up3 J 0 4 17 (J 0 4 17 ||| J 3 j 7)) R) (nI k) := by
    intro r
    induction r with
    | zero =>
      intro k fu hk hf
      obtain ⟨fu, rfl⟩ : ∃ z, fu = z + 1 := ⟨fu - 1, by omega⟩
      have hkn : k = nm := by omega
      subst hkn
      rw [wp_X8_takeMachines_L15]
      generalize eI : (fun c i p => if c = 0 ∧ i = 16 ∧ p < k ∧ E 1 12 (40 * j + p) = 1 then nI j else I c i p) = I2 at hQ ⊢
      have c3' : I2 0 1 3 = nI k := by rw [← eI]; exact c3
      simp only [fr_4 h, fr_1 h, hi_q h, hj_q h, si_q h, sj_q h, vv_5 h, vs_5 h, vv_7 h, vs_7 h, vv_8 h, vs_8 h, vv_9 h, vs_9 h, vv_11 h, vs_11 h, vv_17 h, vs_17 h, vv_18 h, vs_18 h, vj_3 h, vj_4 h, vj_5 h, ex_some, ex_def, all_def, true_and, and_true, Nat.reduceLT, exists_eq_left, Option.some.injEq, exists_eq_left', c3']
      exact ⟨fun _ => hQ, fun z => absurd (Int32.le_refl _) z⟩
    | succ r ih =>
      intro k fu hk hf
      obtain ⟨fu, rfl⟩ : ∃ z, fu = z + 1 := ⟨fu - 1, by omega⟩
      have hkn : k < nm := by omega
      have e0 : ¬ nI nm ≤ nI k := by rw [nI_leI (by omega) (by omega)]; omega
      generalize eI : (fun c i p => if c = 0 ∧ i = 16 ∧ p < k ∧ E 1 12 (40 * j + p) = 1 then nI j else I c i p) = I2
      have c3' : I2 0 1 3 = nI nm := by rw [← eI]; exact c3
      have u2' : I2 3 j 0 = nI j := by rw [← eI]; exact u2
      have j7 : up3 J 0 4 17 (J 0 4 17 ||| J 3 j 7) 3 j 7 = J 3 j 7 := rfl
      rw [wp_X8_takeMachines_L15]
      simp only [fr_4 h, fr_1 h, fr_16 h, fj_3 h hj, hi_q h, hj_q h, si_q h, sj_q h, vv_5 h, vs_5 h, vv_7 h, vs_7 h, vv_8 h, vs_8 h, vv_9 h, vs_9 h, vv_11 h, vs_11 h, vv_17 h, vs_17 h, vv_18 h, vs_18 h, vj_3 h, vj_4 h, vj_5 h, ex_some, ex_def, all_def, true_and, and_true, Nat.reduceLT, exists_eq_left, Option.some.injEq, exists_eq_left', c3', u2', e0, not_false_eq_true, true_implies, not_true_eq_false, false_implies, true_and, and_true, false_and, and_false, forall_const, imp_self, implies_true, if_true, if_false, eq_self, Bool.true_eq_false, Bool.false_eq_true, false_or, or_false, true_or, or_true, j7, sh_bit (show k < 64 by omega), nI_clamp (show k < 2 ^ 31 by omega), vin (show k < 40 by omega) (show 40 < 2 ^ 31 by decide), ← nI_succ]
      refine ⟨fun z => ?_, fun z => ⟨fun z2 => ?_, fun z2 => ?_⟩⟩
      · have e : ∀ m, ¬ (m < nm ∧ E 1 12 (40 * j + m) = 1) := fun m ⟨a, b⟩ => by
          have := (hr.nd hj (m := m) (by omega)).mpr ⟨by omega, b⟩
          rw [z, jb_0] at this; cases this
        have eq : ∀ t, t ≤ nm → (fun c i p => if c = 0 ∧ i = 16 ∧ p < t ∧ E 1 12 (40 * j + p) = 1 then nI j else I c i p) = I := fun t ht => by
          funext c i p
          rw [if_neg (fun w => e p ⟨by omega, w.2.2.2⟩)]
        rw [eq nm (by omega)] at hQ
        rw [← eI, eq k (by omega)]; exact hQ
      · have e : ¬ E 1 12 (40 * j + k) = 1 := fun w => by
          rw [(hr.nd hj (m := k) (by omega)).mpr ⟨by omega, w⟩] at z2; cases z2
        have eq : (fun c i p => if c = 0 ∧ i = 16 ∧ p < k + 1 ∧ E 1 12 (40 * j + p) = 1 then nI j else I c i p) = (fun c i p => if c = 0 ∧ i = 16 ∧ p < k ∧ E 1 12 (40 * j + p) = 1 then nI j else I c i p) := by
          funext c i p
          have : (c = 0 ∧ i = 16 ∧ p < k + 1 ∧ E 1 12 (40 * j + p) = 1) ↔ (c = 0 ∧ i = 16 ∧ p < k ∧ E 1 12 (40 * j + p) = 1) := ⟨fun ⟨a, b, c, d⟩ => ⟨a, b, by
            have : p ≠ k := fun q => e (by rw [← q]; exact d)
            omega, d⟩, fun ⟨a, b, c, d⟩ => ⟨a, b, by omega, d⟩⟩
          simp only [this]
        have := ih (k + 1) fu (by omega) (by omega)
        rw [eq, eI] at this; exact this
      · have e : E 1 12 (40 * j + k) = 1 := by
          have : jb (J 3 j 7) k = true := by simpa using z2
          exact ((hr.nd hj (m := k) (by omega)).mp this).2
        have eq : (fun c i p => if c = 0 ∧ i = 16 ∧ p < k + 1 ∧ E 1 12 (40 * j + p) = 1 then nI j else I c i p) = up3 (fun c i p => if c = 0 ∧ i = 16 ∧ p < k ∧ E 1 12 (40 * j + p) = 1 then nI j else I c i p) 0 16 k (nI j) := by
          funext c i p
          unfold up3
          by_cases q : c = 0 ∧ i = 16 ∧ p = k
          · obtain ⟨rfl, rfl, rfl⟩ := q
            simp [e]
          · rw [if_neg q]
            have : (c = 0 ∧ i = 16 ∧ p < k + 1 ∧ E 1 12 (40 * j + p) = 1) ↔ (c = 0 ∧ i = 16 ∧ p < k ∧ E 1 12 (40 * j + p) = 1) := ⟨fun ⟨a, b, c, d⟩ => ⟨a, b, by
              have : p ≠ k := fun q' => q ⟨a, b, q'⟩
              omega, d⟩, fun ⟨a, b, c, d⟩ => ⟨a, b, by omega, d⟩⟩
            simp only [this]
        have := ih (k + 1) fu (by omega) (by omega)
        rw [eq, eI] at this; exact this
  have := key nm 0 FU (by omega) (by unfold FU; omega)
  have eq : (fun c i p => if c = 0 ∧ i = 16 ∧ p < 0 ∧ E 1 12 (40 * j + p) = 1 then nI j else I c i p) = I := by
    funext c i p
    rw [if_neg (by omega)]
  rw [eq] at this
  exact this
end CB
