section AT
variable {A : Nat → Nat → Nat} {B : Nat → Nat × Nat} {S : Hp} {nc nw nm nj : Nat} {cw jc : Nat → Nat} {I : FI} {J : FJ} {R : FR} {xs : Nat → Int32} {L : Nat} {l4 : Int32}
theorem p_idb {Q : Int32 → Hp → Prop} {j b : Nat} {bn : Nat → Nat} {bl : Nat → Nat → Nat} (h : Sh A B S nj nc) (hl : lsA A S I R 4 17 nj bn bl) (hj : j < nj) (h1 : (∃ i, i < bn j ∧ bl j i = b) → Q 1 (hq A B S I J R)) (h0 : (¬ ∃ i, i < bn j ∧ bl j i = b) → Q 0 (hq A B S I J R)) : ∀ (r k m : Nat), k + r = bn j → r < m → (∀ i, i < k → bl j i ≠ b) → wp_X4_isDirectlyBehind_L2 (A 3 j) (some (A 3 b)) Q m (hq A B S I J R) (nI k) := by
  obtain ⟨dd, ial, -⟩ := al_q (J := J) h (Or.inl ⟨rfl, rfl⟩) hl hj
  have hb200 := (hl j hj).2.1
  intro r
  induction r with
  | zero =>
    intro k m e hr hz
    obtain ⟨m, rfl⟩ : ∃ q, m = q + 1 := ⟨m - 1, by omega⟩
    obtain rfl : k = bn j := by omega
    rw [wp_X4_isDirectlyBehind_L2]
    simp only [fj_3 h hj, fj_4 h hj, hi_q h, hj_q h, si_q h, sj_q h, vv_5 h, vs_5 h, vv_7 h, vs_7 h, vv_8 h, vs_8 h, vv_9 h, vs_9 h, vv_11 h, vs_11 h, vv_17 h, vs_17 h, vv_18 h, vs_18 h, vj_3 h, vj_4 h, vj_5 h, ex_some, ex_def, all_def, true_and, and_true, Nat.reduceLT]
    refine p_lsize ial ⟨fun _ => h0 (fun ⟨i, a1, a2⟩ => hz i a1 a2), fun z => absurd (nI_le (Nat.le_refl _) (by omega)) z⟩
  | succ r ih =>
    intro k m e hr hz
    obtain ⟨m, rfl⟩ : ∃ q, m = q + 1 := ⟨m - 1, by omega⟩
    rw [wp_X4_isDirectlyBehind_L2]
    simp only [fj_3 h hj, fj_4 h hj, hi_q h, hj_q h, si_q h, sj_q h, vv_5 h, vs_5 h, vv_7 h, vs_7 h, vv_8 h, vs_8 h, vv_9 h, vs_9 h, vv_11 h, vs_11 h, vv_17 h, vs_17 h, vv_18 h, vs_18 h, vj_3 h, vj_4 h, vj_5 h, ex_some, ex_def, all_def, true_and, and_true, Nat.reduceLT]
    refine p_lsize ial ⟨fun z => absurd z (nI_ge (by omega) (by omega)), fun _ => ?_⟩
    simp only [fj_3 h hj, fj_4 h hj, hi_q h, hj_q h, si_q h, sj_q h, vv_5 h, vs_5 h, vv_7 h, vs_7 h, vv_8 h, vs_8 h, vv_9 h, vs_9 h, vv_11 h, vs_11 h, vv_17 h, vs_17 h, vv_18 h, vs_18 h, vj_3 h, vj_4 h, vj_5 h, ex_some, ex_def, all_def, true_and, and_true, Nat.reduceLT]
    refine p_lget ial (show k < bn j by omega) ?_
    simp only [Option.some.injEq, h.1.iff (show 3 < 20 by decide) (show 3 < 20 by decide), true_and]
    refine ⟨fun z => h1 ⟨k, by omega, z⟩, fun z => ?_⟩
    rw [show nI k + 1 = nI (k + 1) from (nI_succ k).symm]
    refine ih (k + 1) m (by omega) (by omega) (fun i hi => ?_)
    by_cases q : i = k
    · rw [q]; exact z
    · exact hz i (by omega)
/-- the class's closure: row by row -/
theorem p_join {Q : Hp → Prop} {j b : Nat} {J0 : FJ} (h : Sh A B S nj nc) (n4 : nj ≤ 200) (k4 : I 0 1 7 = nI nj) (hR7 : ∀ i, i < nj → R 0 7 i = some (A 3 i)) (hnum : ∀ i, i < nj → I 3 i 0 = nI i) (hj : j < nj) (hb : b < nj) (hne : b ≠ j) (hbj : jb (J0 7 b (j / 64)) (j % 64) = false) (hk : ∀ J', (∀ c i p, c ≠ 7 → J' c i p = J0 c i p) → (∀ x y, x < nj → y < 256 → jb (J' 7 x (y / 64)) (y % 64) = (jb (J0 7 x (y / 64)) (y % 64) || ((decide (x = j) || jb (J0 7 x (j / 64)) (j % 64)) && (decide (y = b) || jb (J0 7 b (y / 64)) (y % 64))))) → Q (hq A B S I J' R)) :
    ∀ (r k m : Nat) (J' : FJ), k + r = nj → r < m → (∀ c i p, c ≠ 7 → J' c i p = J0 c i p) → (∀ x y, x < nj → y < 256 → jb (J' 7 x (y / 64)) (y % 64) = (jb (J0 7 x (y / 64)) (y % 64) || (decide (x < k) && ((decide (x = j) || jb (J0 7 x (j / 64)) (j % 64)) && (decide (y = b) || jb (J0 7 b (y / 64)) (y % 64)))))) → wp_X9_join_L20 (A 0 1) (A 3 j) (A 3 b) Q m (hq A B S I J' R) (nI k) := by
  intro r
  induction r with
  | zero =>
    intro k m J' e hr a1 a2
    obtain ⟨m, rfl⟩ : ∃ q, m = q + 1 := ⟨m - 1, by omega⟩
    obtain rfl : k = nj := by omega
    rw [wp_X9_join_L20]
    simp only [fr_1 h, hi_q h, hj_q h, si_q h, sj_q h, vv_5 h, vs_5 h, vv_7 h, vs_7 h, vv_8 h, vs_8 h, vv_9 h, vs_9 h, vv_11 h, vs_11 h, vv_17 h, vs_17 h, vv_18 h, vs_18 h, vj_3 h, vj_4 h, vj_5 h, ex_some, ex_def, all_def, true_and, and_true, Nat.reduceLT, k4]
    refine ⟨fun _ => hk J' a1 (fun x y hx hy => ?_), fun z => absurd (nI_le (Nat.le_refl _) (by omega)) z⟩
    rw [a2 x y hx hy, decide_eq_true hx, Bool.true_and]
  | succ r ih =>
    intro k m J' e hr a1 a2
    obtain ⟨m, rfl⟩ : ∃ q, m = q + 1 := ⟨m - 1, by omega⟩
    have hkn : k < nj := by omega
    rw [wp_X9_join_L20]
    simp only [fr_1 h, fr_7 h, fj_3 h hkn, fj_3 h hj, fj_3 h hb, fj_6 h hkn, hi_q h, hj_q h, si_q h, sj_q h, vv_5 h, vs_5 h, vv_7 h, vs_7 h, vv_8 h, vs_8 h, vv_9 h, vs_9 h, vv_11 h, vs_11 h, vv_17 h, vs_17 h, vv_18 h, vs_18 h, vj_3 h, vj_4 h, vj_5 h, ex_some, ex_def, all_def, true_and, and_true, Nat.reduceLT, k4, nI_clamp (show k < 2 ^ 31 by omega), hR7 k hkn, hnum j hj, hnum b hb, vin (show k < 200 by omega) (show 200 < 2 ^ 31 by decide), nI_ge hkn (show nj < 2 ^ 31 by omega), not_false_eq_true, true_implies, not_true_eq_false, false_implies, true_and, and_true, false_and, and_false, forall_const, imp_self, implies_true, if_true, if_false, eq_self, Bool.true_eq_false, Bool.false_eq_true, false_or, or_false, true_or, or_true]
    have hkj : jb (J' 7 k (j / 64)) (j % 64) = jb (J0 7 k (j / 64)) (j % 64) := by
      rw [a2 k j hkn (by omega), decide_eq_false (Nat.lt_irrefl k), Bool.false_and, Bool.or_false]
    have hyes : (decide (k = j) || jb (J0 7 k (j / 64)) (j % 64)) = true → wp_X5_add (hq A B S I J' R) (A 6 k) (nI b) (fun S34 => hK S34 (A 3 k) = 6 ∧ hK S34 (A 3 b) = 6 ∧ ∃ b37 : Nat, hR S34 (A 3 k) 6 = some b37 ∧ hK S34 b37 = 7 ∧ wp_X5_addAll S34 b37 (hR S34 (A 3 b) 6) (fun S39 => wp_X9_join_L20 (A 0 1) (A 3 j) (A 3 b) Q m S39 (nI k + 1))) := fun hy => by
      have hkb : k ≠ b := fun z => by
        rw [z, hbj, decide_eq_false hne] at hy; cases hy
      refine p_add2 (js_j h hkn) (by omega) (fun f hf => ?_)
      simp only [sWJ_hq h.1 (show 7 < 20 by decide), fj_3 h hkn, fj_3 h hb, fj_6 h hkn, hi_q h, hj_q h, si_q h, sj_q h, vv_5 h, vs_5 h, vv_7 h, vs_7 h, vv_8 h, vs_8 h, vv_9 h, vs_9 h, vv_11 h, vs_11 h, vv_17 h, vs_17 h, vv_18 h, vs_18 h, vj_3 h, vj_4 h, vj_5 h, ex_some, ex_def, all_def, true_and, and_true, Nat.reduceLT]
      refine p_addAll2 (js_j h hkn) (js_j h hb) (fun f2 hf2 => ?_)
      simp only [sWJ_hq h.1 (show 7 < 20 by decide)]
      rw [show nI k + 1 = nI (k + 1) from (nI_succ k).symm]
      refine ih (k + 1) m _ (by omega) (by omega) (fun c i p hc => ?_) (fun x y hx hy2 => ?_)
      · simp only [upR, hc, false_and, if_false]; exact a1 c i p hc
      · by_cases q : x = k
        · subst q
          have t1 := hf2 y hy2
          simp only [js_hq h (show 7 < 20 by decide)] at t1
          simp only [upR, true_and, and_self, if_true, Ne.symm hkb, if_false] at t1 ⊢
          rw [t1, hf y, js_hq h (show 7 < 20 by decide), a2 x y hx hy2, a2 b y hb hy2, hy, decide_eq_true (Nat.lt_succ_self x), decide_eq_false (Nat.lt_irrefl x), decide_eq_false hne, hbj]
          simp only [Bool.false_and, Bool.or_false, Bool.true_and, Bool.and_false, Bool.or_assoc]
        · simp only [upR, q, and_false, if_false]
          rw [a2 x y hx hy2]
          have : decide (x < k + 1) = decide (x < k) := decide_eq_decide.mpr (by omega)
          rw [this]
    have hno : (decide (k = j) || jb (J0 7 k (j / 64)) (j % 64)) = false → wp_X9_join_L20 (A 0 1) (A 3 j) (A 3 b) Q m (hq A B S I J' R) (nI k + 1) := fun hy => by
      rw [show nI k + 1 = nI (k + 1) from (nI_succ k).symm]
      refine ih (k + 1) m J' (by omega) (by omega) a1 (fun x y hx hy2 => ?_)
      rw [a2 x y hx hy2]
      by_cases q : x = k
      · subst q; rw [hy, Bool.false_and, Bool.and_false, Bool.and_false]
      · have : decide (x < k + 1) = decide (x < k) := decide_eq_decide.mpr (by omega)
        rw [this]
    simp only [Option.some.injEq, h.1.iff (show 3 < 20 by decide) (show 3 < 20 by decide), true_and]
    refine ⟨fun z => hyes (by rw [decide_eq_true z, Bool.true_or]), fun z => p_has (js_j h hkn) (by omega) ?_⟩
    rw [js_hq h (by decide), hkj]
    cases hb2 : jb (J0 7 k (j / 64)) (j % 64) with
    | true =>
      rw [if_pos rfl]
      refine ⟨fun w => absurd w (by decide), fun _ => ?_⟩
      simp only [fj_3 h hkn, fj_3 h hb, fj_6 h hkn, hi_q h, hj_q h, si_q h, sj_q h, vv_5 h, vs_5 h, vv_7 h, vs_7 h, vv_8 h, vs_8 h, vv_9 h, vs_9 h, vv_11 h, vs_11 h, vv_17 h, vs_17 h, vv_18 h, vs_18 h, vj_3 h, vj_4 h, vj_5 h, ex_some, ex_def, all_def, true_and, and_true, Nat.reduceLT, hnum b hb]
      exact hyes (by rw [hb2, Bool.or_true])
    | false =>
      rw [if_neg (by decide)]
      exact ⟨fun _ => hno (by rw [hb2, decide_eq_false z]; rfl), fun w => absurd rfl w⟩
end AT
