section CP
variable {A : Nat → Nat → Nat} {B : Nat → Nat × Nat} {S : Hp} {nc nw nm nj : Nat} {cw jc : Nat → Nat} {I : FI} {J : FJ} {R : FR} {xs : Nat → Int32} {L : Nat} {l4 : Int32}
def clC (I : FI) (k : Nat) : FI := fun c i p => if c = 3 ∧ i < k ∧ (p = 11 ∨ p = 12) ∧ 0 < I 3 i 11 then 0 else I c i p
def clM (I : FI) (k : Nat) : FI := fun c i p => if c = 1 ∧ i = 20 ∧ p < k then 0 else I c i p
theorem p_cclr {Q : Int32 → Hp → Prop} (h : Sh A B S nj nc) (n4 : nj ≤ 200) (k4 : I 0 1 7 = nI nj) (hR7 : ∀ j, j < nj → R 0 7 j = some (A 3 j)) : ∀ (r k n : Nat), k + r = nj → r < n → Q (cntI nj (fun j => decide (0 < I 3 j 11))) (hq A B S (clC I nj) J R) → wp_X11_clearPlan_L12 (A 0 0) Q n (hq A B S (clC I k) J R) (cntI k (fun j => decide (0 < I 3 j 11))) (nI k) := by
  have k4' : ∀ k, clC I k 0 1 7 = nI nj := fun k => by simp [clC, k4]
  intro r
  induction r with
  | zero =>
    intro k n e hr hq
    obtain ⟨n, rfl⟩ : ∃ m, n = m + 1 := ⟨n - 1, by omega⟩
    obtain rfl : k = nj := by omega
    rw [wp_X11_clearPlan_L12]
    simp only [fr_0 h, fr_1 h, hi_q h, hj_q h, si_q h, sj_q h, vv_5 h, vs_5 h, vv_7 h, vs_7 h, vv_8 h, vs_8 h, vv_9 h, vs_9 h, vv_11 h, vs_11 h, vv_17 h, vs_17 h, vv_18 h, vs_18 h, vj_3 h, vj_4 h, vj_5 h, ex_some, ex_def, all_def, true_and, and_true, Nat.reduceLT, k4']
    exact ⟨fun _ => hq, fun z => absurd (nI_le (Nat.le_refl _) (by omega)) z⟩
  | succ r ih =>
    intro k n e hr hq
    obtain ⟨n, rfl⟩ : ∃ m, n = m + 1 := ⟨n - 1, by omega⟩
    have hkn : k < nj := by omega
    have w := ih (k + 1) n (by omega) (by omega) hq
    rw [cntI] at w
    have e11 : clC I k 3 k 11 = I 3 k 11 := by simp [clC]
    rw [wp_X11_clearPlan_L12]
    simp only [wp_X4_hasPlan, fr_0 h, fr_1 h, fr_7 h, fj_3 h hkn, hi_q h, hj_q h, si_q h, sj_q h, vv_5 h, vs_5 h, vv_7 h, vs_7 h, vv_8 h, vs_8 h, vv_9 h, vs_9 h, vv_11 h, vs_11 h, vv_17 h, vs_17 h, vv_18 h, vs_18 h, vj_3 h, vj_4 h, vj_5 h, ex_some, ex_def, all_def, true_and, and_true, Nat.reduceLT, k4', nI_clamp (show k < 2 ^ 31 by omega), hR7 k hkn, e11, vin (show k < 200 by omega) (show 200 < 2 ^ 31 by decide), nI_ge hkn (show nj < 2 ^ 31 by omega), show ¬ ((1 : Int32) = 0) by decide, not_false_eq_true, true_implies, not_true_eq_false, false_implies, true_and, and_true, false_and, and_false, forall_const, imp_self, implies_true, if_true, if_false, eq_self, Bool.true_eq_false, Bool.false_eq_true, false_or, or_false, true_or, or_true]
    rw [show nI k + 1 = nI (k + 1) from (nI_succ k).symm]
    refine ⟨fun z => ?_, fun z => ?_⟩
    · have z2 : ¬ 0 < I 3 k 11 := by rw [i_nlt]; exact z
      rw [if_neg (by rw [decide_eq_false z2]; decide)] at w
      have e2 : clC I k = clC I (k + 1) := by
        funext c i p
        unfold clC
        by_cases e : i = k
        · subst e; simp [z2]
        · have : i < k + 1 ↔ i < k := by omega
          simp only [this]
      rw [e2]; exact w
    · have z2 : 0 < I 3 k 11 := i_nle.mp z
      rw [if_pos (decide_eq_true z2)] at w
      have e2 : up3 (up3 (clC I k) 3 k 11 0) 3 k 12 0 = clC I (k + 1) := by
        funext c i p
        unfold up3 clC
        by_cases e : c = 3 ∧ i = k
        · obtain ⟨rfl, rfl⟩ := e
          by_cases e1 : p = 11
          · simp [e1, z2]
          · by_cases e3 : p = 12 <;> simp [e1, e3, z2]
        · have a1 : ¬ (c = 3 ∧ i = k ∧ p = 12) := fun w => e ⟨w.1, w.2.1⟩
          have a2 : ¬ (c = 3 ∧ i = k ∧ p = 11) := fun w => e ⟨w.1, w.2.1⟩
          by_cases e4 : c = 3
          · have : i < k + 1 ↔ i < k := by
              have : ¬ i = k := fun q => e ⟨e4, q⟩
              omega
            simp only [a1, a2, if_false, this]
          · simp [e4]
      rw [e2]; exact w
theorem p_mclr {Q : Int32 → Hp → Prop} (h : Sh A B S nj nc) (n4 : nj ≤ 200) (k8 : I 0 23 4 = nI nj) : ∀ (r k n : Nat), k + r = nj → r < n → Q (cntI nj (fun j => decide (0 < I 1 20 j))) (hq A B S (up3 (clM I nj) 0 23 22 0) J R) → wp_X12_clearPlan_L9 (A 0 23) Q n (hq A B S (clM I k) J R) (cntI k (fun j => decide (0 < I 1 20 j))) (nI k) := by
  have k8' : ∀ k, clM I k 0 23 4 = nI nj := fun k => by simp [clM, k8]
  intro r
  induction r with
  | zero =>
    intro k n e hr hq
    obtain ⟨n, rfl⟩ : ∃ m, n = m + 1 := ⟨n - 1, by omega⟩
    obtain rfl : k = nj := by omega
    rw [wp_X12_clearPlan_L9, wp_X12_done]
    simp only [fr_23 h, hi_q h, hj_q h, si_q h, sj_q h, vv_5 h, vs_5 h, vv_7 h, vs_7 h, vv_8 h, vs_8 h, vv_9 h, vs_9 h, vv_11 h, vs_11 h, vv_17 h, vs_17 h, vv_18 h, vs_18 h, vj_3 h, vj_4 h, vj_5 h, ex_some, ex_def, all_def, true_and, and_true, Nat.reduceLT, k8']
    exact ⟨fun _ => hq, fun z => absurd (nI_le (Nat.le_refl _) (by omega)) z⟩
  | succ r ih =>
    intro k n e hr hq
    obtain ⟨n, rfl⟩ : ∃ m, n = m + 1 := ⟨n - 1, by omega⟩
    have hkn : k < nj := by omega
    have w := ih (k + 1) n (by omega) (by omega) hq
    rw [cntI] at w
    have e20 : clM I k 1 20 k = I 1 20 k := by simp [clM]
    have e2 : up3 (clM I k) 1 20 k 0 = clM I (k + 1) := by
      funext c i p
      unfold up3 clM
      by_cases e : c = 1 ∧ i = 20
      · obtain ⟨rfl, rfl⟩ := e
        by_cases e1 : p = k
        · simp [e1]
        · have : p < k + 1 ↔ p < k := by omega
          simp [e1, this]
      · have a1 : ¬ (c = 1 ∧ i = 20 ∧ p = k) := fun w => e ⟨w.1, w.2.1⟩
        have a2 : ¬ (c = 1 ∧ i = 20 ∧ p < k) := fun w => e ⟨w.1, w.2.1⟩
        have a3 : ¬ (c = 1 ∧ i = 20 ∧ p < k + 1) := fun w => e ⟨w.1, w.2.1⟩
        simp only [a1, a2, a3, if_false]
    rw [wp_X12_clearPlan_L9]
    simp only [fr_23 h, fm_20 h, hi_q h, hj_q h, si_q h, sj_q h, vv_5 h, vs_5 h, vv_7 h, vs_7 h, vv_8 h, vs_8 h, vv_9 h, vs_9 h, vv_11 h, vs_11 h, vv_17 h, vs_17 h, vv_18 h, vs_18 h, vj_3 h, vj_4 h, vj_5 h, ex_some, ex_def, all_def, true_and, and_true, Nat.reduceLT, k8', nI_clamp (show k < 2 ^ 31 by omega), e20, e2, vin (show k < 200 by omega) (show 200 < 2 ^ 31 by decide), nI_ge hkn (show nj < 2 ^ 31 by omega), not_false_eq_true, true_implies, not_true_eq_false, false_implies, true_and, and_true, false_and, and_false, forall_const, imp_self, implies_true, if_true, if_false, eq_self, Bool.true_eq_false, Bool.false_eq_true, false_or, or_false, true_or, or_true]
    rw [show nI k + 1 = nI (k + 1) from (nI_succ k).symm]
    refine ⟨fun z => ?_, fun z => ?_⟩
    · have z2 : ¬ 0 < I 1 20 k := by rw [i_nlt]; exact z
      rw [if_neg (by rw [decide_eq_false z2]; decide)] at w
      rw [Int32.add_zero]; exact w
    · have z2 : 0 < I 1 20 k := i_nle.mp z
      rw [if_pos (decide_eq_true z2)] at w
      exact w
theorem law12 (hv : iv A B S nc nw nm nj cw jc I J R) : wp_law_c12 (hq A B S I J R) (A 0 0) (A 0 23) (A 0 24) xs L l4 (Iv (A 0 0) (A 0 23) (A 0 24)) := by
  have h := hv.1
  have hT := iv_t hv 0
  obtain ⟨n1, n2, n3, n4, n5, n6⟩ := hv.2.1.1
  obtain ⟨k1, k2, k3, k4, k5, k6, k7, k8⟩ := hv.2.1.2.1
  unfold wp_law_c12 wp_X11_clearPlan wp_X12_clearPlan
  simp only [fr_0 h, fr_4 h, hi_q h, hj_q h, si_q h, sj_q h, vv_5 h, vs_5 h, vv_7 h, vs_7 h, vv_8 h, vs_8 h, vv_9 h, vs_9 h, vv_11 h, vs_11 h, vv_17 h, vs_17 h, vv_18 h, vs_18 h, vj_3 h, vj_4 h, vj_5 h, ex_some, ex_def, all_def, true_and, and_true, Nat.reduceLT]
  refine p_emp hv (fun I' J' R' f g hs hp => ?_)
  obtain ⟨h0, h1, h2, h3, h4, h5, h6, h7, h8, h9, h10, h11, h12, h13⟩ := hs; obtain ⟨c1, c2, c3, c4, c5, c6, c7, c8⟩ := id h1
  have z0 : clC I' 0 = I' := by funext c i p; simp [clC]
  have w := p_cclr (Q := fun r139 S138 => hK S138 (A 0 23) = 14 ∧ (hK S138 (A 0 23) = 14 ∧ wp_X12_clearPlan_L9 (A 0 23) (fun r142 S141 => (r139 = r142 → Iv (A 0 0) (A 0 23) (A 0 24) S141) ∧ (¬ (r139 = r142) → False)) FU (sI S138 (A 0 23) 0 0) 0 0)) (I := I') (J := J') (R := R') h n4 c4 (fun j hj => (h3 j hj).1) nj 0 FU (by omega) (fu_pos (by omega)) ?_
  · rw [z0] at w; exact w
  · simp only [fr_23 h, hi_q h, hj_q h, si_q h, sj_q h, vv_5 h, vs_5 h, vv_7 h, vs_7 h, vv_8 h, vs_8 h, vv_9 h, vs_9 h, vv_11 h, vs_11 h, vv_17 h, vs_17 h, vv_18 h, vs_18 h, vj_3 h, vj_4 h, vj_5 h, ex_some, ex_def, all_def, true_and, and_true, Nat.reduceLT]
    have z1 : ∀ M : FI, clM M 0 = M := fun M => by funext c i p; simp [clM]
    have w := p_mclr (Q := fun r142 S141 => (cntI nj (fun j => decide (0 < I' 3 j 11)) = r142 → Iv (A 0 0) (A 0 23) (A 0 24) S141) ∧ (¬ (cntI nj (fun j => decide (0 < I' 3 j 11)) = r142) → False)) (I := up3 (clC I' nj) 0 23 0 0) (J := J') (R := R') h n4 (by simp [up3, clC, c8]) nj 0 FU (by omega) (fu_pos (by omega)) ?_
    · rw [z1] at w; exact w
    · have ec : cntI nj (fun j => decide (0 < I' 3 j 11)) = cntI nj (fun j => decide (0 < up3 (clC I' nj) 0 23 0 0 1 20 j)) := cntI_congr (fun i hi => by
        have : up3 (clC I' nj) 0 23 0 0 1 20 i = I' 1 20 i := by simp [up3, clC]
        rw [this, (h11 i hi).1])
      refine ⟨fun _ => ?_, fun z => absurd ec z⟩
      generalize hF : up3 (clM (up3 (clC I' nj) 0 23 0 0) nj) 0 23 22 0 = F
      have ag : ∀ g : Nat → Nat → Nat → Bool, (∀ c i p, g c i p = true → ¬ (c = 3 ∧ (p = 11 ∨ p = 12)) ∧ ¬ (c = 1 ∧ i = 20) ∧ ¬ (c = 0 ∧ i = 23 ∧ (p = 0 ∨ p = 22))) → Ag g I' F := fun g hg c i p e => by
        obtain ⟨a1, a2, a3⟩ := hg c i p e
        rw [← hF]
        have b1 : ¬ (c = 0 ∧ i = 23 ∧ p = 22) := fun w => a3 ⟨w.1, w.2.1, Or.inr w.2.2⟩
        have b2 : ¬ (c = 0 ∧ i = 23 ∧ p = 0) := fun w => a3 ⟨w.1, w.2.1, Or.inl w.2.2⟩
        have b3 : ¬ (c = 1 ∧ i = 20 ∧ p < nj) := fun w => a2 ⟨w.1, w.2.1⟩
        have b4 : ¬ (c = 3 ∧ i < nj ∧ (p = 11 ∨ p = 12) ∧ 0 < I' 3 i 11) := fun w => a1 ⟨w.1, w.2.2.1⟩
        simp only [up3, clM, clC, b1, b2, b3, b4, if_false]
      refine ⟨A, B, S, nc, nw, nm, nj, cw, jc, _, _, _, rfl, rfl, rfl, rfl, h, ⟨h0, vCnt_c (ag _ ?_) h1, vCr_c (ag _ ?_) Ag.rf h2, vJo_c (ag _ ?_) Ag.rf h3, vOd_c (ag _ ?_) Ag.rf h4, vLs_c (ag _ ?_) Ag.rf (fun _ => rfl) (fun _ => rfl) rfl h5, vLn_c (ag _ ?_) Ag.rf h6, vNd_c (ag _ ?_) Ag.rf h7, vAm_c (ag _ ?_) h8, vAm_c (ag _ ?_) h9, vRc_c (ag _ ?_) h10, ?_, vFs_c (ag _ ?_) Ag.rf h12, vZr_c (ag _ ?_) h13⟩, Or.inl ⟨nRc_c (ag _ ?_) g, ?_⟩, vPa_c (ag _ ?_) Ag.rf hp⟩
      case refine_11 =>
        intro j hj
        obtain ⟨v1, v2, v3, v4⟩ := h11 j hj
        have f20 : F 1 20 j = 0 := by rw [← hF]; simp [up3, clM, hj]
        have f8 : F 1 8 j = I' 1 8 j := by rw [← hF]; simp [up3, clM, clC]
        have f11 : F 3 j 11 = 0 := by
          rw [← hF]
          by_cases q : 0 < I' 3 j 11
          · simp [up3, clM, clC, hj, q]
          · simp [up3, clM, clC, q]
            rw [v1] at q ⊢
            rw [Int32.lt_iff_toInt_lt, Int32.toInt_zero] at q
            apply Int32.toInt_inj.mp
            rw [Int32.toInt_zero]; omega
        rw [f20, f8, f11]
        have := (h3 j hj).2.2.2.2.2.1
        exact ⟨rfl, by decide, by rw [Int32.toInt_zero]; omega, fun z => absurd z (by decide)⟩
      case refine_15 => rw [← hF]; simp [up3]
      all_goals
        intro c i p
        simp only [gCnt, gCr, gJo, gOd, gLs, gLn, gNd, gAm, gRc, gFs, gZr, gNr, gPa, Bool.and_eq_true, Bool.or_eq_true, beq_iff_eq]
        omega
end CP
