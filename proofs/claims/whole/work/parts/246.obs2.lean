section OC
variable {A : Nat → Nat → Nat} {B : Nat → Nat × Nat} {S : Hp} {nc nw nm nj : Nat} {cw jc : Nat → Nat} {I : FI} {J : FJ} {R : FR} {xs : Nat → Int32} {L : Nat} {l4 : Int32}
def farM (I : FI) (j : Nat) : Int32 := if I 1 27 j = -1 then 0 else if I 1 28 j = -1 then 0 else I 1 28 j - I 1 27 j
theorem p_far {Q : Int32 → Hp → Prop} (h : Sh A B S nj nc) {j : Nat} (hj : j < 200) (hk : Q (farM I j) (hq A B S I J R)) : wp_X12_farOf (hq A B S I J R) (A 0 23) (nI j) Q := by
  unfold farM at hk
  unfold wp_X12_farOf
  simp only [fr_23 h, fm_27 h, fm_28 h, hi_q h, hj_q h, si_q h, sj_q h, vv_5 h, vs_5 h, vv_7 h, vs_7 h, vv_8 h, vs_8 h, vv_9 h, vs_9 h, vv_11 h, vs_11 h, vv_17 h, vs_17 h, vv_18 h, vs_18 h, vj_3 h, vj_4 h, vj_5 h, ex_some, ex_def, all_def, true_and, and_true, Nat.reduceLT, nI_clamp (show j < 2 ^ 31 by omega), vin hj (show 200 < 2 ^ 31 by decide)]
  refine ⟨fun z => ?_, fun z => ⟨fun z2 => ?_, fun z2 => ?_⟩⟩
  · rw [if_pos z] at hk; exact hk
  · rw [if_neg z, if_pos z2] at hk; exact hk
  · rw [if_neg z, if_neg z2] at hk; exact hk
theorem law15 (hv : iv A B S nc nw nm nj cw jc I J R) (b1 : vp_in (l4 + 1) L) (b2 : vp_in (l4 + 2) L) : wp_law_c15 (hq A B S I J R) (A 0 0) (A 0 23) (A 0 24) xs L l4 (Iv (A 0 0) (A 0 23) (A 0 24)) := by
  have h := hv.1
  have hT := iv_t hv 0
  obtain ⟨n1, n2, n3, n4, n5, n6⟩ := hv.2.1.1
  obtain ⟨k1, k2, k3, k4, k5, k6, k7, k8⟩ := hv.2.1.2.1
  have hO := iv_o hv
  unfold wp_law_c15 wp_L_state wp_X11_state wp_X11_knownJob wp_X12_state wp_X9_hasJob wp_X12_isJob wp_X12_thrown
  generalize xs (l4 + 1).toNatClampNeg = a1
  generalize xs (l4 + 2).toNatClampNeg = a2
  simp only [fr_0 h, fr_1 h, fr_4 h, fr_7 h, fr_23 h, hi_q h, hj_q h, si_q h, sj_q h, vv_5 h, vs_5 h, vv_7 h, vs_7 h, vv_8 h, vs_8 h, vv_9 h, vs_9 h, vv_11 h, vs_11 h, vv_17 h, vs_17 h, vv_18 h, vs_18 h, vj_3 h, vj_4 h, vj_5 h, ex_some, ex_def, all_def, true_and, and_true, Nat.reduceLT, b1, b2, k4]
  have hT1 := iv_t hv 1
  rcases i32c a1 with z | ⟨j, hj, rfl⟩
  · simp [z, up3, hT1]
  rcases (Nat.lt_or_ge j nj).symm with hjn | hjn
  · simp [nI_pos hj, nI_le (show nj ≤ j by omega) hj, up3, k8, hT1]
  obtain ⟨hR7, hnum, -⟩ := hv.2.1.2.2.2.1 j hjn
  have njj : ¬ nI nj ≤ nI j := nI_ge hjn (by omega)
  have e10 : ¬ ((1 : Int32) = 0) := by decide
  simp only [nI_pos hj, njj, e10, nI_clamp hj, vin (show j < 200 by omega) (by decide), vin (show 0 < 1 by decide) (by decide), show vp_in 0 1 from vin (show 0 < 1 by decide) (by decide), hR7, fr_24 h, fj_3 h hjn, fj_16 h hjn, ex_some, show (0 : Int32).toNatClampNeg = 0 by decide, hi_q h, sj_q h, si_q h, Nat.reduceLT, not_false_eq_true, true_implies, not_true_eq_false, false_implies, true_and, and_true, false_and, and_false, forall_const, imp_self, implies_true, if_true, if_false, eq_self, Bool.true_eq_false, Bool.false_eq_true, false_or, or_false, true_or, or_true]
  rcases hv.2.2.1 with ⟨q, q22⟩ | q
  · obtain ⟨t0, t1, t2, t3, t4, t5, t6, -⟩ := q.2.1 j hjn
    have cu : ∀ Q : Int32 → Hp → Prop, Q (-1) (hq A B S I J R) → wp_X8_culpritOf (hq A B S I J R) (A 0 4) (some (A 3 j)) Q := fun Q hq => by
      unfold wp_X8_culpritOf
      simp only [fj_3 h hjn, fj_16 h hjn, hi_q h, hj_q h, si_q h, sj_q h, vv_5 h, vs_5 h, vv_7 h, vs_7 h, vv_8 h, vs_8 h, vv_9 h, vs_9 h, vv_11 h, vs_11 h, vv_17 h, vs_17 h, vv_18 h, vs_18 h, vj_3 h, vj_4 h, vj_5 h, ex_some, ex_def, all_def, true_and, and_true, Nat.reduceLT, t0]
      exact ⟨fun z => absurd z (by decide), fun _ => hq⟩
    refine ⟨fun z => ?_, fun z => ⟨fun z1 => ?_, fun z1 => ⟨fun z2 => ?_, fun z2 => ⟨fun z3 => ?_, fun z3 => ⟨fun z4 => ?_, fun z4 => ⟨fun z5 => ?_, fun z5 => ⟨fun z6 => ?_, fun z6 => ⟨fun z7 => cu _ ?_, fun z7 => ?_⟩⟩⟩⟩⟩⟩⟩⟩
    all_goals (try subst z)
    all_goals (try subst z1)
    all_goals (try subst z2)
    all_goals (try subst z3)
    all_goals (try subst z4)
    all_goals (try subst z5)
    all_goals (try subst z6)
    all_goals (try subst z7)
    all_goals try simp only [fr_24 h, fr_23 h, hi_q h, hj_q h, si_q h, sj_q h, vv_5 h, vs_5 h, vv_7 h, vs_7 h, vv_8 h, vs_8 h, vv_9 h, vs_9 h, vv_11 h, vs_11 h, vv_17 h, vs_17 h, vv_18 h, vs_18 h, vj_3 h, vj_4 h, vj_5 h, ex_some, ex_def, all_def, true_and, and_true, Nat.reduceLT, show vp_in 0 1 from vin (show 0 < 1 by decide) (by decide), show (0 : Int32).toNatClampNeg = 0 by decide]
    all_goals simp [up3, k8, nI_pos hj, njj, q22, t0, t1, t2, t3, t4, t5, t6, hO, *]
  · obtain ⟨q8, q22, qj, q34, qs, q9, qe, qf, ql, qw⟩ := q
    obtain ⟨t0, t1, t2, t3, t4, t5, t6⟩ := qj j hjn
    have cu : ∀ Q : Int32 → Hp → Prop, Q (if I 1 26 j = 3 then fnd (fun i => decide (I 1 26 i = 2) && decide (I 1 11 (200 * j + i) = 1)) nj 0 else -1) (hq A B S I J R) → wp_X8_culpritOf (hq A B S I J R) (A 0 4) (some (A 3 j)) Q := fun Q hq => by
      unfold wp_X8_culpritOf
      simp only [fj_3 h hjn, fj_16 h hjn, hi_q h, hj_q h, si_q h, sj_q h, vv_5 h, vs_5 h, vv_7 h, vs_7 h, vv_8 h, vs_8 h, vv_9 h, vs_9 h, vv_11 h, vs_11 h, vv_17 h, vs_17 h, vv_18 h, vs_18 h, vj_3 h, vj_4 h, vj_5 h, ex_some, ex_def, all_def, true_and, and_true, Nat.reduceLT, t0]
      refine ⟨fun z => ?_, fun z => ?_⟩
      · rw [if_pos z] at hq
        refine p_culp hv hjn nj 0 FU (by omega) (fu_pos (by omega)) ?_
        rw [fnd_congr (p' := fun i => decide (I 1 26 i = 2) && decide (I 1 11 (200 * j + i) = 1)) (fun i _ hi => by simp only [(qj i (by omega)).1])]
        exact hq
      · rw [if_neg z] at hq; exact hq
    have cm : ∀ (Q : Int32 → Hp → Prop) (v : Int32) (J' : FJ), Q (if I 1 26 j = 3 then fnd (fun i => decide (I 1 26 i = 2) && decide (I 1 11 (200 * j + i) = 1)) nj 0 else -1) (hq A B S (up3 I 0 23 0 v) J' R) → wp_X12_causeOf (hq A B S (up3 I 0 23 0 v) J' R) (A 0 23) (nI j) Q := fun Q v J' hq => by
      by_cases z : I 1 26 j = 3
      · rw [if_pos z] at hq
        exact p_cause hv hjn z nj 0 FU (by omega) (fu_pos (by omega)) hq
      · rw [if_neg z] at hq
        exact p_cause0 hv hjn z hq
    refine ⟨fun z => ?_, fun z => ⟨fun z1 => ?_, fun z1 => ⟨fun z2 => ?_, fun z2 => ⟨fun z3 => ?_, fun z3 => ⟨fun z4 => ?_, fun z4 => ⟨fun z5 => ?_, fun z5 => ⟨fun z6 => ?_, fun z6 => ⟨fun z7 => cu _ ?_, fun z7 => ?_⟩⟩⟩⟩⟩⟩⟩⟩
    all_goals (try subst z)
    all_goals (try subst z1)
    all_goals (try subst z2)
    all_goals (try subst z3)
    all_goals (try subst z4)
    all_goals (try subst z5)
    all_goals (try subst z6)
    all_goals (try subst z7)
    all_goals try simp only [fr_24 h, fr_23 h, fm_26 h, fm_27 h, fm_28 h, fm_29 h, fm_30 h, fm_31 h, hi_q h, hj_q h, si_q h, sj_q h, vv_5 h, vs_5 h, vv_7 h, vs_7 h, vv_8 h, vs_8 h, vv_9 h, vs_9 h, vv_11 h, vs_11 h, vv_17 h, vs_17 h, vv_18 h, vs_18 h, vj_3 h, vj_4 h, vj_5 h, ex_some, ex_def, all_def, true_and, and_true, Nat.reduceLT, show vp_in 0 1 from vin (show 0 < 1 by decide) (by decide), show (0 : Int32).toNatClampNeg = 0 by decide, vin (show j < 200 by omega) (by decide), nI_clamp hj]
    all_goals try simp only [show ¬ ((1 : Int32) = 0) by decide, show ¬ ((2 : Int32) = 0) by decide, show ¬ ((2 : Int32) = 1) by decide, show ¬ ((3 : Int32) = 0) by decide, show ¬ ((3 : Int32) = 1) by decide, show ¬ ((3 : Int32) = 2) by decide, show ¬ ((4 : Int32) = 0) by decide, show ¬ ((4 : Int32) = 1) by decide, show ¬ ((4 : Int32) = 2) by decide, show ¬ ((4 : Int32) = 3) by decide, show ¬ ((5 : Int32) = 0) by decide, show ¬ ((5 : Int32) = 1) by decide, show ¬ ((5 : Int32) = 2) by decide, show ¬ ((5 : Int32) = 3) by decide, show ¬ ((5 : Int32) = 4) by decide, show ¬ ((6 : Int32) = 0) by decide, show ¬ ((6 : Int32) = 1) by decide, show ¬ ((6 : Int32) = 2) by decide, show ¬ ((6 : Int32) = 3) by decide, show ¬ ((6 : Int32) = 4) by decide, show ¬ ((6 : Int32) = 5) by decide, show ¬ ((7 : Int32) = 0) by decide, show ¬ ((7 : Int32) = 1) by decide, show ¬ ((7 : Int32) = 2) by decide, show ¬ ((7 : Int32) = 3) by decide, show ¬ ((7 : Int32) = 4) by decide, show ¬ ((7 : Int32) = 5) by decide, show ¬ ((7 : Int32) = 6) by decide, not_false_eq_true, true_implies, not_true_eq_false, false_implies, true_and, and_true, false_and, and_false, forall_const, imp_self, implies_true, if_true, if_false, eq_self, Bool.true_eq_false, Bool.false_eq_true, false_or, or_false, true_or, or_true]
    all_goals try simp [up3, k8, nI_pos hj, njj, q22, t0, t1, t2, t3, t4, t5, t6, hO, *]
    · refine p_far h (show j < 200 by omega) ?_
      simp only [fr_24 h, fr_23 h, hi_q h, hj_q h, si_q h, sj_q h, vv_5 h, vs_5 h, vv_7 h, vs_7 h, vv_8 h, vs_8 h, vv_9 h, vs_9 h, vv_11 h, vs_11 h, vv_17 h, vs_17 h, vv_18 h, vs_18 h, vj_3 h, vj_4 h, vj_5 h, ex_some, ex_def, all_def, true_and, and_true, Nat.reduceLT, show vp_in 0 1 from vin (show 0 < 1 by decide) (by decide), show (0 : Int32).toNatClampNeg = 0 by decide]
      simp [up3, hO, farM]
    · exact ⟨fun z => by rw [if_pos z], fun z => by rw [if_neg z]; rfl⟩
    refine cm _ _ _ ?_
    simp only [fr_24 h, fr_23 h, hi_q h, hj_q h, si_q h, sj_q h, vv_5 h, vs_5 h, vv_7 h, vs_7 h, vv_8 h, vs_8 h, vv_9 h, vs_9 h, vv_11 h, vs_11 h, vv_17 h, vs_17 h, vv_18 h, vs_18 h, vj_3 h, vj_4 h, vj_5 h, ex_some, ex_def, all_def, true_and, and_true, Nat.reduceLT, show vp_in 0 1 from vin (show 0 < 1 by decide) (by decide), show (0 : Int32).toNatClampNeg = 0 by decide]
    simp [up3, hO]
end OC
