section OE
variable {A : Nat → Nat → Nat} {B : Nat → Nat × Nat} {S : Hp} {nc nw nm nj : Nat} {cw jc : Nat → Nat} {I : FI} {J : FJ} {R : FR} {xs : Nat → Int32} {L : Nat} {l4 : Int32}
theorem vp01 : vp_in 0 1 := vin (show 0 < 1 by decide) (by decide)
theorem cl0 : (0 : Int32).toNatClampNeg = 0 := by decide
theorem law21 (hv : iv A B S nc nw nm nj cw jc I J R) (b1 : vp_in (l4 + 1) L) : wp_law_c21 (hq A B S I J R) (A 0 0) (A 0 23) (A 0 24) xs L l4 (Iv (A 0 0) (A 0 23) (A 0 24)) := by
  have h := hv.1
  have hT := iv_t hv 0
  obtain ⟨n1, n2, n3, n4, n5, n6⟩ := hv.2.1.1
  obtain ⟨k1, k2, k3, k4, k5, k6, k7, k8⟩ := hv.2.1.2.1
  have hO := iv_o hv
  have hT1 := iv_t hv 1
  unfold wp_law_c21 wp_L_left wp_X11_left wp_X12_left wp_X9_hasStock wp_X12_isStock wp_X12_thrown
  generalize xs (l4 + 1).toNatClampNeg = a1
  simp only [fr_0 h, fr_1 h, fr_4 h, fr_6 h, fr_14 h, fr_23 h, hi_q h, hj_q h, si_q h, sj_q h, vv_5 h, vs_5 h, vv_7 h, vs_7 h, vv_8 h, vs_8 h, vv_9 h, vs_9 h, vv_11 h, vs_11 h, vv_17 h, vs_17 h, vv_18 h, vs_18 h, vj_3 h, vj_4 h, vj_5 h, ex_some, ex_def, all_def, true_and, and_true, Nat.reduceLT, b1]
  rcases i32c a1 with z | ⟨s, hs, rfl⟩
  · simp [z, up3, hT1]
  rcases (Nat.lt_or_ge s 60).symm with hsn | hsn
  · simp [nI_pos hs, show (60 : Int32) ≤ nI s from nI_le hsn hs, up3, hT1]
  have s60 : ¬ (60 : Int32) ≤ nI s := nI_ge hsn (by decide)
  obtain ⟨f1, -⟩ := hv.2.1.2.2.2.2.2.2.2.2.2.2.2.2.1 s hsn
  simp only [nI_pos hs, s60, show ¬ ((1 : Int32) = 0) by decide, vin hsn (by decide), nI_clamp hs, not_false_eq_true, true_implies, not_true_eq_false, false_implies, true_and, and_true, false_and, and_false, forall_const, imp_self, implies_true, if_true, if_false, eq_self, Bool.true_eq_false, Bool.false_eq_true, false_or, or_false, true_or, or_true]
  rcases hv.2.2.1 with ⟨q, q22⟩ | q
  · refine ⟨fun _ => ?_, fun z => absurd q.1 z⟩
    simp only [fr_24 h, fr_23 h, fm_6 h, hi_q h, hj_q h, si_q h, sj_q h, vv_5 h, vs_5 h, vv_7 h, vs_7 h, vv_8 h, vs_8 h, vv_9 h, vs_9 h, vv_11 h, vs_11 h, vv_17 h, vs_17 h, vv_18 h, vs_18 h, vj_3 h, vj_4 h, vj_5 h, ex_some, ex_def, all_def, true_and, and_true, Nat.reduceLT, vp01, cl0, vin hsn (show 60 < 2 ^ 31 by decide), nI_clamp hs]
    simp [up3, q22, f1, hO]
  · refine ⟨fun z => absurd (z.symm.trans q.1) (by decide), fun _ => ?_⟩
    simp only [fr_24 h, fr_23 h, fm_35 h, hi_q h, hj_q h, si_q h, sj_q h, vv_5 h, vs_5 h, vv_7 h, vs_7 h, vv_8 h, vs_8 h, vv_9 h, vs_9 h, vv_11 h, vs_11 h, vv_17 h, vs_17 h, vv_18 h, vs_18 h, vj_3 h, vj_4 h, vj_5 h, ex_some, ex_def, all_def, true_and, and_true, Nat.reduceLT, vp01, cl0, vin hsn (show 60 < 2 ^ 31 by decide), nI_clamp hs]
    simp [up3, q.2.1, q.2.2.2.2.1 s hsn, hO]
theorem law22 (hv : iv A B S nc nw nm nj cw jc I J R) (b1 : vp_in (l4 + 1) L) : wp_law_c22 (hq A B S I J R) (A 0 0) (A 0 23) (A 0 24) xs L l4 (Iv (A 0 0) (A 0 23) (A 0 24)) := by
  have h := hv.1
  have hT := iv_t hv 0
  obtain ⟨n1, n2, n3, n4, n5, n6⟩ := hv.2.1.1
  obtain ⟨k1, k2, k3, k4, k5, k6, k7, k8⟩ := hv.2.1.2.1
  have hO := iv_o hv
  have hT1 := iv_t hv 1
  unfold wp_law_c22 wp_L_had wp_X11_had wp_X12_had wp_X9_hasMachine wp_X12_thrown
  generalize xs (l4 + 1).toNatClampNeg = a1
  simp only [fr_0 h, fr_1 h, fr_4 h, fr_16 h, fr_23 h, hi_q h, hj_q h, si_q h, sj_q h, vv_5 h, vs_5 h, vv_7 h, vs_7 h, vv_8 h, vs_8 h, vv_9 h, vs_9 h, vv_11 h, vs_11 h, vv_17 h, vs_17 h, vv_18 h, vs_18 h, vj_3 h, vj_4 h, vj_5 h, ex_some, ex_def, all_def, true_and, and_true, Nat.reduceLT, b1, k3]
  rcases i32c a1 with z | ⟨m, hm, rfl⟩
  · simp [z, up3, hT1]
  rcases (Nat.lt_or_ge m nm).symm with hmn | hmn
  · simp [nI_pos hm, nI_le hmn hm, nI_nlt hmn hm, k7, up3, hT1]
  have m40 : ¬ nI nm ≤ nI m := nI_ge hmn (by omega)
  simp only [nI_pos hm, m40, show ¬ ((1 : Int32) = 0) by decide, vin (show m < 40 by omega) (by decide), nI_clamp hm, not_false_eq_true, true_implies, not_true_eq_false, false_implies, true_and, and_true, false_and, and_false, forall_const, imp_self, implies_true, if_true, if_false, eq_self, Bool.true_eq_false, Bool.false_eq_true, false_or, or_false, true_or, or_true]
  simp only [fr_24 h, fr_23 h, fm_34 h, hi_q h, hj_q h, si_q h, sj_q h, vv_5 h, vs_5 h, vv_7 h, vs_7 h, vv_8 h, vs_8 h, vv_9 h, vs_9 h, vv_11 h, vs_11 h, vv_17 h, vs_17 h, vv_18 h, vs_18 h, vj_3 h, vj_4 h, vj_5 h, ex_some, ex_def, all_def, true_and, and_true, Nat.reduceLT, vp01, cl0, vin (show m < 40 by omega) (show 40 < 2 ^ 31 by decide), nI_clamp hm]
  rcases hv.2.2.1 with ⟨q, q22⟩ | q
  · simp [up3, q22, k7, nI_lt hmn (show nm < 2 ^ 31 by omega), q.2.2.1 m (by omega), hO]
  · simp [up3, q.2.1, k7, nI_lt hmn (show nm < 2 ^ 31 by omega), q.2.2.2.1 m (by omega), hO]
theorem law27 (hv : iv A B S nc nw nm nj cw jc I J R) (b1 : vp_in (l4 + 1) L) (b2 : vp_in (l4 + 2) L) : wp_law_c27 (hq A B S I J R) (A 0 0) (A 0 23) (A 0 24) xs L l4 (Iv (A 0 0) (A 0 23) (A 0 24)) := by
  have h := hv.1
  have hT := iv_t hv 0
  obtain ⟨n1, n2, n3, n4, n5, n6⟩ := hv.2.1.1
  obtain ⟨k1, k2, k3, k4, k5, k6, k7, k8⟩ := hv.2.1.2.1
  have hO := iv_o hv
  have hT1 := iv_t hv 1
  unfold wp_law_c27 wp_L_leans wp_X11_leans wp_X11_knownJob wp_X12_leans wp_X9_hasJob wp_X12_isJob wp_X12_thrown
  generalize xs (l4 + 1).toNatClampNeg = a1
  generalize xs (l4 + 2).toNatClampNeg = a2
  simp only [fr_0 h, fr_1 h, fr_4 h, fr_7 h, fr_23 h, hi_q h, hj_q h, si_q h, sj_q h, vv_5 h, vs_5 h, vv_7 h, vs_7 h, vv_8 h, vs_8 h, vv_9 h, vs_9 h, vv_11 h, vs_11 h, vv_17 h, vs_17 h, vv_18 h, vs_18 h, vj_3 h, vj_4 h, vj_5 h, ex_some, ex_def, all_def, true_and, and_true, Nat.reduceLT, b1, b2, k4]
  rcases i32c a1 with z | ⟨j, hj, rfl⟩
  · simp [z, up3, hT1]
  rcases (Nat.lt_or_ge j nj).symm with hjn | hjn
  · simp [nI_pos hj, nI_le hjn hj, up3, k8, hT1]
  have njj : ¬ nI nj ≤ nI j := nI_ge hjn (by omega)
  have e10 : ¬ ((1 : Int32) = 0) := by decide
  obtain ⟨hR7, -⟩ := hv.2.1.2.2.2.1 j hjn
  rcases i32c a2 with z | ⟨k, hk, rfl⟩
  · simp [nI_pos hj, njj, k8, z, up3, hT1, vin (show j < 200 by omega) (show 200 < 2 ^ 31 by decide)]
  rcases (Nat.lt_or_ge k nj).symm with hkn | hkn
  · simp [nI_pos hj, njj, nI_pos hk, nI_le hkn hk, up3, k8, hT1, vin (show j < 200 by omega) (show 200 < 2 ^ 31 by decide)]
  have njk : ¬ nI nj ≤ nI k := nI_ge hkn (by omega)
  obtain ⟨hR7k, hnk, -⟩ := hv.2.1.2.2.2.1 k hkn
  simp only [nI_pos hj, nI_pos hk, njj, njk, e10, vin (show j < 200 by omega) (show 200 < 2 ^ 31 by decide), vin (show k < 200 by omega) (show 200 < 2 ^ 31 by decide), nI_clamp hj, nI_clamp hk, hR7, hR7k, ex_some, fj_3 h hjn, fj_3 h hkn, fj_6 h hjn, hi_q h, Nat.reduceLT, hnk, not_false_eq_true, true_implies, not_true_eq_false, false_implies, true_and, and_true, false_and, and_false, forall_const, imp_self, implies_true, if_true, if_false, eq_self, Bool.true_eq_false, Bool.false_eq_true, false_or, or_false, true_or, or_true]
  refine p_has (js_j h hjn) (by omega) ?_
  rw [js_hq h (by decide)]
  obtain ⟨l1, l2, -⟩ := hv.2.1.2.2.2.2.2.2.1
  have hl := l1 j k hjn (by omega)
  rw [decide_eq_true hkn, Bool.true_and] at hl
  rw [hl]
  simp only [fr_24 h, fr_23 h, fm_11 h, hi_q h, hj_q h, si_q h, sj_q h, vv_5 h, vs_5 h, vv_7 h, vs_7 h, vv_8 h, vs_8 h, vv_9 h, vs_9 h, vv_11 h, vs_11 h, vv_17 h, vs_17 h, vv_18 h, vs_18 h, vj_3 h, vj_4 h, vj_5 h, ex_some, ex_def, all_def, true_and, and_true, Nat.reduceLT, vp01, cl0, i200, nI_clamp (show 200 * j + k < 2 ^ 31 by omega), vin (show 200 * j + k < 40000 by omega) (show 40000 < 2 ^ 31 by decide)]
  rcases l2 j k hjn hkn with e | e
  · simp [e, up3, k8, nI_pos hj, nI_pos hk, njj, njk, hO]
    done
  · simp [e, up3, k8, nI_pos hj, nI_pos hk, njj, njk, hO]
    done
end OE
