section MW
variable {A : Nat → Nat → Nat} {B : Nat → Nat × Nat} {S : Hp} {nc nw nm nj : Nat} {cw jc : Nat → Nat} {I : FI} {J : FJ} {R : FR} {xs : Nat → Int32} {L : Nat} {l4 : Int32}
theorem i_case6 {x : Int32} (h1 : ¬ x < 0) (h2 : x ≤ 5) : x = 0 ∨ x = 1 ∨ x = 2 ∨ x = 3 ∨ x = 4 ∨ x = 5 := by
  rcases i32c x with z | ⟨k, hk, rfl⟩
  · exact absurd z h1
  · have : k ≤ 5 := by
      have := i_le (k := 5) (by decide) h2
      rw [nI_toInt hk] at this; omega
    have : k = 0 ∨ k = 1 ∨ k = 2 ∨ k = 3 ∨ k = 4 ∨ k = 5 := by omega
    rcases this with rfl | rfl | rfl | rfl | rfl | rfl <;> simp [nI] 
theorem law8 (hv : iv A B S nc nw nm nj cw jc I J R) (b1 : vp_in (l4 + 1) L) (b2 : vp_in (l4 + 2) L) (b3 : vp_in (l4 + 3) L) (b4 : vp_in (l4 + 4) L) : wp_law_c8 (hq A B S I J R) (A 0 0) (A 0 23) (A 0 24) xs L l4 (Iv (A 0 0) (A 0 23) (A 0 24)) := by
  have h := hv.1
  have hT := iv_t hv 0
  obtain ⟨n1, n2, n3, n4, n5, n6⟩ := hv.2.1.1
  obtain ⟨k1, k2, k3, k4, k5, k6, k7, k8⟩ := hv.2.1.2.1
  unfold wp_law_c8 wp_X11_body wp_X12_body wp_X9_hasJob wp_X12_isJob wp_X12_done
  generalize xs (l4 + 1).toNatClampNeg = a1
  generalize xs (l4 + 2).toNatClampNeg = a2
  generalize xs (l4 + 3).toNatClampNeg = a3
  generalize xs (l4 + 4).toNatClampNeg = a4
  simp only [fr_0 h, fr_1 h, fr_4 h, fr_23 h, hi_q h, hj_q h, si_q h, sj_q h, vv_5 h, vs_5 h, vv_7 h, vs_7 h, vv_8 h, vs_8 h, vv_9 h, vs_9 h, vv_11 h, vs_11 h, vv_17 h, vs_17 h, vv_18 h, vs_18 h, vj_3 h, vj_4 h, vj_5 h, ex_some, ex_def, all_def, true_and, and_true, Nat.reduceLT, b1, b2, b3, b4, k4]
  rcases i32c a1 with z | ⟨j, hj, rfl⟩
  · simp [z, hT]
  rcases (Nat.lt_or_ge j nj).symm with hjn | hjn
  · simp [nI_pos hj, nI_le (show nj ≤ j by omega) hj, up3, k8, hT]
  by_cases z1 : a2 < 0
  · simp [nI_pos hj, nI_ge hjn (by omega), up3, k8, z1, hT]
  by_cases z2 : a2 ≤ 5
  case neg => simp [nI_pos hj, nI_ge hjn (by omega), up3, k8, z1, z2, hT]
  simp only [nI_pos hj, nI_ge hjn (by omega), z1, z2, show ¬ ((1 : Int32) = 0) by decide, not_false_eq_true, true_implies, not_true_eq_false, false_implies, true_and, and_true, false_and, and_false, forall_const, imp_self, implies_true, if_true, if_false, eq_self, Bool.true_eq_false, Bool.false_eq_true, false_or, or_false, true_or, or_true]
  refine p_emp hv (fun I' J' R' f g hs hp => ?_)
  obtain ⟨h0, h1, h2, h3, h4, h5, h6, h7, h8, h9, h10, h11, h12, h13⟩ := hs; obtain ⟨c1, c2, c3, c4, c5, c6, c7, c8⟩ := id h1
  simp only [fr_0 h, fr_1 h, fr_7 h, fr_23 h, fj_3 h hjn, fj_14 h hjn, fm_15 h, fm_16 h, fm_17 h, hi_q h, hj_q h, si_q h, sj_q h, vv_5 h, vs_5 h, vv_7 h, vs_7 h, vv_8 h, vs_8 h, vv_9 h, vs_9 h, vv_11 h, vs_11 h, vv_17 h, vs_17 h, vv_18 h, vs_18 h, vj_3 h, vj_4 h, vj_5 h, ex_some, ex_def, all_def, true_and, and_true, Nat.reduceLT, vin (show j < 200 by omega) (by decide), nI_clamp hj, (h3 j hjn).1]
  simp [up3, c8, nI_ge hjn (by omega)]
  refine ⟨A, B, S, nc, nw, nm, nj, cw, jc, _, _, _, rfl, rfl, rfl, rfl, h, ⟨h0, (vCnt_c (by repeat (first | exact Ag.rf | refine Ag.up ?_ rfl | refine Ag.ur ?_ (fun _ => rfl))) h1), (vCr_c (by repeat (first | exact Ag.rf | refine Ag.up ?_ rfl | refine Ag.ur ?_ (fun _ => rfl))) (by repeat (first | exact Ag.rf | refine Ag.up ?_ rfl | refine Ag.ur ?_ (fun _ => rfl))) h2), (vJo_c (by repeat (first | exact Ag.rf | refine Ag.up ?_ rfl | refine Ag.ur ?_ (fun _ => rfl))) (by repeat (first | exact Ag.rf | refine Ag.up ?_ rfl | refine Ag.ur ?_ (fun _ => rfl))) h3), (vOd_c (by repeat (first | exact Ag.rf | refine Ag.up ?_ rfl | refine Ag.ur ?_ (fun _ => rfl))) (by repeat (first | exact Ag.rf | refine Ag.up ?_ rfl | refine Ag.ur ?_ (fun _ => rfl))) h4), (vLs_c (by repeat (first | exact Ag.rf | refine Ag.up ?_ rfl | refine Ag.ur ?_ (fun _ => rfl))) (by repeat (first | exact Ag.rf | refine Ag.up ?_ rfl | refine Ag.ur ?_ (fun _ => rfl))) (fun _ => rfl) (fun _ => rfl) rfl h5), (vLn_c (by repeat (first | exact Ag.rf | refine Ag.up ?_ rfl | refine Ag.ur ?_ (fun _ => rfl))) (by repeat (first | exact Ag.rf | refine Ag.up ?_ rfl | refine Ag.ur ?_ (fun _ => rfl))) h6), (vNd_c (by repeat (first | exact Ag.rf | refine Ag.up ?_ rfl | refine Ag.ur ?_ (fun _ => rfl))) (by repeat (first | exact Ag.rf | refine Ag.up ?_ rfl | refine Ag.ur ?_ (fun _ => rfl))) h7), (vAm_c (by repeat (first | exact Ag.rf | refine Ag.up ?_ rfl | refine Ag.ur ?_ (fun _ => rfl))) h8), (vAm_c (by repeat (first | exact Ag.rf | refine Ag.up ?_ rfl | refine Ag.ur ?_ (fun _ => rfl))) h9), ?_, (vPl_c (by repeat (first | exact Ag.rf | refine Ag.up ?_ rfl | refine Ag.ur ?_ (fun _ => rfl))) h11), (vFs_c (by repeat (first | exact Ag.rf | refine Ag.up ?_ rfl | refine Ag.ur ?_ (fun _ => rfl))) (by repeat (first | exact Ag.rf | refine Ag.up ?_ rfl | refine Ag.ur ?_ (fun _ => rfl))) h12), ?_⟩, (Or.inl ⟨nRc_c (by repeat (first | exact Ag.rf | refine Ag.up ?_ rfl | refine Ag.ur ?_ (fun _ => rfl))) g, by simp [up3]⟩), (vPa_c (by repeat (first | exact Ag.rf | refine Ag.up ?_ rfl | refine Ag.ur ?_ (fun _ => rfl))) (by repeat (first | exact Ag.rf | refine Ag.up ?_ rfl | refine Ag.ur ?_ (fun _ => rfl))) hp)⟩
  · intro j' hj'
    by_cases e : j' = j
    · subst e
      simp [up3]
      exact ⟨(h10 j' hj').1, i_case6 z1 z2⟩
    · simp [up3, e]; exact h10 j' hj'
  · obtain ⟨y1, y2, y3, y4⟩ := h13
    refine ⟨fun j' b' a b d => by simp [up3]; exact y1 j' b' a b d, fun j' m' a b d => by simp [up3]; exact y2 j' m' a b d, fun j' s' a b d => by simp [up3]; exact y3 j' s' a b d, fun j' a b => ?_⟩
    have e : ¬ j' = j := by omega
    simp [up3, e]; exact y4 j' a b
theorem law9 (hv : iv A B S nc nw nm nj cw jc I J R) (b1 : vp_in (l4 + 1) L) (b2 : vp_in (l4 + 2) L) : wp_law_c9 (hq A B S I J R) (A 0 0) (A 0 23) (A 0 24) xs L l4 (Iv (A 0 0) (A 0 23) (A 0 24)) := by
  have h := hv.1
  have hT := iv_t hv 0
  obtain ⟨n1, n2, n3, n4, n5, n6⟩ := hv.2.1.1
  obtain ⟨k1, k2, k3, k4, k5, k6, k7, k8⟩ := hv.2.1.2.1
  unfold wp_law_c9 wp_X11_piece wp_X12_piece wp_X9_hasJob wp_X12_isJob wp_X12_done
  generalize xs (l4 + 1).toNatClampNeg = a1
  generalize xs (l4 + 2).toNatClampNeg = a2
  simp only [fr_0 h, fr_1 h, fr_4 h, fr_7 h, fr_23 h, fm_18 h, fm_19 h, hi_q h, hj_q h, si_q h, sj_q h, vv_5 h, vs_5 h, vv_7 h, vs_7 h, vv_8 h, vs_8 h, vv_9 h, vs_9 h, vv_11 h, vs_11 h, vv_17 h, vs_17 h, vv_18 h, vs_18 h, vj_3 h, vj_4 h, vj_5 h, ex_some, ex_def, all_def, true_and, and_true, Nat.reduceLT, b1, b2, k4]
  rcases i32c a1 with z | ⟨j, hj, rfl⟩
  · simp [z, hT]
  rcases (Nat.lt_or_ge j nj).symm with hjn | hjn
  · simp [nI_pos hj, nI_le (show nj ≤ j by omega) hj, up3, k8, hT]
  obtain ⟨⟨n, r1, r2, r3, r4⟩, -⟩ := hv.2.1.2.2.2.2.2.2.2.2.2.2.1 j hjn
  have hR7 := (hv.2.1.2.2.2.1 j hjn).1
  have rm : (if 0 < I 1 19 j then I 1 19 j else 0) = nI n := by
    rw [r3]
    by_cases e : n = 0
    · subst e; decide
    · rw [if_neg e, if_pos (show (0 : Int32) < nI n from nI_lt (a := 0) (b := n) (by omega) (by omega))]
  simp only [nI_pos hj, nI_ge hjn (by omega), show ¬ ((1 : Int32) = 0) by decide, vin (show j < 200 by omega) (by decide), nI_clamp hj, hR7, ex_some, fj_3 h hjn, fj_14 h hjn, hi_q h, Nat.reduceLT, r2, not_false_eq_true, true_implies, not_true_eq_false, false_implies, true_and, and_true, false_and, and_false, forall_const, imp_self, implies_true, if_true, if_false, eq_self, Bool.true_eq_false, Bool.false_eq_true, false_or, or_false, true_or, or_true]
  by_cases e : n = 30
  · subst e
    simp [show ¬ (nI 30 < 30) by decide, up3, k8, nI_ge hjn (by omega), rm, show nI 30 = 30 by decide, hT]
  · have e30 : ¬ nI n = 30 := fun z => e ((nI_eq (b := 30) (by omega) (by decide)).mp z)
    simp only [show nI n < 30 from nI_lt (a := n) (b := 30) (by omega) (by decide), not_false_eq_true, true_implies, not_true_eq_false, false_implies, true_and, and_true, false_and, and_false, forall_const, imp_self, implies_true, if_true, if_false, eq_self, Bool.true_eq_false, Bool.false_eq_true, false_or, or_false, true_or, or_true]
    refine p_emp hv (fun I' J' R' f g hs hp => ?_)
    obtain ⟨h0, h1, h2, h3, h4, h5, h6, h7, h8, h9, h10, h11, h12, h13⟩ := hs; obtain ⟨c1, c2, c3, c4, c5, c6, c7, c8⟩ := id h1
    have r2' : I' 14 j 4 = nI n := (f.1 14 j 4 rfl).trans r2
    have r3' : I' 1 19 j = I 1 19 j := f.1 1 19 j rfl
    simp only [fr_0 h, fr_1 h, fr_7 h, fr_23 h, fm_18 h, fm_19 h, fj_3 h hjn, fj_14 h hjn, fj_15 h hjn, hi_q h, hj_q h, si_q h, sj_q h, vv_5 h, vs_5 h, vv_7 h, vs_7 h, vv_8 h, vs_8 h, vv_9 h, vs_9 h, vv_11 h, vs_11 h, vv_17 h, vs_17 h, vv_18 h, vs_18 h, vj_3 h, vj_4 h, vj_5 h, ex_some, ex_def, all_def, true_and, and_true, Nat.reduceLT, r2', nI_clamp (show n < 2 ^ 31 by omega), vin (show n < 30 by omega) (by decide), nI_clamp hj, vin (show j < 200 by omega) (by decide)]
    simp only [up3_off (show ¬ ((0 : Nat) = 14 ∧ (23 : Nat) = j ∧ (4 : Nat) = 4) by simp), up3_off (show ¬ ((14 : Nat) = 15 ∧ j = j ∧ (4 : Nat) = n) by simp), r2']
    simp [up3, c8, nI_ge hjn (by omega), r3', rm, e30, i30, vin (show 30 * j + n < 6000 by omega) (by decide), nI_clamp (show 30 * j + n < 2 ^ 31 by omega), r2']
    refine ⟨A, B, S, nc, nw, nm, nj, cw, jc, _, _, _, rfl, rfl, rfl, rfl, h, ⟨h0, (vCnt_c (by repeat (first | exact Ag.rf | refine Ag.up ?_ rfl | refine Ag.ur ?_ (fun _ => rfl))) h1), (vCr_c (by repeat (first | exact Ag.rf | refine Ag.up ?_ rfl | refine Ag.ur ?_ (fun _ => rfl))) (by repeat (first | exact Ag.rf | refine Ag.up ?_ rfl | refine Ag.ur ?_ (fun _ => rfl))) h2), (vJo_c (by repeat (first | exact Ag.rf | refine Ag.up ?_ rfl | refine Ag.ur ?_ (fun _ => rfl))) (by repeat (first | exact Ag.rf | refine Ag.up ?_ rfl | refine Ag.ur ?_ (fun _ => rfl))) h3), (vOd_c (by repeat (first | exact Ag.rf | refine Ag.up ?_ rfl | refine Ag.ur ?_ (fun _ => rfl))) (by repeat (first | exact Ag.rf | refine Ag.up ?_ rfl | refine Ag.ur ?_ (fun _ => rfl))) h4), (vLs_c (by repeat (first | exact Ag.rf | refine Ag.up ?_ rfl | refine Ag.ur ?_ (fun _ => rfl))) (by repeat (first | exact Ag.rf | refine Ag.up ?_ rfl | refine Ag.ur ?_ (fun _ => rfl))) (fun _ => rfl) (fun _ => rfl) rfl h5), (vLn_c (by repeat (first | exact Ag.rf | refine Ag.up ?_ rfl | refine Ag.ur ?_ (fun _ => rfl))) (by repeat (first | exact Ag.rf | refine Ag.up ?_ rfl | refine Ag.ur ?_ (fun _ => rfl))) h6), (vNd_c (by repeat (first | exact Ag.rf | refine Ag.up ?_ rfl | refine Ag.ur ?_ (fun _ => rfl))) (by repeat (first | exact Ag.rf | refine Ag.up ?_ rfl | refine Ag.ur ?_ (fun _ => rfl))) h7), (vAm_c (by repeat (first | exact Ag.rf | refine Ag.up ?_ rfl | refine Ag.ur ?_ (fun _ => rfl))) h8), (vAm_c (by repeat (first | exact Ag.rf | refine Ag.up ?_ rfl | refine Ag.ur ?_ (fun _ => rfl))) h9), ?_, (vPl_c (by repeat (first | exact Ag.rf | refine Ag.up ?_ rfl | refine Ag.ur ?_ (fun _ => rfl))) h11), (vFs_c (by repeat (first | exact Ag.rf | refine Ag.up ?_ rfl | refine Ag.ur ?_ (fun _ => rfl))) (by repeat (first | exact Ag.rf | refine Ag.up ?_ rfl | refine Ag.ur ?_ (fun _ => rfl))) h12), (vZr_c (by repeat (first | exact Ag.rf | refine Ag.up ?_ rfl | refine Ag.ur ?_ (fun _ => rfl))) h13)⟩, (Or.inl ⟨nRc_c (by repeat (first | exact Ag.rf | refine Ag.up ?_ rfl | refine Ag.ur ?_ (fun _ => rfl))) g, by simp [up3]⟩), (vPa_c (by repeat (first | exact Ag.rf | refine Ag.up ?_ rfl | refine Ag.ur ?_ (fun _ => rfl))) (by repeat (first | exact Ag.rf | refine Ag.up ?_ rfl | refine Ag.ur ?_ (fun _ => rfl))) hp)⟩
    intro j' hj'
    by_cases e : j' = j
    · subst e
      obtain ⟨-, w2⟩ := h10 j' hj'
      refine ⟨⟨n + 1, by omega, by simp [up3, nI_succ], by simp [up3, nI_succ], fun i hi => ?_⟩, by simp [up3]; exact w2⟩
      by_cases e : i = n
      · subst e; simp [up3]
      · have e2 : ¬ 30 * j' + i = 30 * j' + n := by omega
        simp [up3, e]
        rw [f.1 15 j' i rfl, f.1 1 18 _ rfl]
        exact r4 i (by omega)
    · obtain ⟨⟨n', w1, w2, w3, w4⟩, w5⟩ := h10 j' hj'
      refine ⟨⟨n', w1, by simp [up3, e]; exact w2, by simp [up3, e]; exact w3, fun i hi => ?_⟩, by simp [up3, e]; exact w5⟩
      have e2 : ¬ 30 * j' + i = 30 * j + n := by omega
      simp [up3, e, e2]; exact w4 i hi
theorem law10 (hv : iv A B S nc nw nm nj cw jc I J R) (b1 : vp_in (l4 + 1) L) : wp_law_c10 (hq A B S I J R) (A 0 0) (A 0 23) (A 0 24) xs L l4 (Iv (A 0 0) (A 0 23) (A 0 24)) := by
  have h := hv.1
  have hT := iv_t hv 0
  obtain ⟨n1, n2, n3, n4, n5, n6⟩ := hv.2.1.1
  obtain ⟨k1, k2, k3, k4, k5, k6, k7, k8⟩ := hv.2.1.2.1
  unfold wp_law_c10 wp_X11_strip wp_X12_strip wp_X9_hasJob wp_X12_isJob wp_X12_done
  generalize xs (l4 + 1).toNatClampNeg = a1
  simp only [fr_0 h, fr_1 h, fr_4 h, fr_7 h, fr_23 h, fm_19 h, hi_q h, hj_q h, si_q h, sj_q h, vv_5 h, vs_5 h, vv_7 h, vs_7 h, vv_8 h, vs_8 h, vv_9 h, vs_9 h, vv_11 h, vs_11 h, vv_17 h, vs_17 h, vv_18 h, vs_18 h, vj_3 h, vj_4 h, vj_5 h, ex_some, ex_def, all_def, true_and, and_true, Nat.reduceLT, b1, k4]
  rcases i32c a1 with z | ⟨j, hj, rfl⟩
  · simp [z, hT]
  rcases (Nat.lt_or_ge j nj).symm with hjn | hjn
  · simp [nI_pos hj, nI_le (show nj ≤ j by omega) hj, up3, k8, hT]
  obtain ⟨⟨n, r1, r2, r3, r4⟩, -⟩ := hv.2.1.2.2.2.2.2.2.2.2.2.2.1 j hjn
  have hR7 := (hv.2.1.2.2.2.1 j hjn).1
  simp only [nI_pos hj, nI_ge hjn (by omega), show ¬ ((1 : Int32) = 0) by decide, vin (show j < 200 by omega) (by decide), nI_clamp hj, hR7, ex_some, fj_3 h hjn, fj_14 h hjn, hi_q h, Nat.reduceLT, r2, not_false_eq_true, true_implies, not_true_eq_false, false_implies, true_and, and_true, false_and, and_false, forall_const, imp_self, implies_true, if_true, if_false, eq_self, Bool.true_eq_false, Bool.false_eq_true, false_or, or_false, true_or, or_true]
  by_cases e : n = 0
  · subst e
    simp only [if_true] at r3
    simp [show nI 0 = 0 by decide, up3, k8, nI_ge hjn (by omega), r3, hT]
  · have e0 : ¬ nI n = 0 := nI_ne0 (by omega) (by omega)
    have e1 : ¬ nI n = -1 := nI_nm1 (by omega)
    rw [if_neg e] at r3
    simp only [e0, not_false_eq_true, true_implies, not_true_eq_false, false_implies, true_and, and_true, false_and, and_false, forall_const, imp_self, implies_true, if_true, if_false, eq_self, Bool.true_eq_false, Bool.false_eq_true, false_or, or_false, true_or, or_true]
    refine p_emp hv (fun I' J' R' f g hs hp => ?_)
    obtain ⟨h0, h1, h2, h3, h4, h5, h6, h7, h8, h9, h10, h11, h12, h13⟩ := hs; obtain ⟨c1, c2, c3, c4, c5, c6, c7, c8⟩ := id h1
    have r3' : I' 1 19 j = nI n := (f.1 1 19 j rfl).trans r3
    simp only [fr_0 h, fr_1 h, fr_7 h, fr_23 h, fm_19 h, fj_3 h hjn, fj_14 h hjn, hi_q h, hj_q h, si_q h, sj_q h, vv_5 h, vs_5 h, vv_7 h, vs_7 h, vv_8 h, vs_8 h, vv_9 h, vs_9 h, vv_11 h, vs_11 h, vv_17 h, vs_17 h, vv_18 h, vs_18 h, vj_3 h, vj_4 h, vj_5 h, ex_some, ex_def, all_def, true_and, and_true, Nat.reduceLT, nI_clamp hj, vin (show j < 200 by omega) (by decide)]
    simp [up3, c8, nI_ge hjn (by omega), r3', e1]
    refine ⟨A, B, S, nc, nw, nm, nj, cw, jc, _, _, _, rfl, rfl, rfl, rfl, h, ⟨h0, (vCnt_c (by repeat (first | exact Ag.rf | refine Ag.up ?_ rfl | refine Ag.ur ?_ (fun _ => rfl))) h1), (vCr_c (by repeat (first | exact Ag.rf | refine Ag.up ?_ rfl | refine Ag.ur ?_ (fun _ => rfl))) (by repeat (first | exact Ag.rf | refine Ag.up ?_ rfl | refine Ag.ur ?_ (fun _ => rfl))) h2), (vJo_c (by repeat (first | exact Ag.rf | refine Ag.up ?_ rfl | refine Ag.ur ?_ (fun _ => rfl))) (by repeat (first | exact Ag.rf | refine Ag.up ?_ rfl | refine Ag.ur ?_ (fun _ => rfl))) h3), (vOd_c (by repeat (first | exact Ag.rf | refine Ag.up ?_ rfl | refine Ag.ur ?_ (fun _ => rfl))) (by repeat (first | exact Ag.rf | refine Ag.up ?_ rfl | refine Ag.ur ?_ (fun _ => rfl))) h4), (vLs_c (by repeat (first | exact Ag.rf | refine Ag.up ?_ rfl | refine Ag.ur ?_ (fun _ => rfl))) (by repeat (first | exact Ag.rf | refine Ag.up ?_ rfl | refine Ag.ur ?_ (fun _ => rfl))) (fun _ => rfl) (fun _ => rfl) rfl h5), (vLn_c (by repeat (first | exact Ag.rf | refine Ag.up ?_ rfl | refine Ag.ur ?_ (fun _ => rfl))) (by repeat (first | exact Ag.rf | refine Ag.up ?_ rfl | refine Ag.ur ?_ (fun _ => rfl))) h6), (vNd_c (by repeat (first | exact Ag.rf | refine Ag.up ?_ rfl | refine Ag.ur ?_ (fun _ => rfl))) (by repeat (first | exact Ag.rf | refine Ag.up ?_ rfl | refine Ag.ur ?_ (fun _ => rfl))) h7), (vAm_c (by repeat (first | exact Ag.rf | refine Ag.up ?_ rfl | refine Ag.ur ?_ (fun _ => rfl))) h8), (vAm_c (by repeat (first | exact Ag.rf | refine Ag.up ?_ rfl | refine Ag.ur ?_ (fun _ => rfl))) h9), ?_, (vPl_c (by repeat (first | exact Ag.rf | refine Ag.up ?_ rfl | refine Ag.ur ?_ (fun _ => rfl))) h11), (vFs_c (by repeat (first | exact Ag.rf | refine Ag.up ?_ rfl | refine Ag.ur ?_ (fun _ => rfl))) (by repeat (first | exact Ag.rf | refine Ag.up ?_ rfl | refine Ag.ur ?_ (fun _ => rfl))) h12), (vZr_c (by repeat (first | exact Ag.rf | refine Ag.up ?_ rfl | refine Ag.ur ?_ (fun _ => rfl))) h13)⟩, (Or.inl ⟨nRc_c (by repeat (first | exact Ag.rf | refine Ag.up ?_ rfl | refine Ag.ur ?_ (fun _ => rfl))) g, by simp [up3]⟩), (vPa_c (by repeat (first | exact Ag.rf | refine Ag.up ?_ rfl | refine Ag.ur ?_ (fun _ => rfl))) (by repeat (first | exact Ag.rf | refine Ag.up ?_ rfl | refine Ag.ur ?_ (fun _ => rfl))) hp)⟩
    intro j' hj'
    by_cases e : j' = j
    · subst e
      obtain ⟨-, w2⟩ := h10 j' hj'
      exact ⟨⟨0, by omega, by simp [up3]; decide, by simp [up3], fun i hi => absurd hi (Nat.not_lt_zero i)⟩, by simp [up3]; exact w2⟩
    · simp [up3, e]; exact h10 j' hj'
theorem law11 (hv : iv A B S nc nw nm nj cw jc I J R) (b1 : vp_in (l4 + 1) L) (b2 : vp_in (l4 + 2) L) (b3 : vp_in (l4 + 3) L) : wp_law_c11 (hq A B S I J R) (A 0 0) (A 0 23) (A 0 24) xs L l4 (Iv (A 0 0) (A 0 23) (A 0 24)) := by
  have h := hv.1
  have hT := iv_t hv 0
  obtain ⟨n1, n2, n3, n4, n5, n6⟩ := hv.2.1.1
  obtain ⟨k1, k2, k3, k4, k5, k6, k7, k8⟩ := hv.2.1.2.1
  unfold wp_law_c11 wp_X11_plan wp_X12_plan wp_X9_hasJob wp_X12_isJob wp_X12_done
  generalize xs (l4 + 1).toNatClampNeg = a1
  generalize xs (l4 + 2).toNatClampNeg = a2
  generalize xs (l4 + 3).toNatClampNeg = a3
  simp only [fr_0 h, fr_1 h, fr_4 h, fr_7 h, fr_23 h, fm_8 h, fm_20 h, fm_21 h, hi_q h, hj_q h, si_q h, sj_q h, vv_5 h, vs_5 h, vv_7 h, vs_7 h, vv_8 h, vs_8 h, vv_9 h, vs_9 h, vv_11 h, vs_11 h, vv_17 h, vs_17 h, vv_18 h, vs_18 h, vj_3 h, vj_4 h, vj_5 h, ex_some, ex_def, all_def, true_and, and_true, Nat.reduceLT, b1, b2, b3, k4]
  rcases i32c a1 with z | ⟨j, hj, rfl⟩
  · simp [z, hT]
  rcases (Nat.lt_or_ge j nj).symm with hjn | hjn
  · simp [nI_pos hj, nI_le (show nj ≤ j by omega) hj, up3, k8, hT]
  obtain ⟨hR7, -, -, -, hmi, -⟩ := hv.2.1.2.2.2.1 j hjn
  simp only [nI_pos hj, nI_ge hjn (by omega), show ¬ ((1 : Int32) = 0) by decide, vin (show j < 200 by omega) (by decide), nI_clamp hj, hR7, ex_some, fj_3 h hjn, hi_q h, Nat.reduceLT, hmi, not_false_eq_true, true_implies, not_true_eq_false, false_implies, true_and, and_true, false_and, and_false, forall_const, imp_self, implies_true, if_true, if_false, eq_self, Bool.true_eq_false, Bool.false_eq_true, false_or, or_false, true_or, or_true]
  by_cases z1 : a2 < 1
  · simp [up3, k8, nI_ge hjn (by omega), z1, hT]
  by_cases z2 : I 1 8 j < a2
  · simp [up3, k8, nI_ge hjn (by omega), z1, z2, hT]
  by_cases z3 : a3 < 1
  · simp [up3, k8, nI_ge hjn (by omega), z1, z2, z3, hT]
  by_cases z4 : a3 ≤ 9
  case neg => simp [up3, k8, nI_ge hjn (by omega), z1, z2, z3, z4, hT]
  simp only [z1, z2, z3, z4, not_false_eq_true, true_implies, not_true_eq_false, false_implies, true_and, and_true, false_and, and_false, forall_const, imp_self, implies_true, if_true, if_false, eq_self, Bool.true_eq_false, Bool.false_eq_true, false_or, or_false, true_or, or_true]
  refine p_emp hv (fun I' J' R' f g hs hp => ?_)
  obtain ⟨h0, h1, h2, h3, h4, h5, h6, h7, h8, h9, h10, h11, h12, h13⟩ := hs; obtain ⟨c1, c2, c3, c4, c5, c6, c7, c8⟩ := id h1
  have z2' : ¬ I' 1 8 j < a2 := by rw [f.1 1 8 j rfl]; exact z2
  simp only [fr_0 h, fr_1 h, fr_7 h, fr_23 h, fm_8 h, fm_20 h, fm_21 h, fj_3 h hjn, hi_q h, hj_q h, si_q h, sj_q h, vv_5 h, vs_5 h, vv_7 h, vs_7 h, vv_8 h, vs_8 h, vv_9 h, vs_9 h, vv_11 h, vs_11 h, vv_17 h, vs_17 h, vv_18 h, vs_18 h, vj_3 h, vj_4 h, vj_5 h, ex_some, ex_def, all_def, true_and, and_true, Nat.reduceLT, nI_clamp hj, vin (show j < 200 by omega) (by decide)]
  simp [up3, c8, nI_ge hjn (by omega), z2']
  refine ⟨A, B, S, nc, nw, nm, nj, cw, jc, _, _, _, rfl, rfl, rfl, rfl, h, ⟨h0, (vCnt_c (by repeat (first | exact Ag.rf | refine Ag.up ?_ rfl | refine Ag.ur ?_ (fun _ => rfl))) h1), (vCr_c (by repeat (first | exact Ag.rf | refine Ag.up ?_ rfl | refine Ag.ur ?_ (fun _ => rfl))) (by repeat (first | exact Ag.rf | refine Ag.up ?_ rfl | refine Ag.ur ?_ (fun _ => rfl))) h2), (vJo_c (by repeat (first | exact Ag.rf | refine Ag.up ?_ rfl | refine Ag.ur ?_ (fun _ => rfl))) (by repeat (first | exact Ag.rf | refine Ag.up ?_ rfl | refine Ag.ur ?_ (fun _ => rfl))) h3), (vOd_c (by repeat (first | exact Ag.rf | refine Ag.up ?_ rfl | refine Ag.ur ?_ (fun _ => rfl))) (by repeat (first | exact Ag.rf | refine Ag.up ?_ rfl | refine Ag.ur ?_ (fun _ => rfl))) h4), (vLs_c (by repeat (first | exact Ag.rf | refine Ag.up ?_ rfl | refine Ag.ur ?_ (fun _ => rfl))) (by repeat (first | exact Ag.rf | refine Ag.up ?_ rfl | refine Ag.ur ?_ (fun _ => rfl))) (fun _ => rfl) (fun _ => rfl) rfl h5), (vLn_c (by repeat (first | exact Ag.rf | refine Ag.up ?_ rfl | refine Ag.ur ?_ (fun _ => rfl))) (by repeat (first | exact Ag.rf | refine Ag.up ?_ rfl | refine Ag.ur ?_ (fun _ => rfl))) h6), (vNd_c (by repeat (first | exact Ag.rf | refine Ag.up ?_ rfl | refine Ag.ur ?_ (fun _ => rfl))) (by repeat (first | exact Ag.rf | refine Ag.up ?_ rfl | refine Ag.ur ?_ (fun _ => rfl))) h7), (vAm_c (by repeat (first | exact Ag.rf | refine Ag.up ?_ rfl | refine Ag.ur ?_ (fun _ => rfl))) h8), (vAm_c (by repeat (first | exact Ag.rf | refine Ag.up ?_ rfl | refine Ag.ur ?_ (fun _ => rfl))) h9), (vRc_c (by repeat (first | exact Ag.rf | refine Ag.up ?_ rfl | refine Ag.ur ?_ (fun _ => rfl))) h10), ?_, (vFs_c (by repeat (first | exact Ag.rf | refine Ag.up ?_ rfl | refine Ag.ur ?_ (fun _ => rfl))) (by repeat (first | exact Ag.rf | refine Ag.up ?_ rfl | refine Ag.ur ?_ (fun _ => rfl))) h12), (vZr_c (by repeat (first | exact Ag.rf | refine Ag.up ?_ rfl | refine Ag.ur ?_ (fun _ => rfl))) h13)⟩, (Or.inl ⟨nRc_c (by repeat (first | exact Ag.rf | refine Ag.up ?_ rfl | refine Ag.ur ?_ (fun _ => rfl))) g, by simp [up3]⟩), (vPa_c (by repeat (first | exact Ag.rf | refine Ag.up ?_ rfl | refine Ag.ur ?_ (fun _ => rfl))) (by repeat (first | exact Ag.rf | refine Ag.up ?_ rfl | refine Ag.ur ?_ (fun _ => rfl))) hp)⟩
  intro j' hj'
  by_cases e : j' = j
  · subst e
    simp [up3]
    have q1 := i_ge (k := 1) (by decide) z1
    have q3 := i_ge (k := 1) (by decide) z3
    have q4 := i_le (k := 9) (by decide) z4
    rw [Int32.lt_iff_toInt_lt] at z2'
    refine ⟨by omega, by omega, fun _ => ⟨by omega, by omega⟩⟩
  · simp [up3, e]; exact h11 j' hj'
theorem law14 (hv : iv A B S nc nw nm nj cw jc I J R) : wp_law_c14 (hq A B S I J R) (A 0 0) (A 0 23) (A 0 24) xs L l4 (Iv (A 0 0) (A 0 23) (A 0 24)) := by
  have h := hv.1
  have hT := iv_t hv 0
  obtain ⟨n1, n2, n3, n4, n5, n6⟩ := hv.2.1.1
  obtain ⟨k1, k2, k3, k4, k5, k6, k7, k8⟩ := hv.2.1.2.1
  unfold wp_law_c14 wp_X11_again wp_X12_again
  simp only [fr_0 h, fr_4 h, hi_q h, hj_q h, si_q h, sj_q h, vv_5 h, vs_5 h, vv_7 h, vs_7 h, vv_8 h, vs_8 h, vv_9 h, vs_9 h, vv_11 h, vs_11 h, vv_17 h, vs_17 h, vv_18 h, vs_18 h, vj_3 h, vj_4 h, vj_5 h, ex_some, ex_def, all_def, true_and, and_true, Nat.reduceLT]
  have hr : (I 0 4 8 = 0 ∨ I 0 4 8 = 1) ∧ I 0 23 22 = I 0 4 8 := by
    rcases hv.2.2.1 with q | q
    · exact ⟨Or.inl q.1.1, q.2.trans q.1.1.symm⟩
    · exact ⟨Or.inr q.1, q.2.1.trans q.1.symm⟩
  refine p_emp hv (fun I' J' R' f g hs hp => ⟨hr.1, ?_⟩)
  obtain ⟨h0, h1, h2, h3, h4, h5, h6, h7, h8, h9, h10, h11, h12, h13⟩ := hs; obtain ⟨c1, c2, c3, c4, c5, c6, c7, c8⟩ := id h1
  have e22 : I' 0 23 22 = I 0 4 8 := (f.1 0 23 22 rfl).trans hr.2
  simp only [fr_0 h, fr_23 h, hi_q h, hj_q h, si_q h, sj_q h, vv_5 h, vs_5 h, vv_7 h, vs_7 h, vv_8 h, vs_8 h, vv_9 h, vs_9 h, vv_11 h, vs_11 h, vv_17 h, vs_17 h, vv_18 h, vs_18 h, vj_3 h, vj_4 h, vj_5 h, ex_some, ex_def, all_def, true_and, and_true, Nat.reduceLT]
  simp only [up3_off (show ¬ ((0 : Nat) = 0 ∧ (23 : Nat) = 23 ∧ (22 : Nat) = 0) by decide), e22]
  refine ⟨hr.1, fun _ => ?_, fun z => absurd trivial z⟩
  exact ⟨A, B, S, nc, nw, nm, nj, cw, jc, _, _, _, rfl, rfl, rfl, rfl, h, ⟨h0, (vCnt_c (by repeat (first | exact Ag.rf | refine Ag.up ?_ rfl | refine Ag.ur ?_ (fun _ => rfl))) h1), (vCr_c (by repeat (first | exact Ag.rf | refine Ag.up ?_ rfl | refine Ag.ur ?_ (fun _ => rfl))) (by repeat (first | exact Ag.rf | refine Ag.up ?_ rfl | refine Ag.ur ?_ (fun _ => rfl))) h2), (vJo_c (by repeat (first | exact Ag.rf | refine Ag.up ?_ rfl | refine Ag.ur ?_ (fun _ => rfl))) (by repeat (first | exact Ag.rf | refine Ag.up ?_ rfl | refine Ag.ur ?_ (fun _ => rfl))) h3), (vOd_c (by repeat (first | exact Ag.rf | refine Ag.up ?_ rfl | refine Ag.ur ?_ (fun _ => rfl))) (by repeat (first | exact Ag.rf | refine Ag.up ?_ rfl | refine Ag.ur ?_ (fun _ => rfl))) h4), (vLs_c (by repeat (first | exact Ag.rf | refine Ag.up ?_ rfl | refine Ag.ur ?_ (fun _ => rfl))) (by repeat (first | exact Ag.rf | refine Ag.up ?_ rfl | refine Ag.ur ?_ (fun _ => rfl))) (fun _ => rfl) (fun _ => rfl) rfl h5), (vLn_c (by repeat (first | exact Ag.rf | refine Ag.up ?_ rfl | refine Ag.ur ?_ (fun _ => rfl))) (by repeat (first | exact Ag.rf | refine Ag.up ?_ rfl | refine Ag.ur ?_ (fun _ => rfl))) h6), (vNd_c (by repeat (first | exact Ag.rf | refine Ag.up ?_ rfl | refine Ag.ur ?_ (fun _ => rfl))) (by repeat (first | exact Ag.rf | refine Ag.up ?_ rfl | refine Ag.ur ?_ (fun _ => rfl))) h7), (vAm_c (by repeat (first | exact Ag.rf | refine Ag.up ?_ rfl | refine Ag.ur ?_ (fun _ => rfl))) h8), (vAm_c (by repeat (first | exact Ag.rf | refine Ag.up ?_ rfl | refine Ag.ur ?_ (fun _ => rfl))) h9), (vRc_c (by repeat (first | exact Ag.rf | refine Ag.up ?_ rfl | refine Ag.ur ?_ (fun _ => rfl))) h10), (vPl_c (by repeat (first | exact Ag.rf | refine Ag.up ?_ rfl | refine Ag.ur ?_ (fun _ => rfl))) h11), (vFs_c (by repeat (first | exact Ag.rf | refine Ag.up ?_ rfl | refine Ag.ur ?_ (fun _ => rfl))) (by repeat (first | exact Ag.rf | refine Ag.up ?_ rfl | refine Ag.ur ?_ (fun _ => rfl))) h12), (vZr_c (by repeat (first | exact Ag.rf | refine Ag.up ?_ rfl | refine Ag.ur ?_ (fun _ => rfl))) h13)⟩, (Or.inl ⟨nRc_c (by repeat (first | exact Ag.rf | refine Ag.up ?_ rfl | refine Ag.ur ?_ (fun _ => rfl))) g, by simp [up3]⟩), (vPa_c (by repeat (first | exact Ag.rf | refine Ag.up ?_ rfl | refine Ag.ur ?_ (fun _ => rfl))) (by repeat (first | exact Ag.rf | refine Ag.up ?_ rfl | refine Ag.ur ?_ (fun _ => rfl))) hp)⟩
end MW
