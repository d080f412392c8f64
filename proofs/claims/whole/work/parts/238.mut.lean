section MT
variable {A : Nat → Nat → Nat} {B : Nat → Nat × Nat} {S : Hp} {nc nw nm nj : Nat} {cw jc : Nat → Nat} {I : FI} {J : FJ} {R : FR} {xs : Nat → Int32} {L : Nat} {l4 : Int32}
theorem iv_t (hv : iv A B S nc nw nm nj cw jc I J R) (v : Int32) : Iv (A 0 0) (A 0 23) (A 0 24) (hq A B S (up3 I 0 23 0 v) J R) :=
  ⟨A, B, S, nc, nw, nm, nj, cw, jc, _, _, _, rfl, rfl, rfl, rfl, hv.1, vSt_c (Fy.rf.I rfl) hv.2.1, vRn_c (Ag.up Ag.rf rfl) Ag.rf hv.2.2.1, vPa_c (Ag.up Ag.rf rfl) Ag.rf hv.2.2.2⟩
theorem law1 (hv : iv A B S nc nw nm nj cw jc I J R) : wp_law_c1 (hq A B S I J R) (A 0 0) (A 0 23) (A 0 24) xs L l4 (Iv (A 0 0) (A 0 23) (A 0 24)) := by
  have h := hv.1
  unfold wp_law_c1 wp_X11_machine
  simp only [fr_0 h, fr_1 h, fr_4 h, hi_q h, hj_q h, si_q h, sj_q h, vv_5 h, vs_5 h, vv_7 h, vs_7 h, vv_8 h, vs_8 h, vv_9 h, vs_9 h, vv_11 h, vs_11 h, vv_17 h, vs_17 h, vv_18 h, vs_18 h, vj_3 h, vj_4 h, vj_5 h, ex_some, ex_def, all_def, true_and, and_true, Nat.reduceLT]
  obtain ⟨-, -, hcm, -, -, -, hmm, -⟩ := hv.2.1.2.1
  have hm40 := hv.2.1.1.2.2.1
  rw [hcm]
  by_cases e : nm = 40
  · subst e
    refine ⟨fun z => absurd z (by decide), fun _ => ?_⟩
    unfold wp_X12_machine
    simp only [fr_23 h, hi_q h, hj_q h, si_q h, sj_q h, vv_5 h, vs_5 h, vv_7 h, vs_7 h, vv_8 h, vs_8 h, vv_9 h, vs_9 h, vv_11 h, vs_11 h, vv_17 h, vs_17 h, vv_18 h, vs_18 h, vj_3 h, vj_4 h, vj_5 h, ex_some, ex_def, all_def, true_and, and_true, Nat.reduceLT, up3_off (show ¬ ((0 : Nat) = 0 ∧ (23 : Nat) = 23 ∧ (3 : Nat) = 0) by decide), hmm]
    exact ⟨fun _ => ⟨fun _ => iv_t hv 0, fun z => absurd trivial z⟩, fun z => absurd rfl z⟩
  · refine ⟨fun _ => ?_, fun z => absurd (nI_lt (a := nm) (b := 40) (by omega) (by decide)) z⟩
    refine p_emp hv (fun I' J' R' f g hs hp => ?_)
    obtain ⟨h0, h1, h2, h3, h4, h5, h6, h7, h8, h9, h10, h11, h12, h13⟩ := hs
    obtain ⟨c1, c2, hcm, c4, c5, c6, hmm, c8⟩ := id h1
    have e40 : ¬ nI nm = 40 := fun z => e ((nI_eq (b := 40) (by omega) (by decide)).mp z)
    unfold wp_X9_addMachine wp_X12_machine wp_X12_done
    simp only [fr_0 h, fr_1 h, fr_23 h, hi_q h, hj_q h, si_q h, sj_q h, vv_5 h, vs_5 h, vv_7 h, vs_7 h, vv_8 h, vs_8 h, vv_9 h, vs_9 h, vv_11 h, vs_11 h, vv_17 h, vs_17 h, vv_18 h, vs_18 h, vj_3 h, vj_4 h, vj_5 h, ex_some, ex_def, all_def, true_and, and_true, Nat.reduceLT]
    simp [up3, hcm, hmm, e40]
    refine ⟨A, B, S, nc, nw, nm + 1, nj, cw, jc, _, _, _, rfl, rfl, rfl, rfl, h, ⟨⟨h0.1, h0.2.1, by omega, h0.2.2.2⟩, ?_, (vCr_c (by repeat (first | exact Ag.rf | refine Ag.up ?_ rfl | refine Ag.ur ?_ (fun _ => rfl))) (by repeat (first | exact Ag.rf | refine Ag.up ?_ rfl | refine Ag.ur ?_ (fun _ => rfl))) h2), (vJo_c (by repeat (first | exact Ag.rf | refine Ag.up ?_ rfl | refine Ag.ur ?_ (fun _ => rfl))) (by repeat (first | exact Ag.rf | refine Ag.up ?_ rfl | refine Ag.ur ?_ (fun _ => rfl))) h3), (vOd_c (by repeat (first | exact Ag.rf | refine Ag.up ?_ rfl | refine Ag.ur ?_ (fun _ => rfl))) (by repeat (first | exact Ag.rf | refine Ag.up ?_ rfl | refine Ag.ur ?_ (fun _ => rfl))) h4), (vLs_c (by repeat (first | exact Ag.rf | refine Ag.up ?_ rfl | refine Ag.ur ?_ (fun _ => rfl))) (by repeat (first | exact Ag.rf | refine Ag.up ?_ rfl | refine Ag.ur ?_ (fun _ => rfl))) (fun _ => rfl) (fun _ => rfl) rfl h5), (vLn_c (by repeat (first | exact Ag.rf | refine Ag.up ?_ rfl | refine Ag.ur ?_ (fun _ => rfl))) (by repeat (first | exact Ag.rf | refine Ag.up ?_ rfl | refine Ag.ur ?_ (fun _ => rfl))) h6), (vNd_c (by repeat (first | exact Ag.rf | refine Ag.up ?_ rfl | refine Ag.ur ?_ (fun _ => rfl))) (by repeat (first | exact Ag.rf | refine Ag.up ?_ rfl | refine Ag.ur ?_ (fun _ => rfl))) h7), (vAm_c (by repeat (first | exact Ag.rf | refine Ag.up ?_ rfl | refine Ag.ur ?_ (fun _ => rfl))) h8), (vAm_c (by repeat (first | exact Ag.rf | refine Ag.up ?_ rfl | refine Ag.ur ?_ (fun _ => rfl))) h9), (vRc_c (by repeat (first | exact Ag.rf | refine Ag.up ?_ rfl | refine Ag.ur ?_ (fun _ => rfl))) h10), (vPl_c (by repeat (first | exact Ag.rf | refine Ag.up ?_ rfl | refine Ag.ur ?_ (fun _ => rfl))) h11), (vFs_c (by repeat (first | exact Ag.rf | refine Ag.up ?_ rfl | refine Ag.ur ?_ (fun _ => rfl))) (by repeat (first | exact Ag.rf | refine Ag.up ?_ rfl | refine Ag.ur ?_ (fun _ => rfl))) h12), ?_⟩, (Or.inl ⟨nRc_c (by repeat (first | exact Ag.rf | refine Ag.up ?_ rfl | refine Ag.ur ?_ (fun _ => rfl))) g, by simp [up3]⟩), (vPa_c (by repeat (first | exact Ag.rf | refine Ag.up ?_ rfl | refine Ag.ur ?_ (fun _ => rfl))) (by repeat (first | exact Ag.rf | refine Ag.up ?_ rfl | refine Ag.ur ?_ (fun _ => rfl))) hp)⟩
    · simp [vCnt, up3, c1, c2, c4, c5, c6, c8, nI_succ]
    · obtain ⟨z1, z2, z3⟩ := ((vZr_c (by repeat (first | exact Ag.rf | refine Ag.up ?_ rfl | refine Ag.ur ?_ (fun _ => rfl))) h13) : vZr nj nm _)
      exact ⟨z1, fun j m a b d => z2 j m a b (by omega), z3⟩
theorem i40 (j m : Nat) : (40 : Int32) * nI j + nI m = nI (40 * j + m) := by rw [c40, nI_mul, nI_add]
theorem i60 (j m : Nat) : (60 : Int32) * nI j + nI m = nI (60 * j + m) := by rw [c60, nI_mul, nI_add]
theorem i30 (j m : Nat) : (30 : Int32) * nI j + nI m = nI (30 * j + m) := by rw [c30, nI_mul, nI_add]
theorem i200 (j m : Nat) : (200 : Int32) * nI j + nI m = nI (200 * j + m) := by rw [c200, nI_mul, nI_add]
theorem law5 (hv : iv A B S nc nw nm nj cw jc I J R) (b1 : vp_in (l4 + 1) L) (b2 : vp_in (l4 + 2) L) : wp_law_c5 (hq A B S I J R) (A 0 0) (A 0 23) (A 0 24) xs L l4 (Iv (A 0 0) (A 0 23) (A 0 24)) := by
  have h := hv.1
  have hT := iv_t hv 0
  obtain ⟨n1, n2, n3, n4, n5, n6⟩ := hv.2.1.1
  obtain ⟨k1, k2, k3, k4, k5, k6, k7, k8⟩ := hv.2.1.2.1
  unfold wp_law_c5 wp_X11_needs wp_X12_needs wp_X9_hasJob wp_X9_hasMachine wp_X12_isJob wp_X12_done
  generalize xs (l4 + 1).toNatClampNeg = a1
  generalize xs (l4 + 2).toNatClampNeg = a2
  simp only [fr_0 h, fr_1 h, fr_4 h, fr_7 h, fr_23 h, fm_12 h, hi_q h, hj_q h, si_q h, sj_q h, vv_5 h, vs_5 h, vv_7 h, vs_7 h, vv_8 h, vs_8 h, vv_9 h, vs_9 h, vv_11 h, vs_11 h, vv_17 h, vs_17 h, vv_18 h, vs_18 h, vj_3 h, vj_4 h, vj_5 h, ex_some, ex_def, all_def, true_and, and_true, Nat.reduceLT, k3, k4, b1, b2]
  rcases i32c a1 with z | ⟨j, hj, rfl⟩
  · simp [z, hT]
  rcases (Nat.lt_or_ge j nj).symm with hjn | hjn
  · simp [nI_pos hj, nI_le (show nj ≤ j by omega) hj, up3, k8, hT]
  rcases i32c a2 with z | ⟨m, hm, rfl⟩
  · simp [nI_pos hj, nI_ge hjn (by omega), up3, k8, z, hT]
  rcases (Nat.lt_or_ge m nm).symm with hmn | hmn
  · simp [nI_pos hj, nI_pos hm, nI_ge hjn (by omega), nI_le (show nm ≤ m by omega) hm, nI_nlt (show nm ≤ m by omega) hm, up3, k7, k8, hT]
  have hR7 := (hv.2.1.2.2.2.1 j hjn).1
  obtain ⟨hb0, hb1⟩ := (hv.2.1.2.2.2.2.2.2.2.1 j m hjn (by omega))
  have hb0 := hb0 (by omega)
  rw [decide_eq_true (show m < 40 by omega), Bool.true_and] at hb1
  simp only [nI_pos hj, nI_pos hm, nI_ge hjn (by omega), nI_ge hmn (by omega), nI_clamp hj, hR7, fj_3 h hjn, ex_some, vin (show j < 200 by omega) (by decide), jb_test (show m < 64 by omega), hj_q h, Nat.reduceLT, show ¬ ((1 : Int32) = 0) by decide, i40, not_false_eq_true, true_implies, not_true_eq_false, false_implies, true_and, and_true, false_and, and_false, forall_const, imp_self, implies_true, if_true, if_false, eq_self, Bool.true_eq_false, Bool.false_eq_true, false_or, or_false, true_or, or_true]
  cases hb : jb (J 3 j 7) m with
  | true =>
    rw [hb] at hb1
    have hc := of_decide_eq_true hb1.symm
    simp [up3, k7, k8, nI_ge hjn (by omega), nI_lt hmn (by omega), vin (show 40 * j + m < 8000 by omega) (by decide), nI_clamp (show 40 * j + m < 2 ^ 31 by omega), hc, hT]
  | false =>
    rw [hb] at hb1
    have hc : I 1 12 (40 * j + m) = 0 := by
      rcases hb0 with q | q
      · exact q
      · rw [q] at hb1; exact absurd hb1 (by decide)
    simp only [not_false_eq_true, true_implies, not_true_eq_false, false_implies, true_and, and_true, false_and, and_false, forall_const, imp_self, implies_true, if_true, if_false, eq_self, Bool.true_eq_false, Bool.false_eq_true, false_or, or_false, true_or, or_true]
    refine p_emp hv (fun I' J' R' f g hs hp => ?_)
    obtain ⟨h0, h1, h2, h3, h4, h5, h6, h7, h8, h9, h10, h11, h12, h13⟩ := hs
    obtain ⟨c1, c2, hcm, c4, c5, c6, hmm, c8⟩ := id h1
    have hR7 := (h3 j hjn).1
    have hc : I' 1 12 (40 * j + m) = 0 := (f.1 1 12 _ rfl).trans hc
    simp only [fr_0 h, fr_1 h, fr_7 h, fr_23 h, fm_12 h, fj_3 h hjn, hi_q h, hj_q h, si_q h, sj_q h, vv_5 h, vs_5 h, vv_7 h, vs_7 h, vv_8 h, vs_8 h, vv_9 h, vs_9 h, vv_11 h, vs_11 h, vv_17 h, vs_17 h, vv_18 h, vs_18 h, vj_3 h, vj_4 h, vj_5 h, ex_some, ex_def, all_def, true_and, and_true, Nat.reduceLT, nI_clamp hj, hR7, vin (show j < 200 by omega) (by decide)]
    simp [up3, hmm, c8, nI_ge hjn (by omega), nI_lt hmn (by omega), vin (show 40 * j + m < 8000 by omega) (by decide), nI_clamp (show 40 * j + m < 2 ^ 31 by omega), hc]
    refine ⟨A, B, S, nc, nw, nm, nj, cw, jc, _, _, _, rfl, rfl, rfl, rfl, h, ⟨h0, (vCnt_c (by repeat (first | exact Ag.rf | refine Ag.up ?_ rfl | refine Ag.ur ?_ (fun _ => rfl))) h1), (vCr_c (by repeat (first | exact Ag.rf | refine Ag.up ?_ rfl | refine Ag.ur ?_ (fun _ => rfl))) (by repeat (first | exact Ag.rf | refine Ag.up ?_ rfl | refine Ag.ur ?_ (fun _ => rfl))) h2), (vJo_c (by repeat (first | exact Ag.rf | refine Ag.up ?_ rfl | refine Ag.ur ?_ (fun _ => rfl))) (by repeat (first | exact Ag.rf | refine Ag.up ?_ rfl | refine Ag.ur ?_ (fun _ => rfl))) h3), (vOd_c (by repeat (first | exact Ag.rf | refine Ag.up ?_ rfl | refine Ag.ur ?_ (fun _ => rfl))) (by repeat (first | exact Ag.rf | refine Ag.up ?_ rfl | refine Ag.ur ?_ (fun _ => rfl))) h4), (vLs_c (by repeat (first | exact Ag.rf | refine Ag.up ?_ rfl | refine Ag.ur ?_ (fun _ => rfl))) (by repeat (first | exact Ag.rf | refine Ag.up ?_ rfl | refine Ag.ur ?_ (fun _ => rfl))) (fun _ => rfl) (fun _ => rfl) rfl h5), (vLn_c (by repeat (first | exact Ag.rf | refine Ag.up ?_ rfl | refine Ag.ur ?_ (fun _ => rfl))) (by repeat (first | exact Ag.rf | refine Ag.up ?_ rfl | refine Ag.ur ?_ (fun _ => rfl))) h6), ?_, (vAm_c (by repeat (first | exact Ag.rf | refine Ag.up ?_ rfl | refine Ag.ur ?_ (fun _ => rfl))) h8), (vAm_c (by repeat (first | exact Ag.rf | refine Ag.up ?_ rfl | refine Ag.ur ?_ (fun _ => rfl))) h9), (vRc_c (by repeat (first | exact Ag.rf | refine Ag.up ?_ rfl | refine Ag.ur ?_ (fun _ => rfl))) h10), (vPl_c (by repeat (first | exact Ag.rf | refine Ag.up ?_ rfl | refine Ag.ur ?_ (fun _ => rfl))) h11), (vFs_c (by repeat (first | exact Ag.rf | refine Ag.up ?_ rfl | refine Ag.ur ?_ (fun _ => rfl))) (by repeat (first | exact Ag.rf | refine Ag.up ?_ rfl | refine Ag.ur ?_ (fun _ => rfl))) h12), ?_⟩, (Or.inl ⟨nRc_c (by repeat (first | exact Ag.rf | refine Ag.up ?_ rfl | refine Ag.ur ?_ (fun _ => rfl))) g, by simp [up3]⟩), (vPa_c (by repeat (first | exact Ag.rf | refine Ag.up ?_ rfl | refine Ag.ur ?_ (fun _ => rfl))) (by repeat (first | exact Ag.rf | refine Ag.up ?_ rfl | refine Ag.ur ?_ (fun _ => rfl))) hp)⟩
    · intro j' m' hj' hm'
      obtain ⟨q0, q1⟩ := h7 j' m' hj' hm'
      by_cases e : j' = j ∧ m' = m
      · obtain ⟨rfl, rfl⟩ := e
        simp [up3, jb_or, jb_one (show m' < 64 by omega)]
        omega
      · have e1 : ¬ (m' < 40 ∧ 40 * j' + m' = 40 * j + m) := by omega
        by_cases e2 : m' < 40
        · have e3 : ¬ (40 * j' + m' = 40 * j + m) := by omega
          by_cases e4 : j' = j
          · subst e4
            have e5 : ¬ m' = m := by omega
            simp [up3, e3, e2, jb_or, jb_one (show m < 64 by omega), e5]
            simp [e2] at q0 q1
            exact ⟨q0, q1⟩
          · simp [up3, e3, e4]; exact ⟨q0, q1⟩
        · by_cases e4 : j' = j
          · subst e4
            have e5 : ¬ m' = m := by omega
            simp [up3, e2, jb_or, jb_one (show m < 64 by omega), e5]
            simpa [e2] using q1
          · simp [up3, e2, e4]; simpa [e2] using q1
    · obtain ⟨z1, z2, z3, z4⟩ := h13
      refine ⟨fun j' b' a b d => by simp [up3]; exact z1 j' b' a b d, fun j' m' a b d => ?_, fun j' b' a b d => by simp [up3]; exact z3 j' b' a b d, fun j' a b => by simp [up3]; exact z4 j' a b⟩
      have e3 : ¬ (40 * j' + m' = 40 * j + m) := by omega
      simp [up3, e3]; exact z2 j' m' a b d
end MT
