section PW
variable {A : Nat → Nat → Nat} {B : Nat → Nat × Nat} {S : Hp} {nc nw nm nj : Nat} {cw jc : Nat → Nat} {I : FI} {J : FJ} {R : FR} {xs : Nat → Int32} {L : Nat} {l4 : Int32}
variable {Q : Int32 → Hp → Prop}
theorem iv_fr (hv : iv A B S nc nw nm nj cw jc I J R) (f : I 0 2 7 = 1) : pSol nj (fun j => (I 1 8 j).toInt) (fun j k => I 1 10 (200 * k + j) = 1) (fun j => (I 3 j 14).toInt) ∧ pSol nj (fun j => (I 1 8 j).toInt) (fun j k => I 1 10 (200 * j + k) = 1) (fun j => (I 3 j 13).toInt) ∧ ∃ cn ch, chn I nj (fun j => I 3 j 14) cn ch ∧ I 0 2 5 = nI cn ∧ (∀ i, i < cn → R 0 11 i = some (A 3 (ch i))) ∧ I 0 2 6 = (if cn = 0 then 0 else I 3 (ch 0) 14) := by
  rcases hv.2.2.2 with w | ⟨-, a, b, cn, ch, c1, c2, c3, c4, c5, c6⟩
  · rw [w] at f; exact absurd f (by decide)
  · exact ⟨a, b, cn, ch, ⟨c1, fun i hi => (c3 i hi).2, c4, c5⟩, c2, fun i hi => (c3 i hi).1, c6⟩
theorem p_lenv {v : Int32} (hv : iv A B S nc nw nm nj cw jc I J R) (f : I 0 2 7 = 1) (hQ : ∀ I', lX A B S nc nw nm nj cw jc (up3 I 0 23 0 v) J R I' → (∀ j, j < nj → I' 1 46 j = I 3 j 14 ∧ I' 1 47 j = I 3 j 13) → iv A B S nc nw nm nj cw jc I' J R → Q (I 0 2 6) (hq A B S I' J R)) : wp_X12_lengths (hq A B S (up3 I 0 23 0 v) J R) (A 0 23) Q := by
  obtain ⟨hT, hH, cn, ch, hc, h5, hR, h6⟩ := iv_fr hv f
  have v0 := iv_t0 hv v
  have e6 : mxI nj (fun j => I 3 j 14) = I 0 2 6 := by
    rw [h6]
    exact mx_len hc (fun j hj => by
      have := (hT j hj).1
      have := (hv.2.1.2.2.2.1 j hj).2.2.2.2.2.1
      simp only at *
      omega)
  refine p_len (tc := fun j => I 3 j 14) (hc := fun j => I 3 j 13) hv.1 v0.2.1 hT hH (fun I' X' y' => ?_)
  rw [e6]
  exact hQ I' X' y' (iv_le v0 X')
theorem law25 (hv : iv A B S nc nw nm nj cw jc I J R) (b1 : vp_in (l4 + 1) L) : wp_law_c25 (hq A B S I J R) (A 0 0) (A 0 23) (A 0 24) xs L l4 (Iv (A 0 0) (A 0 23) (A 0 24)) := by
  have h := hv.1
  have hT := iv_t hv 0
  obtain ⟨n1, n2, n3, n4, n5, n6⟩ := hv.2.1.1
  obtain ⟨k1, k2, k3, k4, k5, k6, k7, k8⟩ := hv.2.1.2.1
  unfold wp_law_c25 wp_X11_critical
  generalize xs (l4 + 1).toNatClampNeg = a1
  refine ⟨b1, (fr_0 h _ _ _).1, ?_⟩
  rcases i32c a1 with z | ⟨i, hi, rfl⟩
  · have z0 : ¬ 0 ≤ a1 := i_nle.mpr z
    refine ⟨fun _ => ⟨b1, fr_23 h _ _ _, ?_⟩, fun w => absurd z w⟩
    unfold wp_X12_critical
    refine ⟨fr_23 h _ _ _, fun w => absurd w z0, fun _ => ?_⟩
    rw [si_q h (by decide)]
    exact ⟨fun _ => hT, fun w => absurd rfl w⟩
  · have nz : ¬ nI i < 0 := by rw [show (0 : Int32) = nI 0 from rfl, nI_lti hi (by decide)]; omega
    have pz : (0 : Int32) ≤ nI i := by rw [show (0 : Int32) = nI 0 from rfl, nI_leI (by decide) hi]; omega
    refine ⟨fun w => absurd w nz, fun _ => ⟨(fr_0 h _ _ _).1, A 0 2, (fr_0 h _ _ _).2.2.1, (fr_2 h _ _ _).1, ?_⟩⟩
    unfold wp_X6_chainLength
    refine ⟨(fr_2 h _ _ _).1, p_reckon hv (fun I1 R1 ag v1 f1 => ⟨(fr_2 h _ _ _).1, ?_⟩)⟩
    obtain ⟨hT1, hH1, cn, ch, hc, h5, hR, h6⟩ := iv_fr v1 f1
    have c2 := hc.1
    have ref : ∀ v, v = oI (cho cn ch i) → vp_in (l4 + 1) L ∧ hK (hq A B S I1 J R1) (A 0 23) = 14 ∧ wp_X12_critical (hq A B S I1 J R1) (A 0 23) (nI i) (fun r311 S310 => (v = r311 → Iv (A 0 0) (A 0 23) (A 0 24) S310) ∧ (¬ (v = r311) → False)) := fun v e => by
      refine ⟨b1, fr_23 h _ _ _, ?_⟩
      unfold wp_X12_critical
      refine ⟨fr_23 h _ _ _, fun _ => ?_, fun w => absurd pz w⟩
      rw [si_q h (by decide)]
      refine p_lenv v1 f1 (fun I2 X2 y2 v2 => ⟨fr_23 h _ _ _, ?_⟩)
      have hc' : chn (up3 I1 0 23 0 0) nj (fun j => I1 3 j 14) cn ch := hc
      refine p_noc (o := none) X2 (fun j hj => (y2 j hj).1) (fun j e => by cases e) (fun b hb => ?_)
      rw [pBst_u hb (chn_0 hc')]
      exact p_c24 X2 (fun j hj => (y2 j hj).1) hc' hi ⟨fun _ => iv_I v2, fun w => w e⟩ cn 0 FU (by omega) (Nat.zero_le _) (by unfold FU; omega) (Nat.zero_le _)
    have lt : nI i < nI cn ↔ i < cn := nI_lti hi (by omega)
    rw [hi_q h (by decide), h5, lt]
    refine ⟨fun z => ⟨(fr_0 h _ _ _).1, A 0 2, (fr_0 h _ _ _).2.2.1, (fr_2 h _ _ _).1, A 0 11, (fr_2 h _ _ _).2.2.2.2, (fr_11 h _ _ _).1, ?_, A 3 (ch i), ?_, (fj_3 h (hc.2.1 i z) _ _ _).1, ?_⟩, fun z => ref _ (by rw [cho, if_neg z]; rfl)⟩
    · rw [(fr_11 h _ _ _).2]; exact vin (show i < 200 by omega) (by decide)
    · rw [nI_clamp hi, vv_11 h]; exact hR i z
    · rw [hi_q h (by decide), (v1.2.1.2.2.2.1 (ch i) (hc.2.1 i z)).2.1]
      exact ref _ (by rw [cho, if_pos z]; rfl)
theorem law26 (hv : iv A B S nc nw nm nj cw jc I J R) (b1 : vp_in (l4 + 1) L) : wp_law_c26 (hq A B S I J R) (A 0 0) (A 0 23) (A 0 24) xs L l4 (Iv (A 0 0) (A 0 23) (A 0 24)) := by
  have h := hv.1
  have hT := iv_t hv 0
  obtain ⟨n1, n2, n3, n4, n5, n6⟩ := hv.2.1.1
  obtain ⟨k1, k2, k3, k4, k5, k6, k7, k8⟩ := hv.2.1.2.1
  have hT1 := iv_t hv 1
  unfold wp_law_c26 wp_L_slack wp_X11_slack wp_X11_knownJob wp_X12_slack wp_X9_hasJob wp_X12_isJob wp_X12_thrown wp_X6_longestTail
  generalize xs (l4 + 1).toNatClampNeg = a1
  simp only [fr_0 h, fr_1 h, fr_2 h, fr_7 h, fr_23 h, hi_q h, hj_q h, si_q h, sj_q h, vv_5 h, vs_5 h, vv_7 h, vs_7 h, vv_8 h, vs_8 h, vv_9 h, vs_9 h, vv_11 h, vs_11 h, vv_17 h, vs_17 h, vv_18 h, vs_18 h, vj_3 h, vj_4 h, vj_5 h, ex_some, ex_def, all_def, true_and, and_true, Nat.reduceLT, b1, k4]
  rcases i32c a1 with z | ⟨j, hj, rfl⟩
  · simp [z, up3, hT1]
  rcases (Nat.lt_or_ge j nj).symm with hjn | hjn
  · simp [nI_pos hj, nI_le (show nj ≤ j by omega) hj, up3, k8, hT1]
  have njj : ¬ nI nj ≤ nI j := nI_ge hjn (by omega)
  obtain ⟨hR7, -⟩ := hv.2.1.2.2.2.1 j hjn
  simp only [nI_pos hj, njj, show ¬ ((1 : Int32) = 0) by decide, vin (show j < 200 by omega) (show 200 < 2 ^ 31 by decide), nI_clamp hj, hR7, ex_some, fj_3 h hjn, not_false_eq_true, true_implies, not_true_eq_false, false_implies, true_and, and_true, false_and, and_false, forall_const, imp_self, implies_true, if_true, if_false, eq_self, Bool.true_eq_false, Bool.false_eq_true, false_or, or_false, true_or, or_true]
  refine p_reckon hv (fun I1 R1 ag v1 f1 => ?_)
  have k8' : I1 0 23 4 = nI nj := v1.2.1.2.1.2.2.2.2.2.2.2
  have m8 : I1 3 j 2 = I1 1 8 j := (v1.2.1.2.2.2.1 j hjn).2.2.2.2.1
  simp only [fr_2 h, fj_3 h hjn, fr_24 h, fr_23 h, hi_q h, hj_q h, si_q h, sj_q h, vv_5 h, vs_5 h, vv_7 h, vs_7 h, vv_8 h, vs_8 h, vv_9 h, vs_9 h, vv_11 h, vs_11 h, vv_17 h, vs_17 h, vv_18 h, vs_18 h, vj_3 h, vj_4 h, vj_5 h, ex_some, ex_def, all_def, true_and, and_true, Nat.reduceLT, vp01, cl0, k8', up3_same, nI_pos hj, njj, show ¬ ((1 : Int32) = 0) by decide, show (0 : Int32) ≤ 0 by decide, not_false_eq_true, true_implies, not_true_eq_false, false_implies, true_and, and_true, false_and, and_false, forall_const, imp_self, implies_true, if_true, if_false, eq_self, Bool.true_eq_false, Bool.false_eq_true, false_or, or_false, true_or, or_true]
  refine p_lenv (iv_o0 v1 _) f1 (fun I2 X2 y2 v2 => ?_)
  have t0 : I2 0 23 0 = 0 := (X2.2.2 0 23 0 rfl).trans (up3_same _ _ _ _ _)
  have m8' : I2 1 8 j = I1 3 j 2 := (X2.e (show 8 < 26 by decide) j).trans m8.symm
  simp only [fr_24 h, fr_23 h, fm_46 h, fm_47 h, fm_8 h, hi_q h, hj_q h, si_q h, sj_q h, vv_5 h, vs_5 h, vv_7 h, vs_7 h, vv_8 h, vs_8 h, vv_9 h, vs_9 h, vv_11 h, vs_11 h, vv_17 h, vs_17 h, vv_18 h, vs_18 h, vj_3 h, vj_4 h, vj_5 h, ex_some, ex_def, all_def, true_and, and_true, Nat.reduceLT, vp01, cl0, vin (show j < 200 by omega) (show 200 < 2 ^ 31 by decide), nI_clamp hj, (y2 j hjn).1, (y2 j hjn).2, m8', t0, up3_same, not_false_eq_true, true_implies, not_true_eq_false, false_implies, true_and, and_true, false_and, and_false, forall_const, imp_self, implies_true, if_true, if_false, eq_self, Bool.true_eq_false, Bool.false_eq_true, false_or, or_false, true_or, or_true]
  exact iv_I v2
theorem law29 (hv : iv A B S nc nw nm nj cw jc I J R) (b1 : vp_in (l4 + 1) L) : wp_law_c29 (hq A B S I J R) (A 0 0) (A 0 23) (A 0 24) xs L l4 (Iv (A 0 0) (A 0 23) (A 0 24)) := by
  have h := hv.1
  have hT := iv_t hv 0
  obtain ⟨n1, n2, n3, n4, n5, n6⟩ := hv.2.1.1
  obtain ⟨k1, k2, k3, k4, k5, k6, k7, k8⟩ := hv.2.1.2.1
  unfold wp_law_c29 wp_X11_count
  generalize xs (l4 + 1).toNatClampNeg = a1
  simp only [fr_0 h, fr_1 h, fr_2 h, fr_4 h, fr_21 h, hi_q h, hj_q h, si_q h, sj_q h, vv_5 h, vs_5 h, vv_7 h, vs_7 h, vv_8 h, vs_8 h, vv_9 h, vs_9 h, vv_11 h, vs_11 h, vv_17 h, vs_17 h, vv_18 h, vs_18 h, vj_3 h, vj_4 h, vj_5 h, ex_some, ex_def, all_def, true_and, and_true, Nat.reduceLT, b1]
  have u : ∀ p, p ≠ 0 → up3 I 0 23 0 0 0 23 p = I 0 23 p := fun p z => up3_off (by omega)
  refine ⟨fun e => ?_, fun e0 => ⟨fun e => ?_, fun e1 => ⟨fun e => ?_, fun e2 => ⟨fun e => ?_, fun e3 => ⟨fun e => ?_, fun e4 => ⟨fun e => ?_, fun e5 => ⟨fun e => ?_, fun e6 => ⟨fun e => ?_, fun e7 => ⟨fun e => ?_, fun e8 => ?_⟩⟩⟩⟩⟩⟩⟩⟩⟩
  · unfold wp_X12_count
    subst e
    simp only [fr_23 h, hi_q h, hj_q h, si_q h, sj_q h, vv_5 h, vs_5 h, vv_7 h, vs_7 h, vv_8 h, vs_8 h, vv_9 h, vs_9 h, vv_11 h, vs_11 h, vv_17 h, vs_17 h, vv_18 h, vs_18 h, vj_3 h, vj_4 h, vj_5 h, ex_some, ex_def, all_def, true_and, and_true, Nat.reduceLT, u 1 (by decide), k1, k5, not_false_eq_true, true_implies, not_true_eq_false, false_implies, true_and, and_true, false_and, and_false, forall_const, imp_self, implies_true, if_true, if_false, eq_self, Bool.true_eq_false, Bool.false_eq_true, false_or, or_false, true_or, or_true]
    exact hT
  · unfold wp_X12_count
    subst e
    simp only [fr_23 h, hi_q h, hj_q h, si_q h, sj_q h, vv_5 h, vs_5 h, vv_7 h, vs_7 h, vv_8 h, vs_8 h, vv_9 h, vs_9 h, vv_11 h, vs_11 h, vv_17 h, vs_17 h, vv_18 h, vs_18 h, vj_3 h, vj_4 h, vj_5 h, ex_some, ex_def, all_def, true_and, and_true, Nat.reduceLT, u 2 (by decide), k2, k6, show ¬ ((1 : Int32) = 0) by decide, not_false_eq_true, true_implies, not_true_eq_false, false_implies, true_and, and_true, false_and, and_false, forall_const, imp_self, implies_true, if_true, if_false, eq_self, Bool.true_eq_false, Bool.false_eq_true, false_or, or_false, true_or, or_true]
    exact hT
  · unfold wp_X12_count
    subst e
    simp only [fr_23 h, hi_q h, hj_q h, si_q h, sj_q h, vv_5 h, vs_5 h, vv_7 h, vs_7 h, vv_8 h, vs_8 h, vv_9 h, vs_9 h, vv_11 h, vs_11 h, vv_17 h, vs_17 h, vv_18 h, vs_18 h, vj_3 h, vj_4 h, vj_5 h, ex_some, ex_def, all_def, true_and, and_true, Nat.reduceLT, u 3 (by decide), k3, k7, show ¬ ((2 : Int32) = 0) by decide, show ¬ ((2 : Int32) = 1) by decide, not_false_eq_true, true_implies, not_true_eq_false, false_implies, true_and, and_true, false_and, and_false, forall_const, imp_self, implies_true, if_true, if_false, eq_self, Bool.true_eq_false, Bool.false_eq_true, false_or, or_false, true_or, or_true]
    exact hT
  · unfold wp_X12_count
    subst e
    simp only [fr_23 h, hi_q h, hj_q h, si_q h, sj_q h, vv_5 h, vs_5 h, vv_7 h, vs_7 h, vv_8 h, vs_8 h, vv_9 h, vs_9 h, vv_11 h, vs_11 h, vv_17 h, vs_17 h, vv_18 h, vs_18 h, vj_3 h, vj_4 h, vj_5 h, ex_some, ex_def, all_def, true_and, and_true, Nat.reduceLT, u 4 (by decide), k4, k8, show ¬ ((3 : Int32) = 0) by decide, show ¬ ((3 : Int32) = 1) by decide, show ¬ ((3 : Int32) = 2) by decide, not_false_eq_true, true_implies, not_true_eq_false, false_implies, true_and, and_true, false_and, and_false, forall_const, imp_self, implies_true, if_true, if_false, eq_self, Bool.true_eq_false, Bool.false_eq_true, false_or, or_false, true_or, or_true]
    exact hT
  · unfold wp_X12_count
    subst e
    simp only [fr_23 h, hi_q h, hj_q h, si_q h, sj_q h, vv_5 h, vs_5 h, vv_7 h, vs_7 h, vv_8 h, vs_8 h, vv_9 h, vs_9 h, vv_11 h, vs_11 h, vv_17 h, vs_17 h, vv_18 h, vs_18 h, vj_3 h, vj_4 h, vj_5 h, ex_some, ex_def, all_def, true_and, and_true, Nat.reduceLT, u 22 (by decide), u 23 (by decide), show ¬ ((4 : Int32) = 0) by decide, show ¬ ((4 : Int32) = 1) by decide, show ¬ ((4 : Int32) = 2) by decide, show ¬ ((4 : Int32) = 3) by decide, not_false_eq_true, true_implies, not_true_eq_false, false_implies, true_and, and_true, false_and, and_false, forall_const, imp_self, implies_true, if_true, if_false, eq_self, Bool.true_eq_false, Bool.false_eq_true, false_or, or_false, true_or, or_true]
    rcases hv.2.2.1 with ⟨q, q22⟩ | q
    · rw [q22, q.2.2.2.2.1]
      exact ⟨fun _ => ⟨fun _ => hT, fun w => absurd rfl w⟩, fun w => absurd rfl w⟩
    · rw [q.2.1, q.2.2.2.2.2.1]
      exact ⟨fun w => absurd w (by decide), fun _ => ⟨fun _ => hT, fun w => absurd rfl w⟩⟩
  · unfold wp_X12_count
    subst e
    simp only [fr_23 h, hi_q h, hj_q h, si_q h, sj_q h, vv_5 h, vs_5 h, vv_7 h, vs_7 h, vv_8 h, vs_8 h, vv_9 h, vs_9 h, vv_11 h, vs_11 h, vv_17 h, vs_17 h, vv_18 h, vs_18 h, vj_3 h, vj_4 h, vj_5 h, ex_some, ex_def, all_def, true_and, and_true, Nat.reduceLT, u 22 (by decide), u 25 (by decide), show ¬ ((5 : Int32) = 0) by decide, show ¬ ((5 : Int32) = 1) by decide, show ¬ ((5 : Int32) = 2) by decide, show ¬ ((5 : Int32) = 3) by decide, show ¬ ((5 : Int32) = 4) by decide, not_false_eq_true, true_implies, not_true_eq_false, false_implies, true_and, and_true, false_and, and_false, forall_const, imp_self, implies_true, if_true, if_false, eq_self, Bool.true_eq_false, Bool.false_eq_true, false_or, or_false, true_or, or_true]
    rcases hv.2.2.1 with ⟨q, q22⟩ | q
    · rw [q22, q.2.2.2.1]
      exact ⟨fun _ => ⟨fun _ => hT, fun w => absurd rfl w⟩, fun w => absurd rfl w⟩
    · obtain ⟨ne, w1, w2, w3, w4, w5⟩ := q.2.2.2.2.2.2.1
      rw [q.2.1, w2, w3]
      exact ⟨fun w => absurd w (by decide), fun _ => ⟨fun _ => hT, fun w => absurd rfl w⟩⟩
  · unfold wp_X12_count
    subst e
    simp only [fr_23 h, fm_36 h, hi_q h, hj_q h, si_q h, sj_q h, vv_5 h, vs_5 h, vv_7 h, vs_7 h, vv_8 h, vs_8 h, vv_9 h, vs_9 h, vv_11 h, vs_11 h, vv_17 h, vs_17 h, vv_18 h, vs_18 h, vj_3 h, vj_4 h, vj_5 h, ex_some, ex_def, all_def, true_and, and_true, Nat.reduceLT, u 22 (by decide), u 25 (by decide), show ¬ ((6 : Int32) = 0) by decide, show ¬ ((6 : Int32) = 1) by decide, show ¬ ((6 : Int32) = 2) by decide, show ¬ ((6 : Int32) = 3) by decide, show ¬ ((6 : Int32) = 4) by decide, show ¬ ((6 : Int32) = 5) by decide, not_false_eq_true, true_implies, not_true_eq_false, false_implies, true_and, and_true, false_and, and_false, forall_const, imp_self, implies_true, if_true, if_false, eq_self, Bool.true_eq_false, Bool.false_eq_true, false_or, or_false, true_or, or_true]
    rcases hv.2.2.1 with ⟨q, q22⟩ | q
    · rw [q22, q.2.2.2.2.2.1]
      exact ⟨fun _ => ⟨fun _ => hT, fun w => absurd rfl w⟩, fun w => absurd rfl w⟩
    · obtain ⟨ne, w1, w2, w3, w4, w5⟩ := q.2.2.2.2.2.2.1
      rw [q.2.1, w3, w5]
      refine ⟨fun w => absurd w (by decide), fun _ => ?_⟩
      have le : nI ne ≤ 0 ↔ ne = 0 := by rw [show (0 : Int32) = nI 0 from rfl, nI_leI (by omega) (by decide)]; omega
      rw [le]
      refine ⟨fun z => ?_, fun z => ?_⟩
      · rw [if_pos z]; exact ⟨fun _ => hT, fun w => absurd rfl w⟩
      · obtain ⟨n, rfl⟩ : ∃ n, ne = n + 1 := ⟨ne - 1, by omega⟩
        rw [nI_p1, if_neg z, nI_clamp (show n < 2 ^ 31 by omega)]
        refine ⟨vin (show n < 600 by omega) (by decide), ?_⟩
        have : up3 I 0 23 0 0 1 36 n = I 1 36 (n + 1 - 1) := up3_off (by omega)
        rw [this]
        exact ⟨fun _ => hT, fun w => absurd rfl w⟩
  · subst e
    unfold wp_X6_chainLength
    refine ⟨(fr_2 h _ _ _).1, p_reckon hv (fun I1 R1 ag v1 f1 => ⟨(fr_2 h _ _ _).1, ?_⟩)⟩
    obtain ⟨hT1, hH1, cn, ch, hc, h5, hR, h6⟩ := iv_fr v1 f1
    have c2 := hc.1
    unfold wp_X12_count
    simp only [fr_23 h, hi_q h, hj_q h, si_q h, sj_q h, vv_5 h, vs_5 h, vv_7 h, vs_7 h, vv_8 h, vs_8 h, vv_9 h, vs_9 h, vv_11 h, vs_11 h, vv_17 h, vs_17 h, vv_18 h, vs_18 h, vj_3 h, vj_4 h, vj_5 h, ex_some, ex_def, all_def, true_and, and_true, Nat.reduceLT, h5, show ¬ ((7 : Int32) = 0) by decide, show ¬ ((7 : Int32) = 1) by decide, show ¬ ((7 : Int32) = 2) by decide, show ¬ ((7 : Int32) = 3) by decide, show ¬ ((7 : Int32) = 4) by decide, show ¬ ((7 : Int32) = 5) by decide, show ¬ ((7 : Int32) = 6) by decide, not_false_eq_true, true_implies, not_true_eq_false, false_implies, true_and, and_true, false_and, and_false, forall_const, imp_self, implies_true, if_true, if_false, eq_self, Bool.true_eq_false, Bool.false_eq_true, false_or, or_false, true_or, or_true]
    refine p_lenv v1 f1 (fun I2 X2 y2 v2 => ⟨fr_23 h _ _ _, ?_⟩)
    have hc' : chn (up3 I1 0 23 0 0) nj (fun j => I1 3 j 14) cn ch := hc
    refine p_noc (o := none) X2 (fun j hj => (y2 j hj).1) (fun j e => by cases e) (fun b hb => ?_)
    rw [pBst_u hb (chn_0 hc')]
    exact p_n153 X2 (fun j hj => (y2 j hj).1) hc' ⟨fun _ => iv_I v2, fun w => w rfl⟩ cn 0 FU (by omega) (by unfold FU; omega)
  · subst e
    unfold wp_X6_longestTail
    refine ⟨(fr_2 h _ _ _).1, p_reckon hv (fun I1 R1 ag v1 f1 => ⟨(fr_2 h _ _ _).1, ?_⟩)⟩
    unfold wp_X12_count
    simp only [fr_23 h, hi_q h, hj_q h, si_q h, sj_q h, vv_5 h, vs_5 h, vv_7 h, vs_7 h, vv_8 h, vs_8 h, vv_9 h, vs_9 h, vv_11 h, vs_11 h, vv_17 h, vs_17 h, vv_18 h, vs_18 h, vj_3 h, vj_4 h, vj_5 h, ex_some, ex_def, all_def, true_and, and_true, Nat.reduceLT, show ¬ ((8 : Int32) = 0) by decide, show ¬ ((8 : Int32) = 1) by decide, show ¬ ((8 : Int32) = 2) by decide, show ¬ ((8 : Int32) = 3) by decide, show ¬ ((8 : Int32) = 4) by decide, show ¬ ((8 : Int32) = 5) by decide, show ¬ ((8 : Int32) = 6) by decide, show ¬ ((8 : Int32) = 7) by decide, not_false_eq_true, true_implies, not_true_eq_false, false_implies, true_and, and_true, false_and, and_false, forall_const, imp_self, implies_true, if_true, if_false, eq_self, Bool.true_eq_false, Bool.false_eq_true, false_or, or_false, true_or, or_true]
    exact p_lenv v1 f1 (fun I2 X2 y2 v2 => ⟨fun _ => iv_I v2, fun w => w rfl⟩)
  · unfold wp_X12_count
    simp only [fr_23 h, hi_q h, hj_q h, si_q h, sj_q h, vv_5 h, vs_5 h, vv_7 h, vs_7 h, vv_8 h, vs_8 h, vv_9 h, vs_9 h, vv_11 h, vs_11 h, vv_17 h, vs_17 h, vv_18 h, vs_18 h, vj_3 h, vj_4 h, vj_5 h, ex_some, ex_def, all_def, true_and, and_true, Nat.reduceLT, e0, e1, e2, e3, e4, e5, e6, e7, e8, not_false_eq_true, true_implies, not_true_eq_false, false_implies, true_and, and_true, false_and, and_false, forall_const, imp_self, implies_true, if_true, if_false, eq_self, Bool.true_eq_false, Bool.false_eq_true, false_or, or_false, true_or, or_true]
    exact hT
end PW
