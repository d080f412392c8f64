section OD
variable {A : Nat → Nat → Nat} {B : Nat → Nat × Nat} {S : Hp} {nc nw nm nj : Nat} {cw jc : Nat → Nat} {I : FI} {J : FJ} {R : FR} {xs : Nat → Int32} {L : Nat} {l4 : Int32}
theorem law28 (hv : iv A B S nc nw nm nj cw jc I J R) : wp_law_c28 (hq A B S I J R) (A 0 0) (A 0 23) (A 0 24) xs L l4 (Iv (A 0 0) (A 0 23) (A 0 24)) := by
  have h := hv.1
  have hT := iv_t hv 0
  obtain ⟨n1, n2, n3, n4, n5, n6⟩ := hv.2.1.1
  obtain ⟨k1, k2, k3, k4, k5, k6, k7, k8⟩ := hv.2.1.2.1
  unfold wp_law_c28 wp_X11_audit wp_X12_audit
  simp only [fr_0 h, fr_23 h, hi_q h, hj_q h, si_q h, sj_q h, vv_5 h, vs_5 h, vv_7 h, vs_7 h, vv_8 h, vs_8 h, vv_9 h, vs_9 h, vv_11 h, vs_11 h, vv_17 h, vs_17 h, vv_18 h, vs_18 h, vj_3 h, vj_4 h, vj_5 h, ex_some, ex_def, all_def, true_and, and_true, Nat.reduceLT]
  have hw : ¬ I 0 23 22 = 0 → I 0 23 39 = 0 := fun z => by
    rcases hv.2.2.1 with ⟨q, q22⟩ | q
    · exact absurd q22 z
    · exact q.2.2.2.2.2.2.2.2.2
  simp only [up3_off (show ¬ ((0 : Nat) = 0 ∧ (23 : Nat) = 23 ∧ (22 : Nat) = 0) by decide), up3_off (show ¬ ((0 : Nat) = 0 ∧ (23 : Nat) = 23 ∧ (39 : Nat) = 0) by decide)]
  refine ⟨fun z => ⟨fun _ => hT, fun w => absurd trivial w⟩, fun z => ⟨fun _ => hT, fun w => absurd (hw z).symm w⟩⟩
theorem p_mfail {Q : Int32 → Hp → Prop} (hv : iv A B S nc nw nm nj cw jc I J R) {v : Int32} (hr : ¬ I 0 23 22 = 0) : ∀ (r k n : Nat), k + r = nj → r < n → Q (cntI nj (fun j => decide (I 1 26 j = 2))) (hq A B S (up3 I 0 23 0 v) J R) → wp_X12_failures_L9 (hq A B S (up3 I 0 23 0 v) J R) (A 0 23) Q n (cntI k (fun j => decide (I 1 26 j = 2))) (nI k) := by
  have h := hv.1
  have hT := iv_t hv 0
  obtain ⟨n1, n2, n3, n4, n5, n6⟩ := hv.2.1.1
  obtain ⟨k1, k2, k3, k4, k5, k6, k7, k8⟩ := hv.2.1.2.1
  have k8' : up3 I 0 23 0 v 0 23 4 = nI nj := by simp [up3, k8]
  have k22 : ¬ up3 I 0 23 0 v 0 23 22 = 0 := by simp [up3, hr]
  have u1 : ∀ i p, up3 I 0 23 0 v 1 i p = I 1 i p := fun i p => by simp [up3]
  intro r
  induction r with
  | zero =>
    intro k n e hr hq
    obtain ⟨n, rfl⟩ : ∃ m, n = m + 1 := ⟨n - 1, by omega⟩
    obtain rfl : k = nj := by omega
    rw [wp_X12_failures_L9]
    simp only [fr_23 h, hi_q h, hj_q h, si_q h, sj_q h, vv_5 h, vs_5 h, vv_7 h, vs_7 h, vv_8 h, vs_8 h, vv_9 h, vs_9 h, vv_11 h, vs_11 h, vv_17 h, vs_17 h, vv_18 h, vs_18 h, vj_3 h, vj_4 h, vj_5 h, ex_some, ex_def, all_def, true_and, and_true, Nat.reduceLT, k8']
    exact ⟨fun _ => hq, fun z => absurd (nI_le (Nat.le_refl _) (by omega)) z⟩
  | succ r ih =>
    intro k n e hr hq
    obtain ⟨n, rfl⟩ : ∃ m, n = m + 1 := ⟨n - 1, by omega⟩
    have hkn : k < nj := by omega
    have w := ih (k + 1) n (by omega) (by omega) hq
    rw [cntI] at w
    rw [wp_X12_failures_L9]
    simp only [fr_23 h, fm_26 h, hi_q h, hj_q h, si_q h, sj_q h, vv_5 h, vs_5 h, vv_7 h, vs_7 h, vv_8 h, vs_8 h, vv_9 h, vs_9 h, vv_11 h, vs_11 h, vv_17 h, vs_17 h, vv_18 h, vs_18 h, vj_3 h, vj_4 h, vj_5 h, ex_some, ex_def, all_def, true_and, and_true, Nat.reduceLT, k8', k22, nI_clamp (show k < 2 ^ 31 by omega), u1, vin (show k < 200 by omega) (by decide), nI_ge hkn (show nj < 2 ^ 31 by omega), not_false_eq_true, true_implies, not_true_eq_false, false_implies, true_and, and_true, false_and, and_false, forall_const, imp_self, implies_true, if_true, if_false, eq_self, Bool.true_eq_false, Bool.false_eq_true, false_or, or_false, true_or, or_true]
    rw [show nI k + 1 = nI (k + 1) from (nI_succ k).symm]
    refine ⟨fun z => ?_, fun z => ?_⟩
    · rw [if_pos (decide_eq_true z)] at w; exact w
    · rw [if_neg (by rw [decide_eq_false z]; decide)] at w; rw [Int32.add_zero]; exact w
theorem law19 (hv : iv A B S nc nw nm nj cw jc I J R) : wp_law_c19 (hq A B S I J R) (A 0 0) (A 0 23) (A 0 24) xs L l4 (Iv (A 0 0) (A 0 23) (A 0 24)) := by
  have h := hv.1
  have hT := iv_t hv 0
  obtain ⟨n1, n2, n3, n4, n5, n6⟩ := hv.2.1.1
  obtain ⟨k1, k2, k3, k4, k5, k6, k7, k8⟩ := hv.2.1.2.1
  unfold wp_law_c19 wp_X11_failures wp_X12_failures
  simp only [fr_0 h, fr_4 h, fr_23 h, hi_q h, hj_q h, si_q h, sj_q h, vv_5 h, vs_5 h, vv_7 h, vs_7 h, vv_8 h, vs_8 h, vv_9 h, vs_9 h, vv_11 h, vs_11 h, vv_17 h, vs_17 h, vv_18 h, vs_18 h, vj_3 h, vj_4 h, vj_5 h, ex_some, ex_def, all_def, true_and, and_true, Nat.reduceLT]
  rcases hv.2.2.1 with ⟨q, q22⟩ | q
  · unfold FU
    rw [show 2 ^ 40 = (2 ^ 40 - 1) + 1 from rfl, wp_X12_failures_L9]
    simp only [fr_23 h, hi_q h, hj_q h, si_q h, sj_q h, vv_5 h, vs_5 h, vv_7 h, vs_7 h, vv_8 h, vs_8 h, vv_9 h, vs_9 h, vv_11 h, vs_11 h, vv_17 h, vs_17 h, vv_18 h, vs_18 h, vj_3 h, vj_4 h, vj_5 h, ex_some, ex_def, all_def, true_and, and_true, Nat.reduceLT]
    simp [up3, q22, q.2.2.2.2.2.2.1, hT]
  · have hr : ¬ I 0 23 22 = 0 := by rw [q.2.1]; decide
    refine p_mfail hv hr nj 0 FU (by omega) (fu_pos (by omega)) ?_
    exact ⟨fun _ => hT, fun z => absurd q.2.2.2.2.2.2.2.1 z⟩
theorem p_cfj {Q : Int32 → Hp → Prop} (hv : iv A B S nc nw nm nj cw jc I J R) (i : Int32) : ∀ (r k n : Nat) (s : Int32), k + r = nj → r < n → Q (fal (fun j => decide (I 16 j 0 = 2)) i r k s) (hq A B S I J R) → wp_X8_failedJob_L4 (hq A B S I J R) (A 0 4) i Q n s (nI k) := by
  have h := hv.1
  have hT := iv_t hv 0
  obtain ⟨n1, n2, n3, n4, n5, n6⟩ := hv.2.1.1
  obtain ⟨k1, k2, k3, k4, k5, k6, k7, k8⟩ := hv.2.1.2.1
  intro r
  induction r with
  | zero =>
    intro k n s e hr hq
    obtain ⟨n, rfl⟩ : ∃ m, n = m + 1 := ⟨n - 1, by omega⟩
    obtain rfl : k = nj := by omega
    rw [wp_X8_failedJob_L4]
    simp only [fr_4 h, fr_1 h, hi_q h, hj_q h, si_q h, sj_q h, vv_5 h, vs_5 h, vv_7 h, vs_7 h, vv_8 h, vs_8 h, vv_9 h, vs_9 h, vv_11 h, vs_11 h, vv_17 h, vs_17 h, vv_18 h, vs_18 h, vj_3 h, vj_4 h, vj_5 h, ex_some, ex_def, all_def, true_and, and_true, Nat.reduceLT, k4]
    exact ⟨fun _ => hq, fun z => absurd (nI_le (Nat.le_refl _) (by omega)) z⟩
  | succ r ih =>
    intro k n s e hr hq
    obtain ⟨n, rfl⟩ : ∃ m, n = m + 1 := ⟨n - 1, by omega⟩
    have hkn : k < nj := by omega
    have hR7 := (hv.2.1.2.2.2.1 k hkn).1
    rw [wp_X8_failedJob_L4]
    simp only [fr_4 h, fr_1 h, fr_7 h, fj_3 h hkn, fj_16 h hkn, hi_q h, hj_q h, si_q h, sj_q h, vv_5 h, vs_5 h, vv_7 h, vs_7 h, vv_8 h, vs_8 h, vv_9 h, vs_9 h, vv_11 h, vs_11 h, vv_17 h, vs_17 h, vv_18 h, vs_18 h, vj_3 h, vj_4 h, vj_5 h, ex_some, ex_def, all_def, true_and, and_true, Nat.reduceLT, k4, nI_clamp (show k < 2 ^ 31 by omega), hR7, vin (show k < 200 by omega) (by decide), nI_ge hkn (show nj < 2 ^ 31 by omega), not_false_eq_true, true_implies, not_true_eq_false, false_implies, true_and, and_true, false_and, and_false, forall_const, imp_self, implies_true, if_true, if_false, eq_self, Bool.true_eq_false, Bool.false_eq_true, false_or, or_false, true_or, or_true]
    rw [show nI k + 1 = nI (k + 1) from (nI_succ k).symm]
    rw [fal] at hq
    refine ⟨fun z => ⟨fun w => ?_, fun w => ?_⟩, fun z => ?_⟩
    · rw [if_pos (decide_eq_true z), if_pos w] at hq; exact hq
    · rw [if_pos (decide_eq_true z), if_neg w] at hq; exact ih (k + 1) n _ (by omega) (by omega) hq
    · rw [if_neg (by rw [decide_eq_false z]; decide)] at hq; exact ih (k + 1) n _ (by omega) (by omega) hq
theorem p_mfj {Q : Int32 → Hp → Prop} (hv : iv A B S nc nw nm nj cw jc I J R) {v : Int32} {J' : FJ} (hw : ¬ I 0 23 22 = 0) (i : Int32) : ∀ (r k n : Nat) (s : Int32), k + r = nj → r < n → Q (fal (fun j => decide (I 1 26 j = 2)) i r k s) (hq A B S (up3 I 0 23 0 v) J' R) → wp_X12_failedAt_L4 (hq A B S (up3 I 0 23 0 v) J' R) (A 0 23) i Q n s (nI k) := by
  have h := hv.1
  have hT := iv_t hv 0
  obtain ⟨n1, n2, n3, n4, n5, n6⟩ := hv.2.1.1
  obtain ⟨k1, k2, k3, k4, k5, k6, k7, k8⟩ := hv.2.1.2.1
  have k8' : up3 I 0 23 0 v 0 23 4 = nI nj := by simp [up3, k8]
  have k22 : ¬ up3 I 0 23 0 v 0 23 22 = 0 := by simp [up3, hw]
  have u1 : ∀ i p, up3 I 0 23 0 v 1 i p = I 1 i p := fun i p => by simp [up3]
  intro r
  induction r with
  | zero =>
    intro k n s e hr hq
    obtain ⟨n, rfl⟩ : ∃ m, n = m + 1 := ⟨n - 1, by omega⟩
    obtain rfl : k = nj := by omega
    rw [wp_X12_failedAt_L4]
    simp only [fr_23 h, hi_q h, hj_q h, si_q h, sj_q h, vv_5 h, vs_5 h, vv_7 h, vs_7 h, vv_8 h, vs_8 h, vv_9 h, vs_9 h, vv_11 h, vs_11 h, vv_17 h, vs_17 h, vv_18 h, vs_18 h, vj_3 h, vj_4 h, vj_5 h, ex_some, ex_def, all_def, true_and, and_true, Nat.reduceLT, k8']
    exact ⟨fun _ => hq, fun z => absurd (nI_le (Nat.le_refl _) (by omega)) z⟩
  | succ r ih =>
    intro k n s e hr hq
    obtain ⟨n, rfl⟩ : ∃ m, n = m + 1 := ⟨n - 1, by omega⟩
    have hkn : k < nj := by omega
    rw [wp_X12_failedAt_L4]
    simp only [fr_23 h, fm_26 h, hi_q h, hj_q h, si_q h, sj_q h, vv_5 h, vs_5 h, vv_7 h, vs_7 h, vv_8 h, vs_8 h, vv_9 h, vs_9 h, vv_11 h, vs_11 h, vv_17 h, vs_17 h, vv_18 h, vs_18 h, vj_3 h, vj_4 h, vj_5 h, ex_some, ex_def, all_def, true_and, and_true, Nat.reduceLT, k8', k22, nI_clamp (show k < 2 ^ 31 by omega), u1, vin (show k < 200 by omega) (by decide), nI_ge hkn (show nj < 2 ^ 31 by omega), not_false_eq_true, true_implies, not_true_eq_false, false_implies, true_and, and_true, false_and, and_false, forall_const, imp_self, implies_true, if_true, if_false, eq_self, Bool.true_eq_false, Bool.false_eq_true, false_or, or_false, true_or, or_true]
    rw [show nI k + 1 = nI (k + 1) from (nI_succ k).symm]
    rw [fal] at hq
    refine ⟨fun z => ⟨fun w => ?_, fun w => ?_⟩, fun z => ?_⟩
    · rw [if_pos (decide_eq_true z), if_pos w] at hq; exact hq
    · rw [if_pos (decide_eq_true z), if_neg w] at hq; exact ih (k + 1) n _ (by omega) (by omega) hq
    · rw [if_neg (by rw [decide_eq_false z]; decide)] at hq; exact ih (k + 1) n _ (by omega) (by omega) hq
theorem up3_id {α : Type} (f : Nat → Nat → Nat → α) (c i p : Nat) : up3 f c i p (f c i p) = f := by
  funext d j q
  unfold up3
  by_cases z : d = c ∧ j = i ∧ q = p
  · obtain ⟨rfl, rfl, rfl⟩ := z; simp
  · rw [if_neg z]
theorem law20 (hv : iv A B S nc nw nm nj cw jc I J R) (b1 : vp_in (l4 + 1) L) (b2 : vp_in (l4 + 2) L) : wp_law_c20 (hq A B S I J R) (A 0 0) (A 0 23) (A 0 24) xs L l4 (Iv (A 0 0) (A 0 23) (A 0 24)) := by
  have h := hv.1
  have hT := iv_t hv 0
  obtain ⟨n1, n2, n3, n4, n5, n6⟩ := hv.2.1.1
  obtain ⟨k1, k2, k3, k4, k5, k6, k7, k8⟩ := hv.2.1.2.1
  have hO := iv_o hv
  have hT1 := iv_t hv 1
  unfold wp_law_c20 wp_L_failure wp_X11_failure wp_X12_failure wp_X8_failedJob wp_X12_thrown
  generalize xs (l4 + 1).toNatClampNeg = a1
  generalize xs (l4 + 2).toNatClampNeg = a2
  simp only [fr_0 h, fr_1 h, fr_4 h, fr_7 h, fr_23 h, hi_q h, hj_q h, si_q h, sj_q h, vv_5 h, vs_5 h, vv_7 h, vs_7 h, vv_8 h, vs_8 h, vv_9 h, vs_9 h, vv_11 h, vs_11 h, vv_17 h, vs_17 h, vv_18 h, vs_18 h, vj_3 h, vj_4 h, vj_5 h, ex_some, ex_def, all_def, true_and, and_true, Nat.reduceLT, b1, b2, k4]
  refine p_cfj hv a1 nj 0 FU 0 (by omega) (fu_pos (by omega)) ?_
  rcases hv.2.2.1 with ⟨q, q22⟩ | q
  · rw [fal_no (fun i _ hi => by rw [(q.2.1 i (by omega)).1]; rfl)]
    simp only [show ¬ ¬ ((-1 : Int32) = -1) by decide, not_false_eq_true, true_implies, not_true_eq_false, false_implies, true_and, and_true, false_and, and_false, forall_const, imp_self, implies_true, if_true, if_false, eq_self, Bool.true_eq_false, Bool.false_eq_true, false_or, or_false, true_or, or_true]
    unfold wp_X12_failedAt FU
    rw [show 2 ^ 40 = (2 ^ 40 - 1) + 1 from rfl, wp_X12_failedAt_L4]
    simp only [fr_23 h, hi_q h, hj_q h, si_q h, sj_q h, vv_5 h, vs_5 h, vv_7 h, vs_7 h, vv_8 h, vs_8 h, vv_9 h, vs_9 h, vv_11 h, vs_11 h, vv_17 h, vs_17 h, vv_18 h, vs_18 h, vj_3 h, vj_4 h, vj_5 h, ex_some, ex_def, all_def, true_and, and_true, Nat.reduceLT]
    simp [up3, q22, hT1]
  · obtain ⟨q8, q22, qj, q34, qs, q9, qe, qf, ql, qw⟩ := q
    have hr : ¬ I 0 23 22 = 0 := by rw [q22]; decide
    have ef : ∀ i, fal (fun j => decide (I 16 j 0 = 2)) i nj 0 0 = fal (fun j => decide (I 1 26 j = 2)) i nj 0 0 := fun i => fal_congr (fun k _ hk => by rw [(qj k (by omega)).1])
    have cm : ∀ (Q : Int32 → Hp → Prop) (J' : FJ) (i : Int32), Q (fal (fun j => decide (I 1 26 j = 2)) i nj 0 0) (hq A B S I J' R) → wp_X12_failedAt (hq A B S I J' R) (A 0 23) i Q := fun Q J' i hq => by
      have := p_mfj (Q := Q) (J' := J') (v := I 0 23 0) hv hr i nj 0 FU 0 (by omega) (fu_pos (by omega)) (by rw [up3_id]; exact hq)
      rw [up3_id] at this; exact this
    have cm2 : ∀ (Q : Int32 → Hp → Prop) (J' : FJ) (i v : Int32), Q (fal (fun j => decide (I 1 26 j = 2)) i nj 0 0) (hq A B S (up3 I 0 23 0 v) J' R) → wp_X12_failedAt (hq A B S (up3 I 0 23 0 v) J' R) (A 0 23) i Q := fun Q J' i v hq => p_mfj hv hr i nj 0 FU 0 (by omega) (fu_pos (by omega)) hq
    rw [ef]
    rcases fal_in (p := fun j => decide (I 1 26 j = 2)) (i := a1) (r := nj) (k := 0) (s := 0) with e | ⟨m, -, hm, e1, e⟩
    · rw [e]
      simp only [show ¬ ¬ ((-1 : Int32) = -1) by decide, not_false_eq_true, true_implies, not_true_eq_false, false_implies, true_and, and_true, false_and, and_false, forall_const, imp_self, implies_true, if_true, if_false, eq_self, Bool.true_eq_false, Bool.false_eq_true, false_or, or_false, true_or, or_true]
      refine ⟨fr_23 h _ _ _, fr_23 h _ _ _, cm _ _ _ ?_⟩
      rw [e]
      simp only [fr_23 h, hi_q h, hj_q h, si_q h, sj_q h, vv_5 h, vs_5 h, vv_7 h, vs_7 h, vv_8 h, vs_8 h, vv_9 h, vs_9 h, vv_11 h, vs_11 h, vv_17 h, vs_17 h, vv_18 h, vs_18 h, vj_3 h, vj_4 h, vj_5 h, ex_some, ex_def, all_def, true_and, and_true, Nat.reduceLT]
      simp [up3, hT1]
    · have hmn : m < nj := by omega
      rw [e]
      have e2 : ¬ nI m = -1 := nI_nm1 (by omega)
      have e26 : I 1 26 m = 2 := of_decide_eq_true e1
      obtain ⟨t0, t1, t2, t3, t4, t5, t6⟩ := qj m hmn
      rw [if_pos e26] at t6
      have hR7 := (hv.2.1.2.2.2.1 m hmn).1
      simp only [e2, fr_0 h, fr_1 h, fr_4 h, fr_7 h, fj_3 h hmn, fj_16 h hmn, hi_q h, hj_q h, si_q h, sj_q h, vv_5 h, vs_5 h, vv_7 h, vs_7 h, vv_8 h, vs_8 h, vv_9 h, vs_9 h, vv_11 h, vs_11 h, vv_17 h, vs_17 h, vv_18 h, vs_18 h, vj_3 h, vj_4 h, vj_5 h, ex_some, ex_def, all_def, true_and, and_true, Nat.reduceLT, nI_clamp (show m < 2 ^ 31 by omega), hR7, vin (show m < 200 by omega) (by decide), not_false_eq_true, true_implies, not_true_eq_false, false_implies, true_and, and_true, false_and, and_false, forall_const, imp_self, implies_true, if_true, if_false, eq_self, Bool.true_eq_false, Bool.false_eq_true, false_or, or_false, true_or, or_true]
      refine ⟨fun z => ?_, fun z => ⟨fun z1 => ?_, fun z1 => ⟨fun z2 => ?_, fun z2 => ⟨fun z3 => ⟨fun z4 => ?_, fun z4 => p_cfj hv 0 nj 0 FU 0 (by omega) (fu_pos (by omega)) ?_⟩, fun z3 => ?_⟩⟩⟩⟩
      all_goals (try rw [ef])
      all_goals (try subst z)
      all_goals (try subst z1)
      all_goals (try subst z2)
      all_goals (try subst z3)
      all_goals simp only [fr_24 h, fr_23 h, hi_q h, hj_q h, si_q h, sj_q h, vv_5 h, vs_5 h, vv_7 h, vs_7 h, vv_8 h, vs_8 h, vv_9 h, vs_9 h, vv_11 h, vs_11 h, vv_17 h, vs_17 h, vv_18 h, vs_18 h, vj_3 h, vj_4 h, vj_5 h, ex_some, ex_def, all_def, true_and, and_true, Nat.reduceLT, show vp_in 0 1 from vin (show 0 < 1 by decide) (by decide), show (0 : Int32).toNatClampNeg = 0 by decide]
      all_goals refine cm _ _ _ ?_
      all_goals rw [e]
      all_goals simp only [fr_24 h, fr_23 h, fm_26 h, fm_28 h, fm_31 h, hi_q h, hj_q h, si_q h, sj_q h, vv_5 h, vs_5 h, vv_7 h, vs_7 h, vv_8 h, vs_8 h, vv_9 h, vs_9 h, vv_11 h, vs_11 h, vv_17 h, vs_17 h, vv_18 h, vs_18 h, vj_3 h, vj_4 h, vj_5 h, ex_some, ex_def, all_def, true_and, and_true, Nat.reduceLT, show vp_in 0 1 from vin (show 0 < 1 by decide) (by decide), show (0 : Int32).toNatClampNeg = 0 by decide, vin (show m < 200 by omega) (by decide), nI_clamp (show m < 2 ^ 31 by omega)]
      all_goals try simp [up3, e2, t0, t1, t2, t3, t4, t5, t6, hO, *]
      refine cm2 _ _ _ _ ?_
      simp only [fr_24 h, fr_23 h, hi_q h, hj_q h, si_q h, sj_q h, vv_5 h, vs_5 h, vv_7 h, vs_7 h, vv_8 h, vs_8 h, vv_9 h, vs_9 h, vv_11 h, vs_11 h, vv_17 h, vs_17 h, vv_18 h, vs_18 h, vj_3 h, vj_4 h, vj_5 h, ex_some, ex_def, all_def, true_and, and_true, Nat.reduceLT, show vp_in 0 1 from vin (show 0 < 1 by decide) (by decide), show (0 : Int32).toNatClampNeg = 0 by decide]
      simp [up3, hO]
end OD
