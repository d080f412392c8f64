section RS
variable {A : Nat → Nat → Nat} {B : Nat → Nat × Nat} {S : Hp} {nc nw nm nj : Nat} {cw jc : Nat → Nat} {I : FI} {J : FJ} {R : FR} {xs : Nat → Int32} {L : Nat} {l4 : Int32}
theorem Ag_bI {g : Nat → Nat → Nat → Bool} {I I' : FI} {v : Int32} {q : Nat → Int32} (h : Ag g I I') (h1 : g 0 23 41 = false) (h2 : ∀ p, g 1 42 p = false) : Ag g I (bI I' v q) := fun c i p e => by
  unfold bI
  by_cases e1 : c = 0 ∧ i = 23 ∧ p = 41
  · obtain ⟨rfl, rfl, rfl⟩ := e1; rw [h1] at e; cases e
  · by_cases e2 : c = 1 ∧ i = 42
    · obtain ⟨rfl, rfl⟩ := e2; rw [h2 p] at e; cases e
    · simp only [e1, e2, if_false]; exact h c i p e
theorem Ag_bJ {g : Nat → Nat → Nat → Bool} {J J' : FJ} {f u : Nat → Int64} (h : Ag g J J') (h1 : ∀ p, g 1 40 p = false) (h2 : ∀ p, g 1 43 p = false) : Ag g J (bJ J' f u) := fun c i p e => by
  unfold bJ
  by_cases e1 : c = 1 ∧ i = 40
  · obtain ⟨rfl, rfl⟩ := e1; rw [h1 p] at e; cases e
  · by_cases e2 : c = 1 ∧ i = 43
    · obtain ⟨rfl, rfl⟩ := e2; rw [h2 p] at e; cases e
    · simp only [e1, e2, if_false]; exact h c i p e
theorem rc_q (h : Sh A B S nj nc) {j n : Nat} (hj : j < nj) (hn : n ≤ 30) (e4 : I 14 j 4 = nI n) (e0 : I 14 j 0 = I 1 15 j) (e1 : I 14 j 1 = I 1 16 j) (e2 : I 14 j 2 = I 1 17 j) (ex : ∀ i, i < n → I 15 j i = I 1 18 (30 * j + i)) : isRc (hq A B S I J R) (A 14 j) (A 15 j) (I 1 15 j) (I 1 16 j) (I 1 17 j) n (fun i => I 1 18 (30 * j + i)) :=
  ⟨(fj_14 h hj I J R).1, (fj_14 h hj I J R).2, (fj_15 h hj I J R).1, (fj_15 h hj I J R).2, by rw [hi_q h (by decide)]; exact e0, by rw [hi_q h (by decide)]; exact e1, by rw [hi_q h (by decide)]; exact e2, by rw [hi_q h (by decide)]; exact e4, hn, fun i hi => by rw [hi_q h (by decide)]; exact ex i hi⟩
theorem bn_q (h : Sh A B S nj nc) : isBn (hq A B S I J R) (A 0 3) (A 0 12) (A 0 13) := ⟨(fr_3 h I J R).1, (fr_3 h I J R).2.1, (fr_3 h I J R).2.2, (fr_12 h I J R).1, (fr_13 h I J R).1, (fr_12 h I J R).2, (fr_13 h I J R).2, fun z => absurd (h.1.inj (by decide) (by decide) z).2 (by decide)⟩
theorem iv_b (hv : iv A B S nc nw nm nj cw jc I J R) (w : Int32) (z : Int64) (v : Int32) (g : Nat → Int32) (f u : Nat → Int64) : Iv (A 0 0) (A 0 23) (A 0 24) (hq A B S (bI (up3 I 0 23 0 w) v g) (bJ (up3 J 0 24 0 z) f u) R) :=
  ⟨A, B, S, nc, nw, nm, nj, cw, jc, _, _, _, rfl, rfl, rfl, rfl, hv.1, vSt_c ⟨Ag_bI (Ag.up Ag.rf rfl) rfl (fun _ => rfl), Ag_bJ (Ag.up Ag.rf rfl) (fun _ => rfl) (fun _ => rfl), Ag.rf⟩ hv.2.1, vRn_c (Ag_bI (Ag.up Ag.rf rfl) rfl (fun _ => rfl)) (Ag_bJ (Ag.up Ag.rf rfl) (fun _ => rfl) (fun _ => rfl)) hv.2.2.1, vPa_c (Ag_bI (Ag.up Ag.rf rfl) rfl (fun _ => rfl)) Ag.rf hv.2.2.2⟩
theorem iv_bb (hv : iv A B S nc nw nm nj cw jc I J R) (w w2 : Int32) (z : Int64) (v : Int32) (g : Nat → Int32) (f u f2 g2 : Nat → Int64) : Iv (A 0 0) (A 0 23) (A 0 24) (hq A B S (bI (up3 (up3 I 0 3 2 w2) 0 23 0 w) v g) (bJ (up3 (upR (upR J 0 12 f2) 0 13 g2) 0 24 0 z) f u) R) :=
  ⟨A, B, S, nc, nw, nm, nj, cw, jc, _, _, _, rfl, rfl, rfl, rfl, hv.1, vSt_c ⟨Ag_bI ((Ag.up Ag.rf rfl).up rfl) rfl (fun _ => rfl), Ag_bJ (((Ag.rf.ur (fun _ => rfl)).ur (fun _ => rfl)).up rfl) (fun _ => rfl) (fun _ => rfl), Ag.rf⟩ hv.2.1, vRn_c (Ag_bI ((Ag.up Ag.rf rfl).up rfl) rfl (fun _ => rfl)) (Ag_bJ (((Ag.rf.ur (fun _ => rfl)).ur (fun _ => rfl)).up rfl) (fun _ => rfl) (fun _ => rfl)) hv.2.2.1, vPa_c (Ag_bI ((Ag.up Ag.rf rfl).up rfl) rfl (fun _ => rfl)) Ag.rf hv.2.2.2⟩
theorem law18 (hv : iv A B S nc nw nm nj cw jc I J R) (b1 : vp_in (l4 + 1) L) : wp_law_c18 (hq A B S I J R) (A 0 0) (A 0 23) (A 0 24) xs L l4 (Iv (A 0 0) (A 0 23) (A 0 24)) := by
  have h := hv.1
  have hT := iv_t hv 0
  obtain ⟨n1, n2, n3, n4, n5, n6⟩ := hv.2.1.1
  obtain ⟨k1, k2, k3, k4, k5, k6, k7, k8⟩ := hv.2.1.2.1
  have hT1 := iv_t hv 1
  unfold wp_law_c18 wp_L_check wp_X11_check wp_X11_knownJob wp_X12_check wp_X9_hasJob wp_X12_isJob wp_X12_thrown
  generalize xs (l4 + 1).toNatClampNeg = a1
  simp only [fr_0 h, fr_1 h, fr_7 h, fr_23 h, hi_q h, hj_q h, si_q h, sj_q h, vv_5 h, vs_5 h, vv_7 h, vs_7 h, vv_8 h, vs_8 h, vv_9 h, vs_9 h, vv_11 h, vs_11 h, vv_17 h, vs_17 h, vv_18 h, vs_18 h, vj_3 h, vj_4 h, vj_5 h, ex_some, ex_def, all_def, true_and, and_true, Nat.reduceLT, b1, k4]
  rcases i32c a1 with z | ⟨j, hj, rfl⟩
  · simp [z, up3, hT1]
  rcases (Nat.lt_or_ge j nj).symm with hjn | hjn
  · simp [nI_pos hj, nI_le (show nj ≤ j by omega) hj, up3, k8, hT1]
  have njj : ¬ nI nj ≤ nI j := nI_ge hjn (by omega)
  obtain ⟨hR7, -⟩ := hv.2.1.2.2.2.1 j hjn
  obtain ⟨⟨n, r1, r2, r3, r4⟩, r5, r6, r7, r8⟩ := hv.2.1.2.2.2.2.2.2.2.2.2.2.1 j hjn
  simp only [nI_pos hj, njj, show ¬ ((1 : Int32) = 0) by decide, vin (show j < 200 by omega) (show 200 < 2 ^ 31 by decide), nI_clamp hj, hR7, ex_some, fj_3 h hjn, fj_14 h hjn, not_false_eq_true, true_implies, not_true_eq_false, false_implies, true_and, and_true, false_and, and_false, forall_const, imp_self, implies_true, if_true, if_false, eq_self, Bool.true_eq_false, Bool.false_eq_true, false_or, or_false, true_or, or_true]
  refine p_fault (rc_q h hjn r1 r2 r5 r6 r7 r4) r8 ?_
  simp only [fr_24 h, fr_23 h, hi_q h, hj_q h, si_q h, sj_q h, vv_5 h, vs_5 h, vv_7 h, vs_7 h, vv_8 h, vs_8 h, vv_9 h, vs_9 h, vv_11 h, vs_11 h, vv_17 h, vs_17 h, vv_18 h, vs_18 h, vj_3 h, vj_4 h, vj_5 h, ex_some, ex_def, all_def, true_and, and_true, Nat.reduceLT, vp01, cl0]
  have g1 : ∀ J' : FJ, ∀ Q : Int32 → Hp → Prop, (∀ v g f u, Q (bFault (I 1 15 j) (I 1 16 j) (I 1 17 j) n (fun i => I 1 18 (30 * j + i))) (hq A B S (bI (up3 I 0 23 0 0) v g) (bJ J' f u) R)) → wp_X12_bodyOf (hq A B S (up3 I 0 23 0 0) J' R) (A 0 23) (nI j) Q := fun J' Q hk => by
    have u1 : ∀ i p, up3 I 0 23 0 0 1 i p = I 1 i p := fun i p => by simp [up3]
    refine p_body (n := n) h (by omega) r1 (by rw [u1]; exact r3) (by rw [u1]; exact r8) (fun v g f u _ _ => ?_)
    simp only [u1]
    exact hk v g f u
  simp only [up3_same, k8, nI_pos hj, njj, show ¬ ((1 : Int32) = 0) by decide, show (0 : Int32) ≤ 0 by decide, not_false_eq_true, true_implies, not_true_eq_false, false_implies, true_and, and_true, false_and, and_false, forall_const, imp_self, implies_true, if_true, if_false, eq_self, Bool.true_eq_false, Bool.false_eq_true, false_or, or_false, true_or, or_true]
  refine g1 _ _ (fun v g f u => ?_)
  simp only [fr_24 h, fr_23 h, hi_q h, hj_q h, si_q h, sj_q h, vv_5 h, vs_5 h, vv_7 h, vs_7 h, vv_8 h, vs_8 h, vv_9 h, vs_9 h, vv_11 h, vs_11 h, vv_17 h, vs_17 h, vv_18 h, vs_18 h, vj_3 h, vj_4 h, vj_5 h, ex_some, ex_def, all_def, true_and, and_true, Nat.reduceLT, vp01, cl0]
  have e1 : ∀ v g, bI (up3 I 0 23 0 0) v g 0 23 0 = 0 := fun v g => by simp [bI, up3]
  have e2 : ∀ (J' : FJ) f u p, bJ J' f u 0 24 p = J' 0 24 p := fun J' f u p => by simp [bJ]
  simp only [e1, e2, up3_same, not_false_eq_true, true_implies, not_true_eq_false, false_implies, true_and, and_true, false_and, and_false, forall_const, imp_self, implies_true, if_true, if_false, eq_self, Bool.true_eq_false, Bool.false_eq_true, false_or, or_false, true_or, or_true]
  exact iv_b hv _ _ _ _ _ _
theorem st_done (hv : iv A B S nc nw nm nj cw jc I J R) {j : Nat} (hj : j < nj) : I 16 j 0 = 1 ↔ I 0 23 22 = 1 ∧ I 1 26 j = 1 := by
  rcases hv.2.2.1 with ⟨q, q22⟩ | q
  · rw [(q.2.1 j hj).1, q22]; exact ⟨fun z => absurd z (by decide), fun z => absurd z.1 (by decide)⟩
  · rw [(q.2.2.1 j hj).1]; exact ⟨fun z => ⟨q.2.1, z⟩, fun z => z.2⟩
theorem was01 (hv : iv A B S nc nw nm nj cw jc I J R) : I 0 23 22 = 0 ∨ I 0 23 22 = 1 := by
  rcases hv.2.2.1 with ⟨q, q22⟩ | q
  · exact Or.inl q22
  · exact Or.inr q.2.1
theorem law16 (hv : iv A B S nc nw nm nj cw jc I J R) (b1 : vp_in (l4 + 1) L) : wp_law_c16 (hq A B S I J R) (A 0 0) (A 0 23) (A 0 24) xs L l4 (Iv (A 0 0) (A 0 23) (A 0 24)) := by
  have h := hv.1
  have hT := iv_t hv 0
  obtain ⟨n1, n2, n3, n4, n5, n6⟩ := hv.2.1.1
  obtain ⟨k1, k2, k3, k4, k5, k6, k7, k8⟩ := hv.2.1.2.1
  have hO := iv_o hv
  have hT1 := iv_t hv 1
  unfold wp_law_c16 wp_L_result wp_X11_result wp_X11_knownJob wp_X12_result wp_X9_hasJob wp_X12_isJob wp_X12_thrown
  generalize xs (l4 + 1).toNatClampNeg = a1
  simp only [fr_0 h, fr_1 h, fr_7 h, fr_23 h, hi_q h, hj_q h, si_q h, sj_q h, vv_5 h, vs_5 h, vv_7 h, vs_7 h, vv_8 h, vs_8 h, vv_9 h, vs_9 h, vv_11 h, vs_11 h, vv_17 h, vs_17 h, vv_18 h, vs_18 h, vj_3 h, vj_4 h, vj_5 h, ex_some, ex_def, all_def, true_and, and_true, Nat.reduceLT, b1, k4]
  rcases i32c a1 with z | ⟨j, hj, rfl⟩
  · simp [z, up3, hT1]
  rcases (Nat.lt_or_ge j nj).symm with hjn | hjn
  · simp [nI_pos hj, nI_le (show nj ≤ j by omega) hj, up3, k8, hT1]
  have njj : ¬ nI nj ≤ nI j := nI_ge hjn (by omega)
  obtain ⟨hR7, -⟩ := hv.2.1.2.2.2.1 j hjn
  obtain ⟨⟨n, r1, r2, r3, r4⟩, r5, r6, r7, r8⟩ := hv.2.1.2.2.2.2.2.2.2.2.2.2.1 j hjn
  have sd := st_done hv hjn
  simp only [nI_pos hj, njj, show ¬ ((1 : Int32) = 0) by decide, vin (show j < 200 by omega) (show 200 < 2 ^ 31 by decide), nI_clamp hj, hR7, ex_some, fj_3 h hjn, fj_16 h hjn, vj_3 h, hi_q h, Nat.reduceLT, sd, not_false_eq_true, true_implies, not_true_eq_false, false_implies, true_and, and_true, false_and, and_false, forall_const, imp_self, implies_true, if_true, if_false, eq_self, Bool.true_eq_false, Bool.false_eq_true, false_or, or_false, true_or, or_true]
  refine ⟨fun z => ?_, fun z => ?_⟩
  · obtain ⟨z1, z2⟩ := z
    simp only [fr_3 h, fj_3 h hjn, hi_q h, hj_q h, si_q h, sj_q h, vv_5 h, vs_5 h, vv_7 h, vs_7 h, vv_8 h, vs_8 h, vv_9 h, vs_9 h, vv_11 h, vs_11 h, vv_17 h, vs_17 h, vv_18 h, vs_18 h, vj_3 h, vj_4 h, vj_5 h, ex_some, ex_def, all_def, true_and, and_true, Nat.reduceLT]
    refine p_compute (bn_q h) (rc_q h hjn r1 r2 r5 r6 r7 r4) r8 (fun f g' hf => ?_)
    unfold bn
    simp only [sWJ_hq h.1 (show 0 < 20 by decide), fr_0 h, fr_3 h, fr_24 h, fr_23 h, fm_26 h, hi_q h, hj_q h, si_q h, sj_q h, vv_5 h, vs_5 h, vv_7 h, vs_7 h, vv_8 h, vs_8 h, vv_9 h, vs_9 h, vv_11 h, vs_11 h, vv_17 h, vs_17 h, vv_18 h, vs_18 h, vj_3 h, vj_4 h, vj_5 h, ex_some, ex_def, all_def, true_and, and_true, Nat.reduceLT, vp01, cl0, up3_same]
    have u1 : ∀ v w i p, up3 (up3 I 0 3 2 v) 0 23 0 w 1 i p = I 1 i p := fun v w i p => by simp [up3]
    have u22 : ∀ v w, up3 (up3 I 0 3 2 v) 0 23 0 w 0 23 22 = 1 := fun v w => by simp [up3, z1]
    have u4 : ∀ v, up3 I 0 3 2 v 0 23 4 = nI nj := fun v => by simp [up3, k8]
    simp only [u1, u22, u4, z2, nI_pos hj, njj, nI_clamp hj, vin (show j < 200 by omega) (show 200 < 2 ^ 31 by decide), show ¬ ((1 : Int32) = 0) by decide, show ¬ ((0 : Int32) < 0) by decide, not_false_eq_true, true_implies, not_true_eq_false, false_implies, true_and, and_true, false_and, and_false, forall_const, imp_self, implies_true, if_true, if_false, eq_self, Bool.true_eq_false, Bool.false_eq_true, false_or, or_false, true_or, or_true]
    refine p_body (n := n) h (by omega) r1 (by rw [u1]; exact r3) (by rw [u1]; exact r8) (fun v g f2 u hv2 hf2 => ?_)
    simp only [u1] at hv2
    simp only [fr_24 h, fr_23 h, hi_q h, hj_q h, si_q h, sj_q h, vv_5 h, vs_5 h, vv_7 h, vs_7 h, vv_8 h, vs_8 h, vv_9 h, vs_9 h, vv_11 h, vs_11 h, vv_17 h, vs_17 h, vv_18 h, vs_18 h, vj_3 h, vj_4 h, vj_5 h, ex_some, ex_def, all_def, true_and, and_true, Nat.reduceLT, vp01, cl0, bI_41]
    have e1 : ∀ w v g, bI (up3 (up3 I 0 3 2 w) 0 23 0 0) v g 0 23 0 = 0 := fun w v g => by simp [bI, up3]
    have e2 : ∀ (J' : FJ) f u p, bJ J' f u 0 24 p = J' 0 24 p := fun J' f u p => by simp [bJ]
    simp only [e1, e2, up3_same, hv2, not_false_eq_true, true_implies, not_true_eq_false, false_implies, true_and, and_true, false_and, and_false, forall_const, imp_self, implies_true, if_true, if_false, eq_self, Bool.true_eq_false, Bool.false_eq_true, false_or, or_false, true_or, or_true]
    exact iv_bb hv _ _ _ _ _ _ _ _ _
  · simp only [fr_24 h, fr_23 h, fm_26 h, hi_q h, hj_q h, si_q h, sj_q h, vv_5 h, vs_5 h, vv_7 h, vs_7 h, vv_8 h, vs_8 h, vv_9 h, vs_9 h, vv_11 h, vs_11 h, vv_17 h, vs_17 h, vv_18 h, vs_18 h, vj_3 h, vj_4 h, vj_5 h, ex_some, ex_def, all_def, true_and, and_true, Nat.reduceLT, vp01, cl0]
    rcases was01 hv with w | w
    · simp [up3, k8, nI_pos hj, njj, w, hO]
    · have z2 : ¬ I 1 26 j = 1 := fun q => z ⟨w, q⟩
      simp [up3, k8, nI_pos hj, njj, w, z2, nI_clamp hj, vin (show j < 200 by omega) (show 200 < 2 ^ 31 by decide), hO]
theorem law17 (hv : iv A B S nc nw nm nj cw jc I J R) (b1 : vp_in (l4 + 1) L) (b2 : vp_in (l4 + 2) L) : wp_law_c17 (hq A B S I J R) (A 0 0) (A 0 23) (A 0 24) xs L l4 (Iv (A 0 0) (A 0 23) (A 0 24)) := by
  have h := hv.1
  have hT := iv_t hv 0
  obtain ⟨n1, n2, n3, n4, n5, n6⟩ := hv.2.1.1
  obtain ⟨k1, k2, k3, k4, k5, k6, k7, k8⟩ := hv.2.1.2.1
  have hO := iv_o hv
  have hT1 := iv_t hv 1
  unfold wp_law_c17 wp_L_part wp_X11_part wp_X11_knownJob wp_X12_part wp_X9_hasJob wp_X12_isJob wp_X12_thrown
  generalize xs (l4 + 1).toNatClampNeg = a1
  generalize xs (l4 + 2).toNatClampNeg = a2
  simp only [fr_0 h, fr_1 h, fr_7 h, fr_23 h, hi_q h, hj_q h, si_q h, sj_q h, vv_5 h, vs_5 h, vv_7 h, vs_7 h, vv_8 h, vs_8 h, vv_9 h, vs_9 h, vv_11 h, vs_11 h, vv_17 h, vs_17 h, vv_18 h, vs_18 h, vj_3 h, vj_4 h, vj_5 h, ex_some, ex_def, all_def, true_and, and_true, Nat.reduceLT, b1, b2, k4]
  rcases i32c a1 with z | ⟨j, hj, rfl⟩
  · simp [z, up3, hT1]
  rcases (Nat.lt_or_ge j nj).symm with hjn | hjn
  · simp [nI_pos hj, nI_le (show nj ≤ j by omega) hj, up3, k8, hT1]
  have njj : ¬ nI nj ≤ nI j := nI_ge hjn (by omega)
  obtain ⟨hR7, -⟩ := hv.2.1.2.2.2.1 j hjn
  obtain ⟨⟨n, r1, r2, r3, r4⟩, r5, r6, r7, r8⟩ := hv.2.1.2.2.2.2.2.2.2.2.2.2.1 j hjn
  have sd := st_done hv hjn
  simp only [nI_pos hj, njj, show ¬ ((1 : Int32) = 0) by decide, vin (show j < 200 by omega) (show 200 < 2 ^ 31 by decide), nI_clamp hj, hR7, ex_some, fj_3 h hjn, fj_16 h hjn, vj_3 h, hi_q h, Nat.reduceLT, sd, not_false_eq_true, true_implies, not_true_eq_false, false_implies, true_and, and_true, false_and, and_false, forall_const, imp_self, implies_true, if_true, if_false, eq_self, Bool.true_eq_false, Bool.false_eq_true, false_or, or_false, true_or, or_true]
  have v22 : ∀ J' : FJ, ∀ Q : Int64 → Hp → Prop, True := fun _ _ => trivial
  refine ⟨fun z => ?_, fun z => ?_⟩
  · obtain ⟨z1, z2⟩ := z
    refine ⟨fun y => ?_, fun y => ⟨fun y2 => ?_, fun y2 => ?_⟩⟩
    · simp only [fr_24 h, fr_23 h, fm_26 h, hi_q h, hj_q h, si_q h, sj_q h, vv_5 h, vs_5 h, vv_7 h, vs_7 h, vv_8 h, vs_8 h, vv_9 h, vs_9 h, vv_11 h, vs_11 h, vv_17 h, vs_17 h, vv_18 h, vs_18 h, vj_3 h, vj_4 h, vj_5 h, ex_some, ex_def, all_def, true_and, and_true, Nat.reduceLT, vp01, cl0]
      simp [up3, k8, nI_pos hj, njj, z1, z2, y, nI_clamp hj, vin (show j < 200 by omega) (show 200 < 2 ^ 31 by decide), hO]
    · obtain ⟨i, hi, rfl⟩ : ∃ i, i < 30 ∧ a2 = nI i := by
        rcases i32c a2 with q | ⟨i, hi, rfl⟩
        · exact absurd q y
        · exact ⟨i, (nI_lti (b := 30) hi (by decide)).mp y2, rfl⟩
      simp only [fr_0 h, fr_3 h, fj_3 h hjn, hi_q h, hj_q h, si_q h, sj_q h, vv_5 h, vs_5 h, vv_7 h, vs_7 h, vv_8 h, vs_8 h, vv_9 h, vs_9 h, vv_11 h, vs_11 h, vv_17 h, vs_17 h, vv_18 h, vs_18 h, vj_3 h, vj_4 h, vj_5 h, ex_some, ex_def, all_def, true_and, and_true, Nat.reduceLT]
      refine p_compute (bn_q h) (rc_q h hjn r1 r2 r5 r6 r7 r4) r8 (fun f g' hf => ?_)
      unfold bn
      simp only [sWJ_hq h.1 (show 0 < 20 by decide), fr_0 h, fr_3 h, fr_12 h, fr_24 h, fr_23 h, fm_26 h, hi_q h, hj_q h, si_q h, sj_q h, vv_5 h, vs_5 h, vv_7 h, vs_7 h, vv_8 h, vs_8 h, vv_9 h, vs_9 h, vv_11 h, vs_11 h, vv_17 h, vs_17 h, vv_18 h, vs_18 h, vj_3 h, vj_4 h, vj_5 h, ex_some, ex_def, all_def, true_and, and_true, Nat.reduceLT, vp01, cl0, up3_same, vin hi (show 30 < 2 ^ 31 by decide), nI_clamp (show i < 2 ^ 31 by omega)]
      have u1 : ∀ v w i p, up3 (up3 I 0 3 2 v) 0 23 0 w 1 i p = I 1 i p := fun v w i p => by simp [up3]
      have u22 : ∀ v w, up3 (up3 I 0 3 2 v) 0 23 0 w 0 23 22 = 1 := fun v w => by simp [up3, z1]
      have u4 : ∀ v, up3 I 0 3 2 v 0 23 4 = nI nj := fun v => by simp [up3, k8]
      have u12 : upR (upR J 0 12 f) 0 13 g' 0 12 i = f i := by simp [upR]
      simp only [u1, u22, u4, u12, hf i hi, z2, nI_pos hj, njj, nI_clamp hj, vin (show j < 200 by omega) (show 200 < 2 ^ 31 by decide), show ¬ ((1 : Int32) = 0) by decide, show ¬ ((0 : Int32) < 0) by decide, y, y2, not_false_eq_true, true_implies, not_true_eq_false, false_implies, true_and, and_true, false_and, and_false, forall_const, imp_self, implies_true, if_true, if_false, eq_self, Bool.true_eq_false, Bool.false_eq_true, false_or, or_false, true_or, or_true]
      refine p_body (n := n) h (by omega) r1 (by rw [u1]; exact r3) (by rw [u1]; exact r8) (fun v g f2 u hv2 hf2 => ?_)
      simp only [u1] at hf2
      simp only [fr_24 h, fr_23 h, fm_40 h, hi_q h, hj_q h, si_q h, sj_q h, vv_5 h, vs_5 h, vv_7 h, vs_7 h, vv_8 h, vs_8 h, vv_9 h, vs_9 h, vv_11 h, vs_11 h, vv_17 h, vs_17 h, vv_18 h, vs_18 h, vj_3 h, vj_4 h, vj_5 h, ex_some, ex_def, all_def, true_and, and_true, Nat.reduceLT, vp01, cl0, bJ_40, vin hi (show 30 < 2 ^ 31 by decide), nI_clamp (show i < 2 ^ 31 by omega)]
      have e1 : ∀ w v g, bI (up3 (up3 I 0 3 2 w) 0 23 0 0) v g 0 23 0 = 0 := fun w v g => by simp [bI, up3]
      have e2 : ∀ (J' : FJ) f u p, bJ J' f u 0 24 p = J' 0 24 p := fun J' f u p => by simp [bJ]
      simp only [e1, e2, up3_same, hf2 i hi, not_false_eq_true, true_implies, not_true_eq_false, false_implies, true_and, and_true, false_and, and_false, forall_const, imp_self, implies_true, if_true, if_false, eq_self, Bool.true_eq_false, Bool.false_eq_true, false_or, or_false, true_or, or_true]
      exact iv_bb hv _ _ _ _ _ _ _ _ _
    · simp only [fr_24 h, fr_23 h, fm_26 h, hi_q h, hj_q h, si_q h, sj_q h, vv_5 h, vs_5 h, vv_7 h, vs_7 h, vv_8 h, vs_8 h, vv_9 h, vs_9 h, vv_11 h, vs_11 h, vv_17 h, vs_17 h, vv_18 h, vs_18 h, vj_3 h, vj_4 h, vj_5 h, ex_some, ex_def, all_def, true_and, and_true, Nat.reduceLT, vp01, cl0]
      simp [up3, k8, nI_pos hj, njj, z1, z2, y, y2, nI_clamp hj, vin (show j < 200 by omega) (show 200 < 2 ^ 31 by decide), hO]
  · simp only [fr_24 h, fr_23 h, fm_26 h, hi_q h, hj_q h, si_q h, sj_q h, vv_5 h, vs_5 h, vv_7 h, vs_7 h, vv_8 h, vs_8 h, vv_9 h, vs_9 h, vv_11 h, vs_11 h, vv_17 h, vs_17 h, vv_18 h, vs_18 h, vj_3 h, vj_4 h, vj_5 h, ex_some, ex_def, all_def, true_and, and_true, Nat.reduceLT, vp01, cl0]
    rcases was01 hv with w | w
    · simp [up3, k8, nI_pos hj, njj, w, hO]
    · have z2 : ¬ I 1 26 j = 1 := fun q => z ⟨w, q⟩
      simp [up3, k8, nI_pos hj, njj, w, z2, nI_clamp hj, vin (show j < 200 by omega) (show 200 < 2 ^ 31 by decide), hO]
end RS
