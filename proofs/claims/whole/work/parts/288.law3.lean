section L3
variable {A : Nat → Nat → Nat} {B : Nat → Nat × Nat} {S : Hp} {nc nw nm nj : Nat} {cw jc : Nat → Nat} {I : FI} {J : FJ} {R : FR} {xs : Nat → Int32} {L : Nat} {l4 : Int32}
theorem law3 (hv : iv A B S nc nw nm nj cw jc I J R) (b1 : vp_in (l4 + 1) L) (b2 : vp_in (l4 + 2) L) (b3 : vp_in (l4 + 3) L) : wp_law_c3 (hq A B S I J R) (A 0 0) (A 0 23) (A 0 24) xs L l4 (Iv (A 0 0) (A 0 23) (A 0 24)) := by
  have h := hv.1
  have hT := iv_t hv 0
  obtain ⟨n1, n2, n3, n4, n5, n6⟩ := hv.2.1.1
  obtain ⟨k1, k2, k3, k4, k5, k6, k7, k8⟩ := hv.2.1.2.1
  unfold wp_law_c3 wp_X11_job wp_X12_job wp_X9_hasCraft wp_X12_done
  generalize xs (l4 + 1).toNatClampNeg = a1
  generalize xs (l4 + 2).toNatClampNeg = a2
  generalize xs (l4 + 3).toNatClampNeg = a3
  simp only [fr_0 h, fr_1 h, fr_4 h, fr_23 h, hi_q h, hj_q h, si_q h, sj_q h, vv_5 h, vs_5 h, vv_7 h, vs_7 h, vv_8 h, vs_8 h, vv_9 h, vs_9 h, vv_11 h, vs_11 h, vv_17 h, vs_17 h, vv_18 h, vs_18 h, vj_3 h, vj_4 h, vj_5 h, ex_some, ex_def, all_def, true_and, and_true, Nat.reduceLT, b1, b2, b3, k1, k4]
  rcases i32c a1 with z | ⟨c, hc, rfl⟩
  · simp [z, hT]
  have zc : ¬ nI c < 0 := by rw [show (0 : Int32) = nI 0 from rfl, nI_lti hc (by decide)]; omega
  have e1 : nI c < nI nc ↔ c < nc := nI_lti hc (by omega)
  have e2 : nI nc ≤ nI c ↔ nc ≤ c := nI_leI (by omega) hc
  rcases (Nat.lt_or_ge c nc).symm with hcn | hcn
  · simp [zc, e1, e2, up3, k5, hcn, show ¬ c < nc by omega, hT]
  simp only [zc, e1, e2, hcn, show ¬ nc ≤ c by omega, not_false_eq_true, true_implies, not_true_eq_false, false_implies, true_and, and_true, false_and, and_false, forall_const, imp_self, implies_true, if_true, if_false, eq_self, Bool.true_eq_false, Bool.false_eq_true, false_or, or_false, true_or, or_true, show ¬ (1 : Int32) = 0 by decide]
  by_cases z2 : a2 < 1
  · simp [z2, hT, e1, hcn, up3, k5]
  by_cases z3 : 10000 < a2
  · simp [z2, z3, hT, e1, hcn, up3, k5]
  by_cases z4 : a3 < 0
  · simp [z2, z3, z4, hT, e1, hcn, up3, k5]
  by_cases z5 : a3 ≤ 1000
  case neg => simp [z2, z3, z4, z5, hT, e1, hcn, up3, k5]
  have e3 : nI nj < (200 : Int32) ↔ nj < 200 := by rw [show (200 : Int32) = nI 200 from rfl, nI_lti (by omega) (by decide)]
  have e4 : nI nj = (200 : Int32) ↔ nj = 200 := by rw [show (200 : Int32) = nI 200 from rfl, nI_eq (by omega) (by decide)]
  simp only [z2, z3, z4, z5, e3, not_false_eq_true, true_implies, not_true_eq_false, false_implies, true_and, and_true, false_and, and_false, forall_const, imp_self, implies_true, if_true, if_false, eq_self, Bool.true_eq_false, Bool.false_eq_true, false_or, or_false, true_or, or_true, k8]
  by_cases z6 : nj = 200
  · simp [z6, e4, hT, e1, hcn, up3, k5, k8, show nI 200 = 200 by decide]
  have hn : nj < 200 := by omega
  simp only [hn, not_false_eq_true, true_implies, not_true_eq_false, false_implies, true_and, and_true, false_and, and_false, forall_const, imp_self, implies_true, if_true, if_false, eq_self, Bool.true_eq_false, Bool.false_eq_true, false_or, or_false, true_or, or_true]
  refine p_emp hv (fun I' J' R' f g hs hp => ?_)
  simp only [fr_0 h, fr_1 h, fr_2 h, fr_5 h, hi_q h, hj_q h, si_q h, sj_q h, vv_5 h, vs_5 h, vv_7 h, vs_7 h, vv_8 h, vs_8 h, vv_9 h, vs_9 h, vv_11 h, vs_11 h, vv_17 h, vs_17 h, vv_18 h, vs_18 h, vj_3 h, vj_4 h, vj_5 h, ex_some, ex_def, all_def, true_and, and_true, Nat.reduceLT, vin (show c < 8 by omega) (show 8 < 2 ^ 31 by decide), nI_clamp hc]
  unfold wp_X9_addJob
  have d7 : up3 I' 0 2 7 0 0 1 7 = nI nj := hs.2.1.2.2.2.1
  have dc : R' 0 5 c = some (A 2 c) := (hs.2.2.1 c hcn).1
  simp only [fr_1 h, hi_q h, hj_q h, si_q h, sj_q h, vv_5 h, vs_5 h, vv_7 h, vs_7 h, vv_8 h, vs_8 h, vv_9 h, vs_9 h, vv_11 h, vs_11 h, vv_17 h, vs_17 h, vv_18 h, vs_18 h, vj_3 h, vj_4 h, vj_5 h, ex_some, ex_def, all_def, true_and, and_true, Nat.reduceLT, d7, e3, dc, hn, not_false_eq_true, true_implies, not_true_eq_false, false_implies, true_and, and_true, false_and, and_false, forall_const, imp_self, implies_true, if_true, if_false, eq_self, Bool.true_eq_false, Bool.false_eq_true, false_or, or_false, true_or, or_true]
  intro q hq0
  have hs2 : vSt A S nc nw nm nj cw jc (up3 I' 0 2 7 0) J' R' := vSt_c (Fy.rf.I rfl) hs
  have g2 : nRc nj (up3 I' 0 2 7 0) := nRc_c (Ag.rf.up rfl) g
  have e5 : ∀ T : Hp, hK (sN T q 6 0) (A 0 1) = hK T (A 0 1) ∧ hI (sN T q 6 0) (A 0 1) 7 = hI T (A 0 1) 7 ∨ A 0 1 = q := fun T => by
    by_cases e : A 0 1 = q
    · exact Or.inr e
    · left; simp [hK_sN, hI_sN, e]
  have nq : ¬ A 0 1 = q := fun e => by
    have : hK S (A 0 1) = 11 := (fr_1 h I J R).1
    rw [e] at this
    have h0 : hK S q = 0 := hq0
    omega
  rcases e5 (hq A B S (up3 I' 0 2 7 0) J' R') with ⟨e6, e7⟩ | e6
  case inr => exact absurd e6 nq
  rw [e6, e7, hi_q h (by decide), d7, (fr_1 h _ _ _).1]
  refine ⟨rfl, new_j h hq0 (fun A1 B1 S1 I1 J1 R1 hS rl ea nn => ?_)⟩
  have hs1 := rl.st hs2
  have g1 := rl.nr g2
  have f1 : I1 0 2 7 = 0 := by rw [rl.o (k := 2) (by decide), up3_same]
  have a0 : ∀ i, i < 25 → A 0 i = A1 0 i := fun i hi => (rl.1 0 i (Or.inl ⟨rfl, hi⟩)).1.symm
  have a2c : A 2 c = A1 2 c := (rl.1 2 c (Or.inr (Or.inr (Or.inl ⟨rfl, hcn⟩)))).1.symm
  rw [a2c] at nn
  rw [a0 0 (by decide), a0 1 (by decide), a0 23 (by decide), a0 24 (by decide), ← ea]
  clear hv hT hs hs2 hp g g2 rl hq0 a0 f dc d7 e5 e6 e7 nq ea k1 k2 k3 k4 k5 k6 k7 k8
  have hs := hs1
  have h := hS
  obtain ⟨h0, h1, h2, h3, h4, h5, h6, h7, h8, h9, h10, h11, h12, h13⟩ := hs; obtain ⟨c1, c2, c3, c4, c5, c6, c7, c8⟩ := id h1
  obtain ⟨od, o1, o2, o3⟩ := h4
  obtain ⟨⟨t1, t2, t3, t4, t5, t6, t7⟩, ⟨l1, l2, l3, l4'⟩, t8, t9, t10, t11, t12⟩ := nn
  have jc0 : ∀ j, j < nj → (if j = nj then c else jc j) = jc j := fun j hj => if_neg (by omega)
  simp only [fr_1 h, fr_7 h, fj_3 h (show nj < nj + 1 by omega), hi_q h, hj_q h, si_q h, sj_q h, vv_5 h, vs_5 h, vv_7 h, vs_7 h, vv_8 h, vs_8 h, vv_9 h, vs_9 h, vv_11 h, vs_11 h, vv_17 h, vs_17 h, vv_18 h, vs_18 h, vj_3 h, vj_4 h, vj_5 h, ex_some, ex_def, all_def, true_and, and_true, Nat.reduceLT, c4, nI_clamp (show nj < 2 ^ 31 by omega), vin (show nj < 200 by omega) (show 200 < 2 ^ 31 by decide)]
  refine p_ins (jc := fun j => if j = nj then c else jc j) (pr := fun j => if j = nj then a3 else I1 1 9 j) (od := od) (R := up3 R1 0 7 nj (some (A1 3 nj))) h hn n1 (fun j hj => ?_) (fun c hc => (h2 c hc).2.1) (fun j hj => ?_) (fun t ht => (o1 t ht).1) (fun R2 k hk gR q1 q2 q3 q4 => ?_) nj FU _ (Nat.le_refl _) (by unfold FU; omega) Ag.rf (fun t ht => ?_) (fun t x1 x2 => by omega) (fun s x1 x2 => by omega)
  · show (if j = nj then c else jc j) < nc
    by_cases e : j = nj
    · rw [if_pos e]; exact hcn
    · rw [if_neg e]; exact n6 j (by omega)
  · by_cases e : j = nj
    · subst e; simp [up3, t4, t1, t3]
    · obtain ⟨w1, w2, w3, w4, w5, w6, w7, w8⟩ := h3 j (by omega)
      simp [up3, e, w2, w3, w8]
  case refine_4 => rw [up3_off (by omega)]; exact (o1 t ht).2
  simp only [fr_1 h, fr_8 h, fr_23 h, fm_7 h, fm_8 h, fm_9 h, fm_15 h, fm_19 h, fm_20 h, fj_3 h (show nj < nj + 1 by omega), hi_q h, hj_q h, si_q h, sj_q h, vv_5 h, vs_5 h, vv_7 h, vs_7 h, vv_8 h, vs_8 h, vv_9 h, vs_9 h, vv_11 h, vs_11 h, vv_17 h, vs_17 h, vv_18 h, vs_18 h, vj_3 h, vj_4 h, vj_5 h, ex_some, ex_def, all_def, true_and, and_true, Nat.reduceLT, vin (show k < 200 by omega) (show 200 < 2 ^ 31 by decide), nI_clamp (show k < 2 ^ 31 by omega), b1, b2, b3]
  simp [up3, c4, c5, c8, t1, e1, hcn, zc, z2, z3, z4, z5, e4, z6, nI_clamp (show nj < 2 ^ 31 by omega), vin (show nj < 200 by omega) (show 200 < 2 ^ 31 by decide)]
  have za : 1 ≤ a2.toInt ∧ a2.toInt ≤ 10000 := ⟨i_ge (k := 1) (by decide) z2, by rw [i_nlt] at z3; exact i_le (k := 10000) (by decide) z3⟩
  refine ⟨A1, B1, S1, nc, nw, nm, nj + 1, cw, fun j => if j = nj then c else jc j, _, _, _, rfl, rfl, rfl, rfl, h, fin3 (I := I1) (R := R1) (c := c) (k := k) (a2 := a2) (a3 := a3) (od := od) hs1 hn hcn za ⟨⟨t1, t2, t3, t4, t5, t6, t7⟩, ⟨l1, l2, l3, l4'⟩, t8, t9, t10, t11, t12⟩ ?_ ?_ ?_ ?_ hk (fun t ht => (o1 t ht).1) o2 o3 ?_ ?_ ?_ q3 q4, Or.inl ⟨?_, ?_⟩, Or.inl ?_⟩
  · repeat (first | exact Ag.rf | refine Ag.up ?_ (by simp [gF]))
  · refine Ag.up (fun c i p e => ?_) rfl
    rw [gR c i p (by simp at e ⊢; omega), up3_off (by simp at e; omega)]
  · simp [up3, nI_succ]
  · intro j hj
    rw [up3_off (by omega), gR 0 7 j rfl]
    by_cases e : j = nj
    · rw [e, up3_same]
    · rw [up3_off (by omega)]; exact (h3 j (by omega)).1
  · rw [up3_same]
  · intro t ht
    rw [up3_off (by omega)]; exact q1 t ht
  · intro t x1 x2
    rw [up3_off (by omega)]; exact q2 t x1 x2
  · obtain ⟨w1, w2, w3⟩ := g1
    refine ⟨w1, fun j hj => ?_, w3⟩
    by_cases e : j = nj
    · subst e
      exact ⟨t12 0 (by decide), t12 1 (by decide), t12 2 (by decide), t12 3 (by decide), t12 4 (by decide), t12 5 (by decide), t12 6 (by decide), t12 7 (by decide)⟩
    · exact w2 j (by omega)
  · simp [up3]
  · exact f1
end L3
