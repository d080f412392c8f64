section AV
variable {A : Nat → Nat → Nat} {B : Nat → Nat × Nat} {S : Hp} {nc nw nm nj : Nat} {cw jc : Nat → Nat} {I : FI} {J : FJ} {R : FR} {xs : Nat → Int32} {L : Nat} {l4 : Int32}
variable {j b : Nat} {r : Nat → Int32}
/-- the relation 'leans' after one more edge -/
theorem ln_new (n4 : nj ≤ 200) (hj : j < nj) (hb : b < nj) (hne : b ≠ j) (r01 : ∀ x y, x < nj → y < nj → r (200 * x + y) = 0 ∨ r (200 * x + y) = 1) (ri : ∀ x, x < nj → r (200 * x + x) = 0) (rt : ∀ x y z, x < nj → y < nj → z < nj → r (200 * x + y) = 1 → r (200 * y + z) = 1 → r (200 * x + z) = 1) (hbj : r (200 * b + j) = 0) :
    (∀ x y, x < nj → y < nj → (lnF nj j b r nj 0 (200 * x + y) = 1 ↔ r (200 * x + y) = 1 ∨ (x = j ∨ r (200 * x + j) = 1) ∧ (y = b ∨ r (200 * b + y) = 1))) ∧ (∀ x y, x < nj → y < nj → lnF nj j b r nj 0 (200 * x + y) = 0 ∨ lnF nj j b r nj 0 (200 * x + y) = 1) ∧ (∀ x, x < nj → lnF nj j b r nj 0 (200 * x + x) = 0) ∧ (∀ x y z, x < nj → y < nj → z < nj → lnF nj j b r nj 0 (200 * x + y) = 1 → lnF nj j b r nj 0 (200 * y + z) = 1 → lnF nj j b r nj 0 (200 * x + z) = 1) := by
  have n01 : ∀ x y, x < nj → y < nj → (¬ r (200 * x + y) = 0 ↔ r (200 * x + y) = 1) := fun x y hx hy => by
    rcases r01 x y hx hy with q | q
    · rw [q]; decide
    · rw [q]; decide
  have f1 : ∀ x y, x < nj → y < nj → (lnF nj j b r nj 0 (200 * x + y) = 1 ↔ r (200 * x + y) = 1 ∨ (x = j ∨ r (200 * x + j) = 1) ∧ (y = b ∨ r (200 * b + y) = 1)) := fun x y hx hy => by
    rw [lnF_v n4 hx hy]
    simp only [n01 x j hx hj, n01 b y hb hy]
    by_cases q : (x = j ∨ r (200 * x + j) = 1) ∧ (y = b ∨ r (200 * b + y) = 1)
    · rw [if_pos q]; exact ⟨fun _ => Or.inr q, fun _ => rfl⟩
    · rw [if_neg q]; exact ⟨fun z => Or.inl z, fun z => z.resolve_right q⟩
  have f2 : ∀ x y, x < nj → y < nj → lnF nj j b r nj 0 (200 * x + y) = 0 ∨ lnF nj j b r nj 0 (200 * x + y) = 1 := fun x y hx hy => by
    rw [lnF_v n4 hx hy]
    by_cases q : (x = j ∨ ¬ r (200 * x + j) = 0) ∧ (y = b ∨ ¬ r (200 * b + y) = 0)
    · rw [if_pos q]; exact Or.inr rfl
    · rw [if_neg q]; exact r01 x y hx hy
  have n1 : ∀ x y, x < nj → y < nj → r (200 * x + y) = 0 → ¬ r (200 * x + y) = 1 := fun x y _ _ q => by rw [q]; decide
  refine ⟨f1, f2, fun x hx => ?_, fun x y z hx hy hz a1 a2 => ?_⟩
  · rcases f2 x x hx hx with q | q
    · exact q
    · exfalso
      rcases (f1 x x hx hx).mp q with q | ⟨q1, q2⟩
      · rw [ri x hx] at q; exact absurd q (by decide)
      · rcases q1 with rfl | q1
        · rcases q2 with q2 | q2
          · exact hne q2.symm
          · rw [hbj] at q2; exact absurd q2 (by decide)
        · rcases q2 with rfl | q2
          · rw [hbj] at q1; exact absurd q1 (by decide)
          · have := rt b x j hb hx hj q2 q1
            rw [hbj] at this; exact absurd this (by decide)
  · rw [f1 x y hx hy] at a1
    rw [f1 y z hy hz] at a2
    rw [f1 x z hx hz]
    rcases a1 with a1 | ⟨b1, b2⟩
    · rcases a2 with a2 | ⟨c1, c2⟩
      · exact Or.inl (rt x y z hx hy hz a1 a2)
      · refine Or.inr ⟨?_, c2⟩
        rcases c1 with rfl | c1
        · exact Or.inr a1
        · exact Or.inr (rt x y j hx hy hj a1 c1)
    · rcases a2 with a2 | ⟨c1, c2⟩
      · refine Or.inr ⟨b1, ?_⟩
        rcases b2 with rfl | b2
        · exact Or.inr a2
        · exact Or.inr (rt b y z hb hy hz b2 a2)
      · exact Or.inr ⟨b1, c2⟩
theorem mR_self (I : FI) : mR I (I 1 11) = I := by
  funext c i p
  unfold mR
  by_cases e : c = 1 ∧ i = 11
  · obtain ⟨rfl, rfl⟩ := e; simp
  · rw [if_neg e]
theorem Ag_mR {g : Nat → Nat → Nat → Bool} {I I' : FI} {q : Nat → Int32} (h : Ag g I I') (h1 : ∀ p, g 1 11 p = false) : Ag g I (mR I' q) := fun c i p e => by
  unfold mR
  by_cases e1 : c = 1 ∧ i = 11
  · obtain ⟨rfl, rfl⟩ := e1; rw [h1 p] at e; cases e
  · rw [if_neg e1]; exact h c i p e
theorem lnF_0 : lnF nj j b r 0 0 = r := by
  funext p; unfold lnF; simp
theorem law4 (hv : iv A B S nc nw nm nj cw jc I J R) (b1 : vp_in (l4 + 1) L) (b2 : vp_in (l4 + 2) L) : wp_law_c4 (hq A B S I J R) (A 0 0) (A 0 23) (A 0 24) xs L l4 (Iv (A 0 0) (A 0 23) (A 0 24)) := by
  have h := hv.1
  have hT := iv_t hv 0
  obtain ⟨n1, n2, n3, n4, n5, n6⟩ := hv.2.1.1
  obtain ⟨k1, k2, k3, k4, k5, k6, k7, k8⟩ := hv.2.1.2.1
  unfold wp_law_c4 wp_X11_after wp_X12_after wp_X9_hasJob wp_X12_isJob wp_X4_isDirectlyBehind
  generalize xs (l4 + 1).toNatClampNeg = a1
  generalize xs (l4 + 2).toNatClampNeg = a2
  simp only [fr_0 h, fr_1 h, fr_4 h, fr_7 h, fr_23 h, hi_q h, hj_q h, si_q h, sj_q h, vv_5 h, vs_5 h, vv_7 h, vs_7 h, vv_8 h, vs_8 h, vv_9 h, vs_9 h, vv_11 h, vs_11 h, vv_17 h, vs_17 h, vv_18 h, vs_18 h, vj_3 h, vj_4 h, vj_5 h, ex_some, ex_def, all_def, true_and, and_true, Nat.reduceLT, b1, b2, k4]
  rcases i32c a1 with z | ⟨j, hj, rfl⟩
  · simp [z, hT]
  rcases (Nat.lt_or_ge j nj).symm with hjn | hjn
  · simp [nI_pos hj, nI_le hjn hj, up3, k8, hT]
  have njj : ¬ nI nj ≤ nI j := nI_ge hjn (by omega)
  rcases i32c a2 with z | ⟨b, hb, rfl⟩
  · simp [nI_pos hj, njj, up3, k8, z, hT]
  rcases (Nat.lt_or_ge b nj).symm with hbn | hbn
  · simp [nI_pos hj, nI_pos hb, njj, nI_le hbn hb, up3, k8, hT]
  have njb : ¬ nI nj ≤ nI b := nI_ge hbn (by omega)
  obtain ⟨-, bn, bl, an, al, hl1, hl2, hrel, hin1, hin2⟩ := hv.2.1.2.2.2.2.2.1
  obtain ⟨v01, vbb, vba⟩ := hrel j b hjn hbn
  obtain ⟨w1, w2, w3, w4, w5⟩ := hv.2.1.2.2.2.2.2.2.1
  have hR7 := (hv.2.1.2.2.2.1 j hjn).1
  have hR7b := (hv.2.1.2.2.2.1 b hbn).1
  have e10 : ¬ ((1 : Int32) = 0) := by decide
  have bj : jb (J 7 b (j / 64)) (j % 64) = decide (I 1 11 (200 * b + j) = 1) := by
    rw [w1 b j hbn (by omega), decide_eq_true hjn, Bool.true_and]
  simp only [nI_pos hj, nI_pos hb, njj, njb, e10, nI_clamp hj, nI_clamp hb, hR7, hR7b, vin (show j < 200 by omega) (show 200 < 2 ^ 31 by decide), vin (show b < 200 by omega) (show 200 < 2 ^ 31 by decide), ex_some, fj_3 h hjn, fj_3 h hbn, not_false_eq_true, true_implies, not_true_eq_false, false_implies, true_and, and_true, false_and, and_false, forall_const, imp_self, implies_true, if_true, if_false, eq_self, Bool.true_eq_false, Bool.false_eq_true, false_or, or_false, true_or, or_true]
  have u10 : ∀ v p, up3 I 0 23 0 v 1 10 p = I 1 10 p := fun v p => by simp [up3]
  have u11 : ∀ v p, up3 I 0 23 0 v 1 11 p = I 1 11 p := fun v p => by simp [up3]
  have u4 : ∀ v, up3 I 0 23 0 v 0 23 4 = nI nj := fun v => by simp [up3, k8]
  refine p_idb h hl1 hjn (fun q => ?_) (fun q => ?_) (bn j) 0 FU (by omega) (fu_pos (by have := (hl1 j hjn).2.1; omega)) (fun i hi => absurd hi (Nat.not_lt_zero i))
  · have c10 := vbb.mpr q
    simp only [fr_23 h, fm_10 h, hi_q h, hj_q h, si_q h, sj_q h, vv_5 h, vs_5 h, vv_7 h, vs_7 h, vv_8 h, vs_8 h, vv_9 h, vs_9 h, vv_11 h, vs_11 h, vv_17 h, vs_17 h, vv_18 h, vs_18 h, vj_3 h, vj_4 h, vj_5 h, ex_some, ex_def, all_def, true_and, and_true, Nat.reduceLT, u4, u10, njj, njb, e10, i200, nI_clamp (show 200 * j + b < 2 ^ 31 by omega), vin (show 200 * j + b < 40000 by omega) (show 40000 < 2 ^ 31 by decide), c10, not_false_eq_true, true_implies, not_true_eq_false, false_implies, true_and, and_true, false_and, and_false, forall_const, imp_self, implies_true, if_true, if_false, eq_self, Bool.true_eq_false, Bool.false_eq_true, false_or, or_false, true_or, or_true]
    exact hT
  · have c10 : I 1 10 (200 * j + b) = 0 := v01.resolve_right (fun z => q (vbb.mp z))
    simp only [Option.some.injEq, h.1.iff (show 3 < 20 by decide) (show 3 < 20 by decide), e10, exists_eq_left', not_false_eq_true, true_implies, not_true_eq_false, false_implies, true_and, and_true, false_and, and_false, forall_const, imp_self, implies_true, if_true, if_false, eq_self, Bool.true_eq_false, Bool.false_eq_true, false_or, or_false, true_or, or_true]
    refine ⟨fun z => ?_, fun z => ?_⟩
    · subst z
      simp only [fr_23 h, fm_10 h, hi_q h, hj_q h, si_q h, sj_q h, vv_5 h, vs_5 h, vv_7 h, vs_7 h, vv_8 h, vs_8 h, vv_9 h, vs_9 h, vv_11 h, vs_11 h, vv_17 h, vs_17 h, vv_18 h, vs_18 h, vj_3 h, vj_4 h, vj_5 h, ex_some, ex_def, all_def, true_and, and_true, Nat.reduceLT, u4, u10, njj, e10, i200, nI_clamp (show 200 * j + j < 2 ^ 31 by omega), vin (show 200 * j + j < 40000 by omega) (show 40000 < 2 ^ 31 by decide), c10, not_false_eq_true, true_implies, not_true_eq_false, false_implies, true_and, and_true, false_and, and_false, forall_const, imp_self, implies_true, if_true, if_false, eq_self, Bool.true_eq_false, Bool.false_eq_true, false_or, or_false, true_or, or_true]
      exact hT
    · have zI : ¬ nI j = nI b := fun w => z ((nI_eq hj hb).mp w)
      simp only [fj_3 h hbn, fj_6 h hbn, exists_eq_left', hi_q h, hj_q h, si_q h, sj_q h, vv_5 h, vs_5 h, vv_7 h, vs_7 h, vv_8 h, vs_8 h, vv_9 h, vs_9 h, vv_11 h, vs_11 h, vv_17 h, vs_17 h, vv_18 h, vs_18 h, vj_3 h, vj_4 h, vj_5 h, ex_some, ex_def, all_def, true_and, and_true, Nat.reduceLT]
      refine p_has (js_j h hbn) (by omega) ?_
      rw [js_hq h (by decide), bj]
      by_cases zl : I 1 11 (200 * b + j) = 1
      · rw [decide_eq_true zl, if_pos rfl]
        refine ⟨fun w => absurd w (by decide), fun _ => ?_⟩
        simp only [fr_23 h, fm_10 h, fm_11 h, hi_q h, hj_q h, si_q h, sj_q h, vv_5 h, vs_5 h, vv_7 h, vs_7 h, vv_8 h, vs_8 h, vv_9 h, vs_9 h, vv_11 h, vs_11 h, vv_17 h, vs_17 h, vv_18 h, vs_18 h, vj_3 h, vj_4 h, vj_5 h, ex_some, ex_def, all_def, true_and, and_true, Nat.reduceLT, u4, u10, u11, njj, njb, e10, i200, nI_clamp (show 200 * j + b < 2 ^ 31 by omega), nI_clamp (show 200 * b + j < 2 ^ 31 by omega), vin (show 200 * j + b < 40000 by omega) (show 40000 < 2 ^ 31 by decide), vin (show 200 * b + j < 40000 by omega) (show 40000 < 2 ^ 31 by decide), c10, zI, zl, not_false_eq_true, true_implies, not_true_eq_false, false_implies, true_and, and_true, false_and, and_false, forall_const, imp_self, implies_true, if_true, if_false, eq_self, Bool.true_eq_false, Bool.false_eq_true, false_or, or_false, true_or, or_true]
        exact hT
      · have zl0 : I 1 11 (200 * b + j) = 0 := (w2 b j hbn hjn).resolve_right zl
        rw [decide_eq_false zl, if_neg (by decide)]
        refine ⟨fun _ => ?_, fun w => absurd rfl w⟩
        simp only [fr_0 h, fr_4 h, hi_q h, hj_q h, si_q h, sj_q h, vv_5 h, vs_5 h, vv_7 h, vs_7 h, vv_8 h, vs_8 h, vv_9 h, vs_9 h, vv_11 h, vs_11 h, vv_17 h, vs_17 h, vv_18 h, vs_18 h, vj_3 h, vj_4 h, vj_5 h, ex_some, ex_def, all_def, true_and, and_true, Nat.reduceLT]
        refine p_emp hv (fun I' J' R' f g hs hp => ?_)
        simp only [fr_0 h, fr_1 h, fr_2 h, hi_q h, hj_q h, si_q h, sj_q h, vv_5 h, vs_5 h, vv_7 h, vs_7 h, vv_8 h, vs_8 h, vv_9 h, vs_9 h, vv_11 h, vs_11 h, vv_17 h, vs_17 h, vv_18 h, vs_18 h, vj_3 h, vj_4 h, vj_5 h, ex_some, ex_def, all_def, true_and, and_true, Nat.reduceLT]
        unfold wp_X9_join
        simp only [fj_3 h hjn, fj_4 h hjn, hi_q h, hj_q h, si_q h, sj_q h, vv_5 h, vs_5 h, vv_7 h, vs_7 h, vv_8 h, vs_8 h, vv_9 h, vs_9 h, vv_11 h, vs_11 h, vv_17 h, vs_17 h, vv_18 h, vs_18 h, vj_3 h, vj_4 h, vj_5 h, ex_some, ex_def, all_def, true_and, and_true, Nat.reduceLT]
        have hs0 : vSt A S nc nw nm nj cw jc (up3 I' 0 2 7 0) J' R' := vSt_c (Fy.rf.I rfl) hs
        have g0 : nRc nj (up3 I' 0 2 7 0) := nRc_c (Ag.up Ag.rf rfl) g
        have i10 : up3 I' 0 2 7 0 1 10 = I 1 10 := funext fun p => by simp [up3]; exact f.1 1 10 p rfl
        have i11 : up3 I' 0 2 7 0 1 11 = I 1 11 := funext fun p => by simp [up3]; exact f.1 1 11 p rfl
        clear hl1 hl2 hrel hin1 hin2 vbb vba q
        have i27 : up3 I' 0 2 7 0 0 2 7 = 0 := by simp [up3]
        generalize up3 I' 0 2 7 0 = I0 at hs0 g0 i10 i11 i27 ⊢
        obtain ⟨hE, bn, bl, an, al, hl1, hl2, hrel, hin1, hin2⟩ := hs0.2.2.2.2.2.1
        rw [i10] at hrel
        have nb1 : ¬ ∃ i, i < bn j ∧ bl j i = b := fun w => by
          have := ((hrel j b hjn hbn).2.1).mpr w; rw [c10] at this; exact absurd this (by decide)
        have na1 : ¬ ∃ i, i < an b ∧ al b i = j := fun w => by
          have := ((hrel j b hjn hbn).2.2).mpr w; rw [c10] at this; exact absurd this (by decide)
        have hn1 : bn j < 200 := by
          have := pig nj (bn j + 1) (fun i => if i = bn j then b else bl j i) (fun i hi => by
            by_cases e : i = bn j
            · simp [e, hbn]
            · simp only [e, if_false]; exact ((hl1 j hjn).2.2.2 i (by omega)).1) (fun i k hi hk e => by
            by_cases e1 : i = bn j
            · by_cases e2 : k = bn j
              · omega
              · simp only [e1, e2, if_true, if_false] at e; exact absurd ⟨k, by omega, e.symm⟩ nb1
            · by_cases e2 : k = bn j
              · simp only [e1, e2, if_true, if_false] at e; exact absurd ⟨i, by omega, e⟩ nb1
              · simp only [e1, e2, if_false] at e; exact hin1 j i k hjn (by omega) (by omega) e)
          omega
        have hn2 : an b < 200 := by
          have := pig nj (an b + 1) (fun i => if i = an b then j else al b i) (fun i hi => by
            by_cases e : i = an b
            · simp [e, hjn]
            · simp only [e, if_false]; exact ((hl2 b hbn).2.2.2 i (by omega)).1) (fun i k hi hk e => by
            by_cases e1 : i = an b
            · by_cases e2 : k = an b
              · omega
              · simp only [e1, e2, if_true, if_false] at e; exact absurd ⟨k, by omega, e.symm⟩ na1
            · by_cases e2 : k = an b
              · simp only [e1, e2, if_true, if_false] at e; exact absurd ⟨i, by omega, e⟩ na1
              · simp only [e1, e2, if_false] at e; exact hin2 b i k hbn (by omega) (by omega) e)
          omega
        refine one_add h (Or.inl ⟨rfl, rfl, rfl, rfl⟩) hl1 hl2 hjn hbn hn1 (fun A1 B1 S1 I1 J1 R1 s1 ra1 m1 m2 hE1 => ?_)
        have aa1 : ∀ c i, usd nj nc c i → A c i = A1 c i := fun c i u => (ra1 c i u).1.symm
        have uj : ∀ c i, (jk c).1 ≠ 0 → i < nj → usd nj nc c i := fun c i hc hi => Or.inr (Or.inr (Or.inr ⟨hc, hi⟩))
        have uo : ∀ i, i < 25 → usd nj nc 0 i := fun i hi => Or.inl ⟨rfl, hi⟩
        rw [aa1 3 b (uj 3 b (by decide) hbn), aa1 3 j (uj 3 j (by decide) hjn), aa1 0 0 (uo 0 (by decide)), aa1 0 1 (uo 1 (by decide)), aa1 0 23 (uo 23 (by decide)), aa1 0 24 (uo 24 (by decide))]
        have hold := h
        have h := s1
        simp only [fj_3 h hbn, fj_5 h hbn, hi_q h, hj_q h, si_q h, sj_q h, vv_5 h, vs_5 h, vv_7 h, vs_7 h, vv_8 h, vs_8 h, vv_9 h, vs_9 h, vv_11 h, vs_11 h, vv_17 h, vs_17 h, vv_18 h, vs_18 h, vj_3 h, vj_4 h, vj_5 h, ex_some, ex_def, all_def, true_and, and_true, Nat.reduceLT]
        refine one_add h (Or.inr ⟨rfl, rfl, rfl, rfl⟩) m2 m1 hbn hjn hn2 (fun A2 B2 S2 I2 J2 R2 s2 ra2 m3 m4 hE2 => ?_)
        have aa2 : ∀ c i, usd nj nc c i → A1 c i = A2 c i := fun c i u => (ra2 c i u).1.symm
        rw [aa2 3 b (uj 3 b (by decide) hbn), aa2 3 j (uj 3 j (by decide) hjn), aa2 0 0 (uo 0 (by decide)), aa2 0 1 (uo 1 (by decide)), aa2 0 23 (uo 23 (by decide)), aa2 0 24 (uo 24 (by decide))]
        have ra := ra1.tr ra2
        have h := s2
        obtain ⟨h0, h1, h2, h3, h4, h6, h7, h8, h9, h10, h11, h12, h13⟩ := ra.st0 hs0
        have g := Ra.nr S ra g0
        obtain ⟨c1, c2, c3, c4, c5, c6, c7, c8⟩ := id h1
        have j10 : I2 1 10 = I 1 10 := (funext fun p => ((ra 1 10 (Or.inr (Or.inl ⟨rfl, by decide⟩))).2 (by decide) (by decide)).1 p).trans i10
        have j11 : I2 1 11 = I 1 11 := (funext fun p => ((ra 1 11 (Or.inr (Or.inl ⟨rfl, by decide⟩))).2 (by decide) (by decide)).1 p).trans i11
        have f7 : I2 0 2 7 = I0 0 2 7 := ((ra 0 2 (uo 2 (by decide))).2 (by decide) (by decide)).1 7
        have hne : b ≠ j := fun w => z w.symm
        have bj2 : jb (J2 7 b (j / 64)) (j % 64) = false := by
          rw [h6.1 b j hbn (by omega), j11, zl0]; simp
        refine p_join (J0 := J2) h n4 c4 (fun i hi => (h3 i hi).1) (fun i hi => (h3 i hi).2.1) hjn hbn hne bj2 (fun J3 q1 q2 => ?_) nj 0 FU J2 (by omega) (fu_pos (by omega)) (fun _ _ _ _ => rfl) (fun x y _ _ => by rw [decide_eq_false (Nat.not_lt_zero x), Bool.false_and, Bool.or_false])
        have v10 : ∀ p, up3 I2 0 23 0 0 1 10 p = I 1 10 p := fun p => by simp [up3, j10]
        have v11 : ∀ p, up3 I2 0 23 0 0 1 11 p = I 1 11 p := fun p => by simp [up3, j11]
        have v4 : up3 I2 0 23 0 0 0 23 4 = nI nj := by simp [up3, c8]
        simp only [fr_23 h, fm_10 h, fm_11 h, hi_q h, hj_q h, si_q h, sj_q h, vv_5 h, vs_5 h, vv_7 h, vs_7 h, vv_8 h, vs_8 h, vv_9 h, vs_9 h, vv_11 h, vs_11 h, vv_17 h, vs_17 h, vv_18 h, vs_18 h, vj_3 h, vj_4 h, vj_5 h, ex_some, ex_def, all_def, true_and, and_true, Nat.reduceLT, v4, v10, v11, njj, njb, e10, i200, nI_clamp (show 200 * j + b < 2 ^ 31 by omega), nI_clamp (show 200 * b + j < 2 ^ 31 by omega), vin (show 200 * j + b < 40000 by omega) (show 40000 < 2 ^ 31 by decide), vin (show 200 * b + j < 40000 by omega) (show 40000 < 2 ^ 31 by decide), c10, zI, zl0, not_false_eq_true, true_implies, not_true_eq_false, false_implies, true_and, and_true, false_and, and_false, forall_const, imp_self, implies_true, if_true, if_false, eq_self, Bool.true_eq_false, Bool.false_eq_true, false_or, or_false, true_or, or_true]
        have z11 : up3 (up3 I2 0 23 0 0) 1 10 (200 * j + b) 1 = mR (up3 (up3 I2 0 23 0 0) 1 10 (200 * j + b) 1) (lnF nj j b (I 1 11) 0 0) := by
          rw [lnF_0]
          have : up3 (up3 I2 0 23 0 0) 1 10 (200 * j + b) 1 1 11 = I 1 11 := funext fun p => by simp [up3, j11]
          rw [← this, mR_self]
        rw [z11]
        refine p_m79 h n4 (by simp [up3, c8]) hjn hbn hne zl0 ?_ nj 0 FU (by omega) (fu_pos (by omega))
        refine ⟨fun _ => ?_, fun w => absurd rfl w⟩
        obtain ⟨t1, t2, t3, t4⟩ := ln_new (r := I 1 11) n4 hjn hbn hne w2 w3 w4 zl0
        generalize hF : up3 (mR (up3 (up3 I2 0 23 0 0) 1 10 (200 * j + b) 1) (lnF nj j b (I 1 11) nj 0)) 0 23 22 0 = F
        have F10 : ∀ p, F 1 10 p = if p = 200 * j + b then 1 else I 1 10 p := fun p => by rw [← hF]; simp [up3, mR, j10]
        have F11 : ∀ p, F 1 11 p = lnF nj j b (I 1 11) nj 0 p := fun p => by rw [← hF]; simp [up3, mR]
        have ag : ∀ q : Nat → Nat → Nat → Bool, q 0 23 0 = false → q 0 23 22 = false → (∀ p, q 1 10 p = false) → (∀ p, q 1 11 p = false) → Ag q I2 F := fun q e1 e2 e3 e4 => by
          rw [← hF]; exact Ag.up (Ag_mR (Ag.up (Ag.up Ag.rf e1) (e3 _)) e4) e2
        have aj : ∀ q : Nat → Nat → Nat → Bool, (∀ i p, q 7 i p = false) → Ag q J2 J3 := fun q e c i p w => q1 c i p (fun y => by rw [y, e i p] at w; cases w)
        have FI : ∀ c i p, c ≠ 0 → c ≠ 1 → F c i p = I2 c i p := fun c i p y1 y2 => by rw [← hF]; simp [up3, mR, y1, y2]
        have F0 : F 0 2 7 = I2 0 2 7 := by rw [← hF]; simp [up3, mR]
        have F22 : F 0 23 22 = 0 := by rw [← hF]; simp [up3]
        have Fm : ∀ k p, k ≠ 10 → k ≠ 11 → F 1 k p = I2 1 k p := fun k p y1 y2 => by rw [← hF]; simp [up3, mR, y1, y2]
        have nofr : ∀ p : Nat, True := fun _ => trivial
        refine ⟨A2, B2, S2, nc, nw, nm, nj, cw, jc, F, J3, R2, rfl, rfl, rfl, rfl, h, ⟨h0, vCnt_c (ag _ rfl rfl (fun _ => rfl) (fun _ => rfl)) h1, vCr_c (ag _ rfl rfl (fun _ => rfl) (fun _ => rfl)) Ag.rf h2, vJo_c (ag _ rfl rfl (fun _ => rfl) (fun _ => rfl)) Ag.rf h3, vOd_c (ag _ rfl rfl (fun _ => rfl) (fun _ => rfl)) Ag.rf h4, ?_, ?_, vNd_c (ag _ rfl rfl (fun _ => rfl) (fun _ => rfl)) (aj _ (fun _ _ => rfl)) h7, vAm_c (ag _ rfl rfl (fun _ => rfl) (fun _ => rfl)) h8, vAm_c (ag _ rfl rfl (fun _ => rfl) (fun _ => rfl)) h9, vRc_c (ag _ rfl rfl (fun _ => rfl) (fun _ => rfl)) h10, vPl_c (ag _ rfl rfl (fun _ => rfl) (fun _ => rfl)) h11, vFs_c (ag _ rfl rfl (fun _ => rfl) (fun _ => rfl)) (aj _ (fun _ _ => rfl)) h12, ?_⟩, Or.inl ⟨nRc_c (ag _ rfl rfl (fun _ => rfl) (fun _ => rfl)) g, F22⟩, Or.inl (F0.trans (f7.trans i27))⟩
        · refine ⟨hE2 (hE1 hE), fun i => if i = j then bn j + 1 else bn i, fun i k => if i = j ∧ k = bn j then b else bl i k, fun i => if i = b then an b + 1 else an i, fun i k => if i = b ∧ k = an b then j else al i k, fun x hx => by rw [FI 4 x 2 (by decide) (by decide)]; exact m4 x hx, fun x hx => by rw [FI 5 x 2 (by decide) (by decide)]; exact m3 x hx, fun x y hx hy => ?_, fun x i i' hx hi hi' e => ?_, fun x i i' hx hi hi' e => ?_⟩
          · obtain ⟨o1, o2, o3⟩ := hrel x y hx hy
            rw [F10]
            by_cases e : x = j ∧ y = b
            · obtain ⟨rfl, rfl⟩ := e
              rw [if_pos rfl]
              exact ⟨Or.inr rfl, ⟨fun _ => ⟨bn x, by simp, by simp⟩, fun _ => rfl⟩, ⟨fun _ => ⟨an y, by simp, by simp⟩, fun _ => rfl⟩⟩
            · have e2 : ¬ 200 * x + y = 200 * j + b := by omega
              rw [if_neg e2]
              refine ⟨o1, ?_, ?_⟩
              · rw [o2]
                by_cases e3 : x = j
                · subst e3
                  simp only [if_true, true_and]
                  constructor
                  · rintro ⟨i, y1, y2⟩; exact ⟨i, by omega, by rw [if_neg (by omega)]; exact y2⟩
                  · rintro ⟨i, y1, y2⟩
                    by_cases e4 : i = bn x
                    · rw [if_pos e4] at y2; exact absurd ⟨rfl, y2.symm⟩ e
                    · rw [if_neg e4] at y2; exact ⟨i, by omega, y2⟩
                · simp only [e3, false_and, if_false]
              · rw [o3]
                by_cases e3 : y = b
                · subst e3
                  simp only [if_true, true_and]
                  constructor
                  · rintro ⟨i, y1, y2⟩; exact ⟨i, by omega, by rw [if_neg (by omega)]; exact y2⟩
                  · rintro ⟨i, y1, y2⟩
                    by_cases e4 : i = an y
                    · rw [if_pos e4] at y2; exact absurd ⟨y2.symm, rfl⟩ e
                    · rw [if_neg e4] at y2; exact ⟨i, by omega, y2⟩
                · simp only [e3, false_and, if_false]
          · by_cases e3 : x = j
            · subst e3
              simp only [if_true, true_and] at hi hi' e
              by_cases e1 : i = bn x
              · by_cases e2 : i' = bn x
                · omega
                · simp only [e1, e2, if_true, if_false] at e; exact absurd ⟨i', by omega, e.symm⟩ nb1
              · by_cases e2 : i' = bn x
                · simp only [e1, e2, if_true, if_false] at e; exact absurd ⟨i, by omega, e⟩ nb1
                · simp only [e1, e2, if_false] at e; exact hin1 x i i' hx (by omega) (by omega) e
            · simp only [e3, false_and, if_false] at hi hi' e
              exact hin1 x i i' hx hi hi' e
          · by_cases e3 : x = b
            · subst e3
              simp only [if_true, true_and] at hi hi' e
              by_cases e1 : i = an x
              · by_cases e2 : i' = an x
                · omega
                · simp only [e1, e2, if_true, if_false] at e; exact absurd ⟨i', by omega, e.symm⟩ na1
              · by_cases e2 : i' = an x
                · simp only [e1, e2, if_true, if_false] at e; exact absurd ⟨i, by omega, e⟩ na1
                · simp only [e1, e2, if_false] at e; exact hin2 x i i' hx (by omega) (by omega) e
            · simp only [e3, false_and, if_false] at hi hi' e
              exact hin2 x i i' hx hi hi' e
        · refine ⟨fun x y hx hy => ?_, fun x y hx hy => by rw [F11]; exact t2 x y hx hy, fun x hx => by rw [F11]; exact t3 x hx, fun x y w hx hy hw => by rw [F11, F11, F11]; exact t4 x y w hx hy hw, fun x y hx hy e => ?_⟩
          · rw [q2 x y hx hy, h6.1 x y hx hy, h6.1 x j hx (by omega), h6.1 b y hbn hy, j11, F11, decide_eq_true hjn]
            by_cases e : y < nj
            · rw [decide_eq_true e]
              simp only [Bool.true_and]
              rw [← Bool.decide_or, ← Bool.decide_or, ← Bool.decide_and, ← Bool.decide_or]
              exact decide_eq_decide.mpr (t1 x y hx e).symm
            · rw [decide_eq_false e, decide_eq_false (show ¬ y = b by omega)]
              simp
          · rw [F11, t1 x y hx hy]
            rw [F10] at e
            by_cases e2 : 200 * x + y = 200 * j + b
            · have e3 : x = j ∧ y = b := by omega
              exact Or.inr ⟨Or.inl e3.1, Or.inl e3.2⟩
            · rw [if_neg e2] at e
              exact Or.inl (w5 x y hx hy e)
        · obtain ⟨y1, y2, y3, y4⟩ := h13
          refine ⟨fun x y hx hy hz => ?_, fun x m hx hm hz => by rw [Fm 12 _ (by decide) (by decide)]; exact y2 x m hx hm hz, fun x s hx hs hz => by rw [Fm 13 _ (by decide) (by decide), Fm 14 _ (by decide) (by decide)]; exact y3 x s hx hs hz, fun x hx hz => by rw [Fm 16 _ (by decide) (by decide), Fm 17 _ (by decide) (by decide)]; exact y4 x hx hz⟩
          have e2 : ¬ 200 * x + y = 200 * j + b := by omega
          rw [F10, F11, if_neg e2, lnF_z hy hz, ← j10, ← j11]
          exact y1 x y hx hy hz
end AV
