section MV
variable {A : Nat → Nat → Nat} {B : Nat → Nat × Nat} {S : Hp} {nc nw nm nj : Nat} {cw jc : Nat → Nat} {I : FI} {J : FJ} {R : FR} {xs : Nat → Int32} {L : Nat} {l4 : Int32}
theorem i_add {x a : Int32} (h1 : -2147483648 ≤ x.toInt + a.toInt) (h2 : x.toInt + a.toInt < 2147483648) : (x + a).toInt = x.toInt + a.toInt := by
  rw [Int32.toInt_add]
  apply Int.bmod_eq_of_le <;> omega
theorem j_add {x a : Int64} (h1 : -9223372036854775808 ≤ x.toInt + a.toInt) (h2 : x.toInt + a.toInt < 9223372036854775808) : (x + a).toInt = x.toInt + a.toInt := by
  rw [Int64.toInt_add]
  apply Int.bmod_eq_of_le <;> omega
theorem st_add {x a : Int32} (h1 : 0 ≤ x.toInt) (h2 : x.toInt ≤ 1000000000) (h3 : 0 ≤ a.toInt) (h4 : a.toInt ≤ 1000000) : (x.toInt64 + a.toInt64 ≤ 1000000000 ↔ x + a ≤ 1000000000) ∧ (x + a).toInt64 = x.toInt64 + a.toInt64 ∧ (x + a).toInt = x.toInt + a.toInt := by
  have e1 := i_add (x := x) (a := a) (by omega) (by omega)
  have e2 : (x.toInt64 + a.toInt64).toInt = x.toInt + a.toInt := by
    rw [j_add, Int32.toInt_toInt64, Int32.toInt_toInt64] <;> rw [Int32.toInt_toInt64, Int32.toInt_toInt64] <;> omega
  refine ⟨?_, ?_, e1⟩
  · rw [Int64.le_iff_toInt_le, Int32.le_iff_toInt_le, e1, e2]; exact Iff.rfl
  · apply Int64.toInt_inj.mp
    rw [Int32.toInt_toInt64, e1, e2]
theorem i_le {x : Int32} {k : Nat} (hk : k < 2 ^ 31) (h : x ≤ nI k) : x.toInt ≤ k := by
  rw [Int32.le_iff_toInt_le, nI_toInt hk] at h; exact h
theorem i_ge {x : Int32} {k : Nat} (hk : k < 2 ^ 31) (h : ¬ x < nI k) : (k : Int) ≤ x.toInt := by
  rw [Int32.lt_iff_toInt_lt, nI_toInt hk] at h; omega
theorem law2 (hv : iv A B S nc nw nm nj cw jc I J R) (b1 : vp_in (l4 + 1) L) (b2 : vp_in (l4 + 2) L) : wp_law_c2 (hq A B S I J R) (A 0 0) (A 0 23) (A 0 24) xs L l4 (Iv (A 0 0) (A 0 23) (A 0 24)) := by
  have h := hv.1
  have hT := iv_t hv 0
  obtain ⟨n1, n2, n3, n4, n5, n6⟩ := hv.2.1.1
  obtain ⟨k1, k2, k3, k4, k5, k6, k7, k8⟩ := hv.2.1.2.1
  unfold wp_law_c2 wp_X11_stock wp_X12_stock wp_X9_hasStock wp_X12_isStock wp_X12_done
  generalize xs (l4 + 1).toNatClampNeg = a1
  generalize xs (l4 + 2).toNatClampNeg = a2
  simp only [fr_0 h, fr_1 h, fr_4 h, fr_6 h, fr_23 h, fm_6 h, hi_q h, hj_q h, si_q h, sj_q h, vv_5 h, vs_5 h, vv_7 h, vs_7 h, vv_8 h, vs_8 h, vv_9 h, vs_9 h, vv_11 h, vs_11 h, vv_17 h, vs_17 h, vv_18 h, vs_18 h, vj_3 h, vj_4 h, vj_5 h, ex_some, ex_def, all_def, true_and, and_true, Nat.reduceLT, b1, b2]
  rcases i32c a1 with z | ⟨s, hs, rfl⟩
  · simp [z, hT]
  rcases (Nat.lt_or_ge s 60).symm with hsn | hsn
  · simp [nI_pos hs, show (60 : Int32) ≤ nI s from nI_le hsn hs, hT]
  by_cases z1 : a2 < 0
  · simp [nI_pos hs, show ¬ (60 : Int32) ≤ nI s from nI_ge hsn (by decide), z1, hT]
  by_cases z2 : a2 ≤ 1000000
  case neg => simp [nI_pos hs, show ¬ (60 : Int32) ≤ nI s from nI_ge hsn (by decide), z1, z2, hT]
  have q1 : (0 : Int) ≤ a2.toInt := i_ge (k := 0) (by decide) z1
  have q2 : a2.toInt ≤ 1000000 := i_le (k := 1000000) (by decide) z2
  obtain ⟨f1, f2, f3⟩ := hv.2.1.2.2.2.2.2.2.2.2.2.2.2.2.1 s hsn
  obtain ⟨e1, e2, e3⟩ := st_add f2 f3 q1 q2
  simp only [nI_pos hs, show ¬ (60 : Int32) ≤ nI s from nI_ge hsn (by decide), z1, z2, f1, e1, vin hsn (by decide), show ¬ ((1 : Int32) = 0) by decide, nI_clamp hs, not_false_eq_true, true_implies, not_true_eq_false, false_implies, true_and, and_true, false_and, and_false, forall_const, imp_self, implies_true, if_true, if_false, eq_self, Bool.true_eq_false, Bool.false_eq_true, false_or, or_false, true_or, or_true]
  by_cases z3 : I 1 6 s + a2 ≤ 1000000000
  case neg => simp [z3, up3, hT]
  simp only [z3, not_false_eq_true, true_implies, not_true_eq_false, false_implies, true_and, and_true, false_and, and_false, forall_const, imp_self, implies_true, if_true, if_false, eq_self, Bool.true_eq_false, Bool.false_eq_true, false_or, or_false, true_or, or_true]
  refine p_emp hv (fun I' J' R' f g hs hp => ?_)
  obtain ⟨h0, h1, h2, h3, h4, h5, h6, h7, h8, h9, h10, h11, h12, h13⟩ := hs; obtain ⟨c1, c2, c3, c4, c5, c6, c7, c8⟩ := id h1
  have f1' : J' 0 6 s = (I 1 6 s).toInt64 := (f.2.1 0 6 s rfl).trans f1
  have f2' : I' 1 6 s = I 1 6 s := f.1 1 6 s rfl
  simp only [fr_0 h, fr_1 h, fr_6 h, fr_23 h, fm_6 h, hi_q h, hj_q h, si_q h, sj_q h, vv_5 h, vs_5 h, vv_7 h, vs_7 h, vv_8 h, vs_8 h, vv_9 h, vs_9 h, vv_11 h, vs_11 h, vv_17 h, vs_17 h, vv_18 h, vs_18 h, vj_3 h, vj_4 h, vj_5 h, ex_some, ex_def, all_def, true_and, and_true, Nat.reduceLT, vin hsn (by decide), nI_clamp hs]
  simp [up3, f1', f2', z3]
  refine ⟨A, B, S, nc, nw, nm, nj, cw, jc, _, _, _, rfl, rfl, rfl, rfl, h, ⟨h0, (vCnt_c (by repeat (first | exact Ag.rf | refine Ag.up ?_ rfl | refine Ag.ur ?_ (fun _ => rfl))) h1), (vCr_c (by repeat (first | exact Ag.rf | refine Ag.up ?_ rfl | refine Ag.ur ?_ (fun _ => rfl))) (by repeat (first | exact Ag.rf | refine Ag.up ?_ rfl | refine Ag.ur ?_ (fun _ => rfl))) h2), (vJo_c (by repeat (first | exact Ag.rf | refine Ag.up ?_ rfl | refine Ag.ur ?_ (fun _ => rfl))) (by repeat (first | exact Ag.rf | refine Ag.up ?_ rfl | refine Ag.ur ?_ (fun _ => rfl))) h3), (vOd_c (by repeat (first | exact Ag.rf | refine Ag.up ?_ rfl | refine Ag.ur ?_ (fun _ => rfl))) (by repeat (first | exact Ag.rf | refine Ag.up ?_ rfl | refine Ag.ur ?_ (fun _ => rfl))) h4), (vLs_c (by repeat (first | exact Ag.rf | refine Ag.up ?_ rfl | refine Ag.ur ?_ (fun _ => rfl))) (by repeat (first | exact Ag.rf | refine Ag.up ?_ rfl | refine Ag.ur ?_ (fun _ => rfl))) (fun _ => rfl) (fun _ => rfl) rfl h5), (vLn_c (by repeat (first | exact Ag.rf | refine Ag.up ?_ rfl | refine Ag.ur ?_ (fun _ => rfl))) (by repeat (first | exact Ag.rf | refine Ag.up ?_ rfl | refine Ag.ur ?_ (fun _ => rfl))) h6), (vNd_c (by repeat (first | exact Ag.rf | refine Ag.up ?_ rfl | refine Ag.ur ?_ (fun _ => rfl))) (by repeat (first | exact Ag.rf | refine Ag.up ?_ rfl | refine Ag.ur ?_ (fun _ => rfl))) h7), (vAm_c (by repeat (first | exact Ag.rf | refine Ag.up ?_ rfl | refine Ag.ur ?_ (fun _ => rfl))) h8), (vAm_c (by repeat (first | exact Ag.rf | refine Ag.up ?_ rfl | refine Ag.ur ?_ (fun _ => rfl))) h9), (vRc_c (by repeat (first | exact Ag.rf | refine Ag.up ?_ rfl | refine Ag.ur ?_ (fun _ => rfl))) h10), (vPl_c (by repeat (first | exact Ag.rf | refine Ag.up ?_ rfl | refine Ag.ur ?_ (fun _ => rfl))) h11), ?_, (vZr_c (by repeat (first | exact Ag.rf | refine Ag.up ?_ rfl | refine Ag.ur ?_ (fun _ => rfl))) h13)⟩, (Or.inl ⟨nRc_c (by repeat (first | exact Ag.rf | refine Ag.up ?_ rfl | refine Ag.ur ?_ (fun _ => rfl))) g, by simp [up3]⟩), (vPa_c (by repeat (first | exact Ag.rf | refine Ag.up ?_ rfl | refine Ag.ur ?_ (fun _ => rfl))) (by repeat (first | exact Ag.rf | refine Ag.up ?_ rfl | refine Ag.ur ?_ (fun _ => rfl))) hp)⟩
  intro s' hs'
  by_cases e : s' = s
  · subst e
    simp [up3, e2, e3]
    have := i_le (k := 1000000000) (by decide) z3
    omega
  · simp [up3, e]; exact h12 s' hs'
theorem amF_row {n : Nat} {f g row row' : Nat → Int32} {st : Nat → Nat} (e : ∀ s, s < 60 → row' s = row s) (h : amF n f g row st) : amF n f g row' st := by
  obtain ⟨a, b, c, d⟩ := h
  exact ⟨a, fun i hi => by rw [e _ (b i hi).1]; exact b i hi, c, fun s hs => by rw [e s hs]; exact d s hs⟩
theorem amF_fg {n : Nat} {f g f' g' row : Nat → Int32} {st : Nat → Nat} (e : ∀ i, i < n → f' i = f i ∧ g' i = g i) (h : amF n f g row st) : amF n f' g' row st := by
  obtain ⟨a, b, c, d⟩ := h
  exact ⟨a, fun i hi => by rw [(e i hi).1, (e i hi).2]; exact b i hi, c, d⟩
theorem am_q8 (h : Sh A B S nj nc) {j : Nat} (hj : j < nj) : isAm (hq A B S I J R) (A 8 j) (A 9 j) (A 10 j) :=
  ⟨(fj_8 h hj I J R).1, (fj_8 h hj I J R).2.1, (fj_8 h hj I J R).2.2, (fj_9 h hj I J R).1, (fj_10 h hj I J R).1, (fj_9 h hj I J R).2, (fj_10 h hj I J R).2, fun z => absurd (h.1.inj (by decide) (by decide) z).1 (by decide), fun z => absurd (h.1.inj (by decide) (by decide) z).1 (by decide), fun z => absurd (h.1.inj (by decide) (by decide) z).1 (by decide)⟩
theorem amR_q8 (h : Sh A B S nj nc) {j n : Nat} {row : Nat → Int32} {st : Nat → Nat} (e : I 8 j 2 = nI n) (ha : amF n (I 9 j) (I 10 j) row st) : amR (hq A B S I J R) (A 8 j) (A 9 j) (A 10 j) row n st := by
  obtain ⟨a, b, c, d⟩ := ha
  exact ⟨by rw [hi_q h (by decide)]; exact e, a, fun i hi => by rw [hi_q h (by decide), hi_q h (by decide)]; exact b i hi, c, d⟩
theorem law6 (hv : iv A B S nc nw nm nj cw jc I J R) (b1 : vp_in (l4 + 1) L) (b2 : vp_in (l4 + 2) L) (b3 : vp_in (l4 + 3) L) : wp_law_c6 (hq A B S I J R) (A 0 0) (A 0 23) (A 0 24) xs L l4 (Iv (A 0 0) (A 0 23) (A 0 24)) := by
  have h := hv.1
  have hT := iv_t hv 0
  obtain ⟨n1, n2, n3, n4, n5, n6⟩ := hv.2.1.1
  obtain ⟨k1, k2, k3, k4, k5, k6, k7, k8⟩ := hv.2.1.2.1
  unfold wp_law_c6 wp_X11_uses wp_X12_uses wp_X11_statusOfAmount wp_X9_hasStock wp_X9_hasJob wp_X12_isJob wp_X12_isStock wp_X12_done
  generalize xs (l4 + 1).toNatClampNeg = a1
  generalize xs (l4 + 2).toNatClampNeg = a2
  generalize xs (l4 + 3).toNatClampNeg = a3
  simp only [fr_0 h, fr_1 h, fr_4 h, fr_23 h, fm_13 h, hi_q h, hj_q h, si_q h, sj_q h, vv_5 h, vs_5 h, vv_7 h, vs_7 h, vv_8 h, vs_8 h, vv_9 h, vs_9 h, vv_11 h, vs_11 h, vv_17 h, vs_17 h, vv_18 h, vs_18 h, vj_3 h, vj_4 h, vj_5 h, ex_some, ex_def, all_def, true_and, and_true, Nat.reduceLT, b1, b2, b3, k4]
  rcases i32c a1 with z | ⟨j, hj, rfl⟩
  · simp [z, hT]
  rcases (Nat.lt_or_ge j nj).symm with hjn | hjn
  · simp [nI_pos hj, nI_le (show nj ≤ j by omega) hj, up3, k8, hT]
  rcases i32c a2 with z | ⟨s, hs, rfl⟩
  · simp [nI_pos hj, nI_ge hjn (by omega), up3, k8, z, hT]
  rcases (Nat.lt_or_ge s 60).symm with hsn | hsn
  · simp [nI_pos hj, nI_pos hs, nI_ge hjn (by omega), up3, k8, show (60 : Int32) ≤ nI s from nI_le hsn hs, hT]
  have s60 : ¬ (60 : Int32) ≤ nI s := nI_ge hsn (by decide)
  by_cases z1 : a3 < 1
  · simp [nI_pos hj, nI_pos hs, nI_ge hjn (by omega), up3, k8, s60, z1, hT]
  by_cases z2 : a3 ≤ 1000000
  case neg => simp [nI_pos hj, nI_pos hs, nI_ge hjn (by omega), up3, k8, s60, z1, z2, hT]
  have q1 : (1 : Int) ≤ a3.toInt := i_ge (k := 1) (by decide) z1
  have q2 : a3.toInt ≤ 1000000 := i_le (k := 1000000) (by decide) z2
  simp only [nI_pos hj, nI_pos hs, nI_ge hjn (by omega), s60, z1, z2, show ¬ ((1 : Int32) = 0) by decide, not_false_eq_true, true_implies, not_true_eq_false, false_implies, true_and, and_true, false_and, and_false, forall_const, imp_self, implies_true, if_true, if_false, eq_self, Bool.true_eq_false, Bool.false_eq_true, false_or, or_false, true_or, or_true]
  refine p_emp hv (fun I' J' R' f g hs' hp => ?_)
  have hs := hs'
  obtain ⟨h0, h1, h2, h3, h4, h5, h6, h7, h8, h9, h10, h11, h12, h13⟩ := hs; obtain ⟨c1, c2, c3, c4, c5, c6, c7, c8⟩ := id h1
  obtain ⟨⟨n, st, am1, am2⟩, am3⟩ := h8 j hjn
  simp only [fr_0 h, fr_1 h, fr_7 h, fr_23 h, fj_3 h hjn, fj_8 h hjn, hi_q h, hj_q h, si_q h, sj_q h, vv_5 h, vs_5 h, vv_7 h, vs_7 h, vv_8 h, vs_8 h, vv_9 h, vs_9 h, vv_11 h, vs_11 h, vv_17 h, vs_17 h, vv_18 h, vs_18 h, vj_3 h, vj_4 h, vj_5 h, ex_some, ex_def, all_def, true_and, and_true, Nat.reduceLT, vin (show j < 200 by omega) (by decide), nI_clamp hj, (h3 j hjn).1]
  refine p_put (am_q8 h hjn) (amR_q8 h am1 am2) hsn (fun z => by rw [z] at q1; exact absurd q1 (by decide)) (fun n' f' g' st' am => ?_)
  simp only [fr_23 h, fm_13 h, hi_q h, hj_q h, si_q h, sj_q h, vv_5 h, vs_5 h, vv_7 h, vs_7 h, vv_8 h, vs_8 h, vv_9 h, vs_9 h, vv_11 h, vs_11 h, vv_17 h, vs_17 h, vv_18 h, vs_18 h, vj_3 h, vj_4 h, vj_5 h, ex_some, ex_def, all_def, true_and, and_true, Nat.reduceLT, sWI_hq h.1 (show 9 < 20 by decide), sWI_hq h.1 (show 10 < 20 by decide), i60]
  simp [up3, upR, c8, nI_pos hj, nI_pos (show s < 2 ^ 31 by omega), nI_ge hjn (by omega), z1, z2, s60, vin (show 60 * j + s < 12000 by omega) (by decide), nI_clamp (show 60 * j + s < 2 ^ 31 by omega)]
  refine ⟨A, B, S, nc, nw, nm, nj, cw, jc, _, _, _, rfl, rfl, rfl, rfl, h, ⟨h0, (vCnt_c (by repeat (first | exact Ag.rf | refine Ag.up ?_ rfl | refine Ag.ur ?_ (fun _ => rfl))) h1), (vCr_c (by repeat (first | exact Ag.rf | refine Ag.up ?_ rfl | refine Ag.ur ?_ (fun _ => rfl))) (by repeat (first | exact Ag.rf | refine Ag.up ?_ rfl | refine Ag.ur ?_ (fun _ => rfl))) h2), (vJo_c (by repeat (first | exact Ag.rf | refine Ag.up ?_ rfl | refine Ag.ur ?_ (fun _ => rfl))) (by repeat (first | exact Ag.rf | refine Ag.up ?_ rfl | refine Ag.ur ?_ (fun _ => rfl))) h3), (vOd_c (by repeat (first | exact Ag.rf | refine Ag.up ?_ rfl | refine Ag.ur ?_ (fun _ => rfl))) (by repeat (first | exact Ag.rf | refine Ag.up ?_ rfl | refine Ag.ur ?_ (fun _ => rfl))) h4), (vLs_c (by repeat (first | exact Ag.rf | refine Ag.up ?_ rfl | refine Ag.ur ?_ (fun _ => rfl))) (by repeat (first | exact Ag.rf | refine Ag.up ?_ rfl | refine Ag.ur ?_ (fun _ => rfl))) (fun _ => rfl) (fun _ => rfl) rfl h5), (vLn_c (by repeat (first | exact Ag.rf | refine Ag.up ?_ rfl | refine Ag.ur ?_ (fun _ => rfl))) (by repeat (first | exact Ag.rf | refine Ag.up ?_ rfl | refine Ag.ur ?_ (fun _ => rfl))) h6), (vNd_c (by repeat (first | exact Ag.rf | refine Ag.up ?_ rfl | refine Ag.ur ?_ (fun _ => rfl))) (by repeat (first | exact Ag.rf | refine Ag.up ?_ rfl | refine Ag.ur ?_ (fun _ => rfl))) h7), ?_, (vAm_c (by repeat (first | exact Ag.rf | refine Ag.up ?_ rfl | refine Ag.ur ?_ (fun _ => rfl))) h9), (vRc_c (by repeat (first | exact Ag.rf | refine Ag.up ?_ rfl | refine Ag.ur ?_ (fun _ => rfl))) h10), (vPl_c (by repeat (first | exact Ag.rf | refine Ag.up ?_ rfl | refine Ag.ur ?_ (fun _ => rfl))) h11), (vFs_c (by repeat (first | exact Ag.rf | refine Ag.up ?_ rfl | refine Ag.ur ?_ (fun _ => rfl))) (by repeat (first | exact Ag.rf | refine Ag.up ?_ rfl | refine Ag.ur ?_ (fun _ => rfl))) h12), ?_⟩, (Or.inl ⟨nRc_c (by repeat (first | exact Ag.rf | refine Ag.up ?_ rfl | refine Ag.ur ?_ (fun _ => rfl))) g, by simp [up3]⟩), (vPa_c (by repeat (first | exact Ag.rf | refine Ag.up ?_ rfl | refine Ag.ur ?_ (fun _ => rfl))) (by repeat (first | exact Ag.rf | refine Ag.up ?_ rfl | refine Ag.ur ?_ (fun _ => rfl))) hp)⟩
  · intro j' hj'
    have e1 : ∀ s', s' < 60 → (60 * j' + s' = 60 * j + s ↔ j' = j ∧ s' = s) := fun s' hs' => by omega
    refine ⟨?_, fun s' hs' => ?_⟩
    · by_cases e : j' = j
      · subst e
        refine ⟨n', st', by simp [up3, upR], ?_⟩
        refine amF_row (row := fun t => if t = s then a3 else I' 1 13 (60 * j' + t)) (fun s' hs' => ?_) (amF_fg (fun i hi => ?_) am)
        · simp [up3, upR]
        · simp [up3, upR]
      · obtain ⟨⟨n2, st2, am4, am5⟩, -⟩ := h8 j' hj'
        refine ⟨n2, st2, by simp [up3, upR, e]; exact am4, ?_⟩
        refine amF_row (fun s' hs' => ?_) (amF_fg (fun i hi => ?_) am5)
        · simp [up3, upR]
          omega
        · simp [up3, upR, e]
    · obtain ⟨-, am6⟩ := h8 j' hj'
      by_cases e : 60 * j' + s' = 60 * j + s
      · simp [up3, upR, e]; omega
      · simp [up3, upR, e]; exact am6 s' hs'
  · obtain ⟨y1, y2, y3, y4⟩ := h13
    refine ⟨fun j' b' a b d => by simp [up3, upR]; exact y1 j' b' a b d, fun j' m' a b d => by simp [up3, upR]; exact y2 j' m' a b d, fun j' s' a b d => ?_, fun j' a b => by simp [up3, upR]; exact y4 j' a b⟩
    have e3 : ¬ (60 * j' + s' = 60 * j + s) := by omega
    simp [up3, upR, e3]; exact y3 j' s' a b d
theorem am_q11 (h : Sh A B S nj nc) {j : Nat} (hj : j < nj) : isAm (hq A B S I J R) (A 11 j) (A 12 j) (A 13 j) :=
  ⟨(fj_11 h hj I J R).1, (fj_11 h hj I J R).2.1, (fj_11 h hj I J R).2.2, (fj_12 h hj I J R).1, (fj_13 h hj I J R).1, (fj_12 h hj I J R).2, (fj_13 h hj I J R).2, fun z => absurd (h.1.inj (by decide) (by decide) z).1 (by decide), fun z => absurd (h.1.inj (by decide) (by decide) z).1 (by decide), fun z => absurd (h.1.inj (by decide) (by decide) z).1 (by decide)⟩
theorem amR_q11 (h : Sh A B S nj nc) {j n : Nat} {row : Nat → Int32} {st : Nat → Nat} (e : I 11 j 2 = nI n) (ha : amF n (I 12 j) (I 13 j) row st) : amR (hq A B S I J R) (A 11 j) (A 12 j) (A 13 j) row n st := by
  obtain ⟨a, b, c, d⟩ := ha
  exact ⟨by rw [hi_q h (by decide)]; exact e, a, fun i hi => by rw [hi_q h (by decide), hi_q h (by decide)]; exact b i hi, c, d⟩
theorem law7 (hv : iv A B S nc nw nm nj cw jc I J R) (b1 : vp_in (l4 + 1) L) (b2 : vp_in (l4 + 2) L) (b3 : vp_in (l4 + 3) L) : wp_law_c7 (hq A B S I J R) (A 0 0) (A 0 23) (A 0 24) xs L l4 (Iv (A 0 0) (A 0 23) (A 0 24)) := by
  have h := hv.1
  have hT := iv_t hv 0
  obtain ⟨n1, n2, n3, n4, n5, n6⟩ := hv.2.1.1
  obtain ⟨k1, k2, k3, k4, k5, k6, k7, k8⟩ := hv.2.1.2.1
  unfold wp_law_c7 wp_X11_gives wp_X12_gives wp_X11_statusOfAmount wp_X9_hasStock wp_X9_hasJob wp_X12_isJob wp_X12_isStock wp_X12_done
  generalize xs (l4 + 1).toNatClampNeg = a1
  generalize xs (l4 + 2).toNatClampNeg = a2
  generalize xs (l4 + 3).toNatClampNeg = a3
  simp only [fr_0 h, fr_1 h, fr_4 h, fr_23 h, fm_14 h, hi_q h, hj_q h, si_q h, sj_q h, vv_5 h, vs_5 h, vv_7 h, vs_7 h, vv_8 h, vs_8 h, vv_9 h, vs_9 h, vv_11 h, vs_11 h, vv_17 h, vs_17 h, vv_18 h, vs_18 h, vj_3 h, vj_4 h, vj_5 h, ex_some, ex_def, all_def, true_and, and_true, Nat.reduceLT, b1, b2, b3, k4]
  rcases i32c a1 with z | ⟨j, hj, rfl⟩
  · simp [z, hT]
  rcases (Nat.lt_or_ge j nj).symm with hjn | hjn
  · simp [nI_pos hj, nI_le (show nj ≤ j by omega) hj, up3, k8, hT]
  rcases i32c a2 with z | ⟨s, hs, rfl⟩
  · simp [nI_pos hj, nI_ge hjn (by omega), up3, k8, z, hT]
  rcases (Nat.lt_or_ge s 60).symm with hsn | hsn
  · simp [nI_pos hj, nI_pos hs, nI_ge hjn (by omega), up3, k8, show (60 : Int32) ≤ nI s from nI_le hsn hs, hT]
  have s60 : ¬ (60 : Int32) ≤ nI s := nI_ge hsn (by decide)
  by_cases z1 : a3 < 1
  · simp [nI_pos hj, nI_pos hs, nI_ge hjn (by omega), up3, k8, s60, z1, hT]
  by_cases z2 : a3 ≤ 1000000
  case neg => simp [nI_pos hj, nI_pos hs, nI_ge hjn (by omega), up3, k8, s60, z1, z2, hT]
  have q1 : (1 : Int) ≤ a3.toInt := i_ge (k := 1) (by decide) z1
  have q2 : a3.toInt ≤ 1000000 := i_le (k := 1000000) (by decide) z2
  simp only [nI_pos hj, nI_pos hs, nI_ge hjn (by omega), s60, z1, z2, show ¬ ((1 : Int32) = 0) by decide, not_false_eq_true, true_implies, not_true_eq_false, false_implies, true_and, and_true, false_and, and_false, forall_const, imp_self, implies_true, if_true, if_false, eq_self, Bool.true_eq_false, Bool.false_eq_true, false_or, or_false, true_or, or_true]
  refine p_emp hv (fun I' J' R' f g hs' hp => ?_)
  have hs := hs'
  obtain ⟨h0, h1, h2, h3, h4, h5, h6, h7, h8, h9, h10, h11, h12, h13⟩ := hs; obtain ⟨c1, c2, c3, c4, c5, c6, c7, c8⟩ := id h1
  obtain ⟨⟨n, st, am1, am2⟩, am3⟩ := h9 j hjn
  simp only [fr_0 h, fr_1 h, fr_7 h, fr_23 h, fj_3 h hjn, fj_11 h hjn, hi_q h, hj_q h, si_q h, sj_q h, vv_5 h, vs_5 h, vv_7 h, vs_7 h, vv_8 h, vs_8 h, vv_9 h, vs_9 h, vv_11 h, vs_11 h, vv_17 h, vs_17 h, vv_18 h, vs_18 h, vj_3 h, vj_4 h, vj_5 h, ex_some, ex_def, all_def, true_and, and_true, Nat.reduceLT, vin (show j < 200 by omega) (by decide), nI_clamp hj, (h3 j hjn).1]
  refine p_put (am_q11 h hjn) (amR_q11 h am1 am2) hsn (fun z => by rw [z] at q1; exact absurd q1 (by decide)) (fun n' f' g' st' am => ?_)
  simp only [fr_23 h, fm_14 h, hi_q h, hj_q h, si_q h, sj_q h, vv_5 h, vs_5 h, vv_7 h, vs_7 h, vv_8 h, vs_8 h, vv_9 h, vs_9 h, vv_11 h, vs_11 h, vv_17 h, vs_17 h, vv_18 h, vs_18 h, vj_3 h, vj_4 h, vj_5 h, ex_some, ex_def, all_def, true_and, and_true, Nat.reduceLT, sWI_hq h.1 (show 12 < 20 by decide), sWI_hq h.1 (show 13 < 20 by decide), i60]
  simp [up3, upR, c8, nI_pos hj, nI_pos (show s < 2 ^ 31 by omega), nI_ge hjn (by omega), z1, z2, s60, vin (show 60 * j + s < 12000 by omega) (by decide), nI_clamp (show 60 * j + s < 2 ^ 31 by omega)]
  refine ⟨A, B, S, nc, nw, nm, nj, cw, jc, _, _, _, rfl, rfl, rfl, rfl, h, ⟨h0, (vCnt_c (by repeat (first | exact Ag.rf | refine Ag.up ?_ rfl | refine Ag.ur ?_ (fun _ => rfl))) h1), (vCr_c (by repeat (first | exact Ag.rf | refine Ag.up ?_ rfl | refine Ag.ur ?_ (fun _ => rfl))) (by repeat (first | exact Ag.rf | refine Ag.up ?_ rfl | refine Ag.ur ?_ (fun _ => rfl))) h2), (vJo_c (by repeat (first | exact Ag.rf | refine Ag.up ?_ rfl | refine Ag.ur ?_ (fun _ => rfl))) (by repeat (first | exact Ag.rf | refine Ag.up ?_ rfl | refine Ag.ur ?_ (fun _ => rfl))) h3), (vOd_c (by repeat (first | exact Ag.rf | refine Ag.up ?_ rfl | refine Ag.ur ?_ (fun _ => rfl))) (by repeat (first | exact Ag.rf | refine Ag.up ?_ rfl | refine Ag.ur ?_ (fun _ => rfl))) h4), (vLs_c (by repeat (first | exact Ag.rf | refine Ag.up ?_ rfl | refine Ag.ur ?_ (fun _ => rfl))) (by repeat (first | exact Ag.rf | refine Ag.up ?_ rfl | refine Ag.ur ?_ (fun _ => rfl))) (fun _ => rfl) (fun _ => rfl) rfl h5), (vLn_c (by repeat (first | exact Ag.rf | refine Ag.up ?_ rfl | refine Ag.ur ?_ (fun _ => rfl))) (by repeat (first | exact Ag.rf | refine Ag.up ?_ rfl | refine Ag.ur ?_ (fun _ => rfl))) h6), (vNd_c (by repeat (first | exact Ag.rf | refine Ag.up ?_ rfl | refine Ag.ur ?_ (fun _ => rfl))) (by repeat (first | exact Ag.rf | refine Ag.up ?_ rfl | refine Ag.ur ?_ (fun _ => rfl))) h7), (vAm_c (by repeat (first | exact Ag.rf | refine Ag.up ?_ rfl | refine Ag.ur ?_ (fun _ => rfl))) h8), ?_, (vRc_c (by repeat (first | exact Ag.rf | refine Ag.up ?_ rfl | refine Ag.ur ?_ (fun _ => rfl))) h10), (vPl_c (by repeat (first | exact Ag.rf | refine Ag.up ?_ rfl | refine Ag.ur ?_ (fun _ => rfl))) h11), (vFs_c (by repeat (first | exact Ag.rf | refine Ag.up ?_ rfl | refine Ag.ur ?_ (fun _ => rfl))) (by repeat (first | exact Ag.rf | refine Ag.up ?_ rfl | refine Ag.ur ?_ (fun _ => rfl))) h12), ?_⟩, (Or.inl ⟨nRc_c (by repeat (first | exact Ag.rf | refine Ag.up ?_ rfl | refine Ag.ur ?_ (fun _ => rfl))) g, by simp [up3]⟩), (vPa_c (by repeat (first | exact Ag.rf | refine Ag.up ?_ rfl | refine Ag.ur ?_ (fun _ => rfl))) (by repeat (first | exact Ag.rf | refine Ag.up ?_ rfl | refine Ag.ur ?_ (fun _ => rfl))) hp)⟩
  · intro j' hj'
    have e1 : ∀ s', s' < 60 → (60 * j' + s' = 60 * j + s ↔ j' = j ∧ s' = s) := fun s' hs' => by omega
    refine ⟨?_, fun s' hs' => ?_⟩
    · by_cases e : j' = j
      · subst e
        refine ⟨n', st', by simp [up3, upR], ?_⟩
        refine amF_row (row := fun t => if t = s then a3 else I' 1 14 (60 * j' + t)) (fun s' hs' => ?_) (amF_fg (fun i hi => ?_) am)
        · simp [up3, upR]
        · simp [up3, upR]
      · obtain ⟨⟨n2, st2, am4, am5⟩, -⟩ := h9 j' hj'
        refine ⟨n2, st2, by simp [up3, upR, e]; exact am4, ?_⟩
        refine amF_row (fun s' hs' => ?_) (amF_fg (fun i hi => ?_) am5)
        · simp [up3, upR]
          omega
        · simp [up3, upR, e]
    · obtain ⟨-, am6⟩ := h9 j' hj'
      by_cases e : 60 * j' + s' = 60 * j + s
      · simp [up3, upR, e]; omega
      · simp [up3, upR, e]; exact am6 s' hs'
  · obtain ⟨y1, y2, y3, y4⟩ := h13
    refine ⟨fun j' b' a b d => by simp [up3, upR]; exact y1 j' b' a b d, fun j' m' a b d => by simp [up3, upR]; exact y2 j' m' a b d, fun j' s' a b d => ?_, fun j' a b => by simp [up3, upR]; exact y4 j' a b⟩
    have e3 : ¬ (60 * j' + s' = 60 * j + s) := by omega
    simp [up3, upR, e3]; exact y3 j' s' a b d
end MV
