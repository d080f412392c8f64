section ML
variable {A : Nat → Nat → Nat} {B : Nat → Nat × Nat} {S : Hp} {nc nw nm nj : Nat} {cw jc : Nat → Nat} {I : FI} {J : FJ} {R : FR} {xs : Nat → Int32} {L : Nat} {l4 : Int32}
variable {E K : FI} {L' : FJ} {od : Nat → Nat} {s : Rs} {j x : Nat} {Q : Hp → Prop}
theorem mx.fk0 (hm : mx A B S nc nw nm nj cw jc od E K L' I J R) (hj : j < nj) : fkE E j ≤ 0 ↔ fkE E j = 0 := by
  unfold fkE
  by_cases z : 0 < E 1 20 j
  · rw [if_pos z]
    have := hm.st.2.2.2.2.2.2.2.2.2.2.2.1 j hj
    rw [hm.e (k := 20) (by decide), hm.e (k := 21) (by decide)] at this
    have := (this.2.2.2 z).2
    constructor
    · intro q
      rw [Int32.le_iff_toInt_le] at q
      have : (0 : Int32).toInt = 0 := rfl
      omega
    · intro q; rw [q]; decide
  · rw [if_neg z]; exact bF_nn _ _ _ _ _
theorem fre1_of {I1 : FI} {w : Nat} (g0 : ∀ c i p, ¬ (c = 1 ∧ (i = 28 ∨ i = 32 ∨ i = 33)) → I1 c i p = I c i p) (g28 : ∀ i, I1 1 28 i = if i = j then I 0 23 24 else I 1 28 i) (g32 : ∀ i, I1 1 32 i = if i = w then -1 else I 1 32 i) (g33 : ∀ m, m < 40 → I1 1 33 m = if E 1 12 (40 * j + m) = 1 then -1 else I 1 33 m) : fre1 E j w I I1 J J := ⟨fun p => g0 1 26 p (by omega), fun p => g0 1 27 p (by omega), g28, fun p => g0 1 29 p (by omega), fun p => g0 1 30 p (by omega), fun p => g0 1 31 p (by omega), g32, g33, fun p => g0 1 34 p (by omega), fun p => g0 1 36 p (by omega), fun p => g0 1 37 p (by omega), fun p => g0 1 38 p (by omega), g0 0 23 24 (by omega), g0 0 23 25 (by omega), g0 0 23 39 (by omega), fun _ => rfl⟩
theorem p_endm (hm : mx A B S nc nw nm nj cw jc od E K L' I J R) (hw : wf E nj nw cw jc s) (hr : rR E nj s I J) (hj : j < nj) (h6 : oS s j = 6) (hQ : ∀ I' J', mx A B S nc nw nm nj cw jc od E K L' I' J' R → rR E nj (mv s j (endV E j)) I' J' → Q (hq A B S I' J' R)) : wp_X12_ends (hq A B S I J R) (A 0 23) (nI j) Q := by
  have h := hm.1
  have n4 := hm.n.2.2.2
  have n2 := hm.n.2.1
  have w3 := (hw.2.1 j hj h6).2.2
  have ew : I 1 29 j = nI (oW s j) := by rw [(hr.1 j hj).2.2.2.1]; unfold wkI; rw [h6, if_pos (show bgn 6 = true from rfl)]
  unfold wp_X12_ends
  refine ⟨fr_23 h _ _ _, p_frem hm hj ew (by omega) (fun I1 m1 g0 g28 g32 g33 => ?_)⟩
  have f : fre1 E j (oW s j) I I1 J J := fre1_of g0 g28 g32 g33
  simp only [fr_23 h, fm_20 h, fm_21 h, fm_26 h, fm_31 h, hi_q h, hj_q h, si_q h, sj_q h, vv_5 h, vs_5 h, vv_7 h, vs_7 h, vv_8 h, vs_8 h, vv_9 h, vs_9 h, vv_11 h, vs_11 h, vv_17 h, vs_17 h, vv_18 h, vs_18 h, vj_3 h, vj_4 h, vj_5 h, ex_some, ex_def, all_def, true_and, and_true, Nat.reduceLT, exists_eq_left, Option.some.injEq, exists_eq_left', nI_clamp (show j < 2 ^ 31 by omega), vin (show j < 200 by omega) (show 200 < 2 ^ 31 by decide), m1.e (show 20 < 26 by decide), m1.e (show 21 < 26 by decide), up3_same]
  refine ⟨fun z => ?_, fun z => ?_⟩
  · obtain ⟨⟨n, n30, e4, e19, ex⟩, e0, e1, e2, ek⟩ := m1.st.2.2.2.2.2.2.2.2.2.2.1 j hj
    refine p_body h (by omega) n30 e19 ek (fun v g f' u _ _ => ?_)
    have en : (if E 1 19 j = -1 then 0 else (E 1 19 j).toNatClampNeg) = n := by
      rw [m1.e (by decide)] at e19
      rw [e19]
      by_cases z : n = 0
      · rw [if_pos z, if_pos rfl, z]
      · rw [if_neg z, if_neg (nI_nm1 (by omega)), nI_clamp (by omega)]
    have efk : bFault (I1 1 15 j) (I1 1 16 j) (I1 1 17 j) n (fun i => I1 1 18 (30 * j + i)) = fkE E j := by
      unfold fkE
      rw [if_neg (i_nlt.mpr z), en, m1.e (by decide), m1.e (by decide), m1.e (by decide)]
      simp only [m1.e (show 18 < 26 by decide)]
    rw [efk]
    have m2 : mx A B S nc nw nm nj cw jc od E K L' (bI I1 v g) (bJ J f' u) R := ⟨m1.1, m1.2.1, m1.2.2.1, Ag_bI m1.2.2.2.1 rfl (fun _ => rfl), Ag_bJ m1.2.2.2.2.1 (fun _ => rfl) (fun _ => rfl), m1.2.2.2.2.2⟩
    have f2 : fre1 E j (oW s j) I (bI I1 v g) J (bJ J f' u) := f
    have key := p_end2 (Q := Q) m2 hw hr hj h6 (hm.fk0 hj) f2 hQ
    simp only [fr_23 h, fm_26 h, fm_31 h, hi_q h, hj_q h, si_q h, sj_q h, vv_5 h, vs_5 h, vv_7 h, vs_7 h, vv_8 h, vs_8 h, vv_9 h, vs_9 h, vv_11 h, vs_11 h, vv_17 h, vs_17 h, vv_18 h, vs_18 h, vj_3 h, vj_4 h, vj_5 h, ex_some, ex_def, all_def, true_and, and_true, Nat.reduceLT, exists_eq_left, Option.some.injEq, exists_eq_left', nI_clamp (show j < 2 ^ 31 by omega), vin (show j < 200 by omega) (show 200 < 2 ^ 31 by decide), up3_same]
    exact key
  · have efk : E 1 21 j = fkE E j := by unfold fkE; rw [if_pos (i_nle.mp z)]
    rw [efk]
    exact p_end2 (Q := Q) m1 hw hr hj h6 (hm.fk0 hj) f hQ
theorem p_intm (hm : mx A B S nc nw nm nj cw jc od E K L' I J R) (hw : wf E nj nw cw jc s) (hr : rR E nj s I J) (hj : j < nj) (h6 : oS s j = 6) (hQ : ∀ I' J', mx A B S nc nw nm nj cw jc od E K L' I' J' R → rR E nj (mv s j 4) I' J' → Q (hq A B S I' J' R)) : wp_X12_interrupts (hq A B S I J R) (A 0 23) (nI j) Q := by
  have h := hm.1
  have n4 := hm.n.2.2.2
  have n2 := hm.n.2.1
  have w3 := (hw.2.1 j hj h6).2.2
  have ew : I 1 29 j = nI (oW s j) := by rw [(hr.1 j hj).2.2.2.1]; unfold wkI; rw [h6, if_pos (show bgn 6 = true from rfl)]
  unfold wp_X12_interrupts
  refine ⟨fr_23 h _ _ _, p_frem hm hj ew (by omega) (fun I1 m1 g0 g28 g32 g33 => ?_)⟩
  have f : fre1 E j (oW s j) I I1 J J := fre1_of g0 g28 g32 g33
  have mu : mx A B S nc nw nm nj cw jc od E K L' (up3 I1 1 26 j 4) J R := m1.up rfl
  have b1 : oB s j ≤ oM s := hw.2.2.2.2.1 j hj (by rw [h6]; rfl)
  have mM : oM s ≤ 1000000 := hw.2.2.2.2.2.2
  have e27 : I1 1 27 j = nI (oB s j) := by rw [f.2.1, (hr.1 j hj).2.1]; unfold bgI; rw [h6, if_pos (show bgn 6 = true from rfl)]
  have e28 : I1 1 28 j = nI (oM s) := by rw [f.2.2.1, if_pos rfl]; exact hr.2.2.2.2.2.2.1
  have efa : nI (oM s) - nI (oB s j) = faI (mv s j 4) j := by unfold faI; rw [mv_s, mv_e, if_pos (show edd 4 = true from rfl)]; rfl
  have ef : farM (up3 I1 1 26 j 4) j = faI (mv s j 4) j := by
    rw [farM_of (a := oM s) (b := oB s j) (I1 := up3 I1 1 26 j 4) (by rw [up3_off (by omega)]; exact e27) (by rw [up3_off (by omega)]; exact e28) (by omega) (by omega), efa]
  have ef2 : ∀ v : Int32, farM (up3 (up3 I1 1 26 j 4) 1 30 j v) j = faI (mv s j 4) j := fun v => by
    rw [farM_of (a := oM s) (b := oB s j) (I1 := up3 (up3 I1 1 26 j 4) 1 30 j v) (by rw [up3_off (by omega), up3_off (by omega)]; exact e27) (by rw [up3_off (by omega), up3_off (by omega)]; exact e28) (by omega) (by omega), efa]
  have z31 : I1 1 31 j = 0 := by rw [f.2.2.2.2.2.1, (hr.1 j hj).2.2.2.2.2]; unfold fkI; rw [h6, if_neg (by decide)]
  have e31 : up3 I1 1 31 j 0 = I1 := (congrArg (fun v => up3 I1 1 31 j v) z31.symm).trans (up3_se 1 31 j)
  have go : ∀ v : Int32, v = noI E (mv s j 4) j → wp_X12_restBack (hq A B S (up3 (up3 I1 1 26 j 4) 1 30 j v) J R) (A 0 23) (nI j) (fun S32 => hK S32 (A 0 23) = 14 ∧ wp_X12_tells S32 (A 0 23) (nI j) 4 (fun S34 => Q S34)) := fun v hv => by
    refine p_resm (mu.up rfl) hj (fun g hg => ⟨fr_23 h _ _ _, ?_⟩)
    have key := p_fin3 (x := 4) (I1 := I1) (J1 := J) (J2 := upR J 1 35 g) (v30 := v) (v31 := 0) (Q := Q) (by have := (mu.up (c := 1) (i := 30) (p := j) (v := v) rfl).Ju (i := 35) (f := g); rw [e31]; exact this) hw hr hj h6 (Or.inr (Or.inr rfl)) f ?_ hv (fun y hy60 => ?_) (fun I' m' r' => hQ I' _ m' r')
    · rw [e31] at key; exact key
    · unfold fkI; rw [mv_s, if_neg (by decide)]
    · have e1 : upR J 1 35 g 1 35 = g := funext fun p => by simp [upR]
      rw [e1, hg y hy60, ef2, hr.2.2.2.2.1 y hy60, lft_mv hj]
      have d1 : dlt E s y j = - (E 1 13 (60 * j + y)).toInt64 := by unfold dlt; rw [if_pos h6]
      have d2 : dlt E (mv s j 4) y j = rst E (mv s j 4) y j - (E 1 13 (60 * j + y)).toInt64 := by unfold dlt; rw [mv_s]; simp
      rw [d1, d2]; unfold rst; grind
  have no : noI E (mv s j 4) j = if 0 < E 1 15 j ∧ faI (mv s j 4) j < E 1 8 j / 2 then 2 else 1 := by unfold noI; rw [mv_s, if_pos rfl]
  simp only [fr_23 h, fm_15 h, fm_26 h, fm_30 h, hi_q h, hj_q h, si_q h, sj_q h, vv_5 h, vs_5 h, vv_7 h, vs_7 h, vv_8 h, vs_8 h, vv_9 h, vs_9 h, vv_11 h, vs_11 h, vv_17 h, vs_17 h, vv_18 h, vs_18 h, vj_3 h, vj_4 h, vj_5 h, ex_some, ex_def, all_def, true_and, and_true, Nat.reduceLT, exists_eq_left, Option.some.injEq, exists_eq_left', nI_clamp (show j < 2 ^ 31 by omega), vin (show j < 200 by omega) (show 200 < 2 ^ 31 by decide), mu.e (show 15 < 26 by decide)]
  refine ⟨fun z => go 1 (by rw [no, if_neg (fun q => absurd z (i_nle.mpr q.1))]), fun z => p_far h (by omega) ?_⟩
  simp only [fr_23 h, fm_8 h, fm_30 h, hi_q h, hj_q h, si_q h, sj_q h, vv_5 h, vs_5 h, vv_7 h, vs_7 h, vv_8 h, vs_8 h, vv_9 h, vs_9 h, vv_11 h, vs_11 h, vv_17 h, vs_17 h, vv_18 h, vs_18 h, vj_3 h, vj_4 h, vj_5 h, ex_some, ex_def, all_def, true_and, and_true, Nat.reduceLT, exists_eq_left, Option.some.injEq, exists_eq_left', nI_clamp (show j < 2 ^ 31 by omega), vin (show j < 200 by omega) (show 200 < 2 ^ 31 by decide), mu.e (show 8 < 26 by decide), ef]
  exact ⟨fun q => go 1 (by rw [no, if_neg (fun w => absurd q (i_nle.mpr w.2))]), fun q => go 2 (by rw [no, if_pos ⟨i_nle.mp z, i_nle.mp q⟩])⟩
end ML
