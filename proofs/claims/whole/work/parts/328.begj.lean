section BJ
variable {A : Nat → Nat → Nat} {B : Nat → Nat × Nat} {S : Hp} {nc nw nm nj : Nat} {cw jc : Nat → Nat} {I : FI} {J : FJ} {R : FR} {xs : Nat → Int32} {L : Nat} {l4 : Int32}
variable {E : FI} {J0 : FJ} {R0 : FR} {od : Nat → Nat} {s : Rs} {j x : Nat}
theorem p_b77 {Q : Hp → Prop} (hr : rx A B S nc nw nm nj cw jc od E J0 R0 I J R) (hj : j < nj) (hQ : ∀ f, (∀ y, y < 60 → f y = J 0 14 y - (E 1 13 (60 * j + y)).toInt64) → wp_X3_put (hq A B S I (upR J 0 14 f) R) (A 0 21) (I 0 4 10) 5 (nI j) Q) : wp_X8_begin_L77 (A 0 4) (A 3 j) (some (A 8 j)) Q FU (hq A B S I J R) 0 := by
  have h := hr.1
  obtain ⟨⟨n, st, e2, hF⟩, -⟩ := hr.st.2.2.2.2.2.2.2.2.1 j hj
  obtain ⟨f1, f2, f3, f4⟩ := hF
  have eE : ∀ y, I 1 13 (60 * j + y) = E 1 13 (60 * j + y) := fun y => hr.i rfl
  have u2 := (hr.jo hj).2.1
  have key : ∀ (r k fu : Nat) (f : Nat → Int64), k + r = n → r < fu → (∀ y, y < 60 → f y = J 0 14 y - (if ∃ i, i < k ∧ st i = y then (I 1 13 (60 * j + y)).toInt64 else 0)) → wp_X8_begin_L77 (A 0 4) (A 3 j) (some (A 8 j)) Q fu (hq A B S I (upR J 0 14 f) R) (nI k) := by
    intro r
    induction r with
    | zero =>
      intro k fu f hk hf hy
      obtain ⟨fu, rfl⟩ : ∃ z, fu = z + 1 := ⟨fu - 1, by omega⟩
      have hkn : k = n := by omega
      subst hkn
      rw [wp_X8_begin_L77]
      simp only [fj_8 h hj, fj_3 h hj, fr_4 h, fr_21 h, hi_q h, hj_q h, si_q h, sj_q h, vv_5 h, vs_5 h, vv_7 h, vs_7 h, vv_8 h, vs_8 h, vv_9 h, vs_9 h, vv_11 h, vs_11 h, vv_17 h, vs_17 h, vv_18 h, vs_18 h, vj_3 h, vj_4 h, vj_5 h, ex_some, ex_def, all_def, true_and, and_true, Nat.reduceLT, exists_eq_left, Option.some.injEq, exists_eq_left', e2, u2]
      refine ⟨fun _ => hQ f (fun y hy60 => ?_), fun z => absurd (Int32.le_refl _) z⟩
      rw [hy y hy60, eE]
      by_cases e : ∃ i, i < k ∧ st i = y
      · rw [if_pos e]
      · rw [if_neg e]
        have : I 1 13 (60 * j + y) = 0 := by
          by_cases z : I 1 13 (60 * j + y) = 0
          · exact z
          · exact absurd (f4 y hy60 z) e
        rw [eE] at this; rw [this]; rfl
    | succ r ih =>
      intro k fu f hk hf hy
      obtain ⟨fu, rfl⟩ : ∃ z, fu = z + 1 := ⟨fu - 1, by omega⟩
      have hkn : k < n := by omega
      obtain ⟨g1, g2, g3, g4⟩ := f2 k hkn
      have g2 : I 9 j k = nI (st k) := g2
      have e0 : ¬ nI n ≤ nI k := by rw [nI_leI (by omega) (by omega)]; omega
      rw [wp_X8_begin_L77]
      simp only [fj_8 h hj, fj_9 h hj, fj_10 h hj, fr_4 h, fr_14 h, hi_q h, hj_q h, si_q h, sj_q h, vv_5 h, vs_5 h, vv_7 h, vs_7 h, vv_8 h, vs_8 h, vv_9 h, vs_9 h, vv_11 h, vs_11 h, vv_17 h, vs_17 h, vv_18 h, vs_18 h, vj_3 h, vj_4 h, vj_5 h, ex_some, ex_def, all_def, true_and, and_true, Nat.reduceLT, exists_eq_left, Option.some.injEq, exists_eq_left', e2, e0, not_false_eq_true, true_implies, not_true_eq_false, false_implies, true_and, and_true, false_and, and_false, forall_const, imp_self, implies_true, if_true, if_false, eq_self, Bool.true_eq_false, Bool.false_eq_true, false_or, or_false, true_or, or_true, nI_clamp (show k < 2 ^ 31 by omega), vin (show k < 60 by omega) (show 60 < 2 ^ 31 by decide), g2, nI_clamp (show st k < 2 ^ 31 by omega), vin g1 (show 60 < 2 ^ 31 by decide), ← nI_succ]
      have g3' : I 10 j k = I 1 13 (60 * j + st k) := g3
      have eq : up3 (upR J 0 14 f) 0 14 (st k) (upR J 0 14 f 0 14 (st k) - (I 10 j k).toInt64) = upR J 0 14 (fun y => if y = st k then f y - (I 1 13 (60 * j + st k)).toInt64 else f y) := by
        funext c i p
        unfold up3 upR
        by_cases e : c = 0 ∧ i = 14
        · obtain ⟨rfl, rfl⟩ := e
          by_cases e2 : p = st k
          · simp [e2, g3']
          · simp [e2]
        · have : ¬ (c = 0 ∧ i = 14 ∧ p = st k) := fun z => e ⟨z.1, z.2.1⟩
          simp [e, this]
      rw [eq]
      refine ih (k + 1) fu _ (by omega) (by omega) (fun y hy60 => ?_)
      by_cases e : y = st k
      · subst e
        have z1 : ∃ i, i < k + 1 ∧ st i = st k := ⟨k, by omega, rfl⟩
        have z2 : ¬ ∃ i, i < k ∧ st i = st k := fun ⟨i, hi, z⟩ => by have := f3 i k (by omega) hkn z; omega
        have := hy (st k) hy60
        simp only [z2, if_false] at this
        simp only [z1, if_true, this]; grind
      · have z : (∃ i, i < k + 1 ∧ st i = y) ↔ ∃ i, i < k ∧ st i = y := ⟨fun ⟨i, hi, q⟩ => ⟨i, by
          have : i ≠ k := fun w => e (by rw [← q, w])
          omega, q⟩, fun ⟨i, hi, q⟩ => ⟨i, by omega, q⟩⟩
        simp only [e, if_false, z]; exact hy y hy60
  have := key n 0 FU (fun y => J 0 14 y) (by omega) (by unfold FU; omega) (fun y hy => by simp)
  rw [show upR J 0 14 (fun y => J 0 14 y) = J from by funext c i p; unfold upR; by_cases e : c = 0 ∧ i = 14 <;> simp [e]] at this
  exact this
theorem bgI_bo {i w : Nat} (h : ¬ i = j) : bgI (beg E s j w) i = bgI s i := by unfold bgI; rw [bg_o h, bg_bo h]
theorem emI_bo {i w : Nat} (h : ¬ i = j) : emI (beg E s j w) i = emI s i := by unfold emI; rw [bg_o h]; rfl
theorem wkI_bo {i w : Nat} (h : ¬ i = j) : wkI (beg E s j w) i = wkI s i := by unfold wkI; rw [bg_o h, bg_wo h]
theorem faI_bo {i w : Nat} (h : ¬ i = j) : faI (beg E s j w) i = faI s i := by unfold faI; rw [bg_o h, bg_bo h]; rfl
theorem noI_bo {i w : Nat} (h : ¬ i = j) : noI E (beg E s j w) i = noI E s i := by unfold noI; rw [bg_o h, faI_bo h]
theorem fkI_bo {i w : Nat} (h : ¬ i = j) : fkI E (beg E s j w) i = fkI E s i := by unfold fkI; rw [bg_o h]
theorem p_beg {Q : Hp → Prop} (hr : rx A B S nc nw nm nj cw jc od E J0 R0 I J R) (hw : wf E nj nw cw jc s) (hc : cN A E nc nj cw s I J R) (hj : j < nj) (hcan : can E nj cw jc s j) (hQ : ∀ w I' J' R', lfw nj cw s (jc j) w → w < nw → rx A B S nc nw nm nj cw jc od E J0 R0 I' J' R' → cN A E nc nj cw (beg E s j w) I' J' R' → R' 0 18 = R 0 18 → I' 0 4 14 = I 0 4 14 → I' 0 4 16 = I 0 4 16 → J' 0 20 = J 0 20 → Q (hq A B S I' J' R')) : wp_X8_begin (hq A B S I J R) (A 0 4) (some (A 3 j)) Q := by
  have h := hr.1
  have n4 : nj ≤ 200 := hr.2.1.1.2.2.2.1
  have n2 : nw ≤ 32 := hr.2.1.1.2.1
  have n3 : nm ≤ 40 := hr.2.1.1.2.2.1
  have h0 := hcan.1.1
  obtain ⟨u1, u2, u3, u4, u5, u6, u7, u8, u9⟩ := hr.jo hj
  obtain ⟨q1, q2, q3, q4, q5, ⟨q6, q7, q8, v, q9, q10⟩, q12, q13⟩ := hc
  have now : I 0 4 10 = nI (oM s) := q13.1
  have eO : ∀ w, oS (beg E s j w) = oS (mv s j 6) := fun w => rfl
  unfold wp_X8_begin
  simp only [fr_4 h, fj_3 h hj, hi_q h, hj_q h, si_q h, sj_q h, vv_5 h, vs_5 h, vv_7 h, vs_7 h, vv_8 h, vs_8 h, vv_9 h, vs_9 h, vv_11 h, vs_11 h, vv_17 h, vs_17 h, vv_18 h, vs_18 h, vj_3 h, vj_4 h, vj_5 h, ex_some, ex_def, all_def, true_and, and_true, Nat.reduceLT, exists_eq_left, Option.some.injEq, exists_eq_left', u3]
  refine p_lfw hr q3 u7 hcan.2.1 (fun w hl => ?_)
  obtain ⟨l1, l2, l3⟩ := lfw_in hl
  have hnw : w < nw := by
    have := fwk_ge (cw := cw) nc u7
    have := hr.2.1.1.2.2.2.2.1
    omega
  refine ⟨fun z => absurd z (nI_nm1 (by omega)), fun _ => ?_⟩
  have u3' : up3 R 0 17 w (some (A 3 j)) 3 j 1 = some (A 2 (jc j)) := u3
  have x1 : up3 I 16 j 3 (nI w) 0 4 10 = nI (oM s) := now
  have x2 : up3 (up3 I 16 j 3 (nI w)) 16 j 1 (nI (oM s)) 2 (jc j) 3 = I 2 (jc j) 3 := rfl
  have x3 : ∀ v, up3 (up3 (up3 I 16 j 3 (nI w)) 16 j 1 (nI (oM s))) 2 (jc j) 3 v 0 4 15 = nI (cntN nj (fun j => oS s j == 6)) := fun v => q6
  simp only [fr_4 h, fr_17 h, fj_3 h hj, fj_16 h hj, fc_2 h u7, hi_q h, hj_q h, si_q h, sj_q h, vv_5 h, vs_5 h, vv_7 h, vs_7 h, vv_8 h, vs_8 h, vv_9 h, vs_9 h, vv_11 h, vs_11 h, vv_17 h, vs_17 h, vv_18 h, vs_18 h, vj_3 h, vj_4 h, vj_5 h, ex_some, ex_def, all_def, true_and, and_true, Nat.reduceLT, exists_eq_left, Option.some.injEq, exists_eq_left', nI_clamp (show w < 2 ^ 31 by omega), vin (show w < 32 by omega) (show 32 < 2 ^ 31 by decide), u3', x1, x2, x3]
  generalize eI1 : up3 (up3 (up3 (up3 I 16 j 3 (nI w)) 16 j 1 (nI (oM s))) 2 (jc j) 3 (I 2 (jc j) 3 - 1)) 0 4 15 (nI (cntN nj (fun j => oS s j == 6)) + 1) = I1
  have hr1 : rx A B S nc nw nm nj cw jc od E J0 R0 I1 J (up3 R 0 17 w (some (A 3 j))) := by
    rw [← eI1]
    exact hr.fx (((((hr.2.2.1.R rfl).I rfl).I rfl).I rfl).I rfl)
  refine p_take hr1 hj ?_
  generalize eI2 : (fun c i p => if c = 0 ∧ i = 16 ∧ p < nm ∧ E 1 12 (40 * j + p) = 1 then nI j else I1 c i p) = I2
  have hr2 : rx A B S nc nw nm nj cw jc od E J0 R0 I2 (up3 J 0 4 17 (J 0 4 17 ||| J 3 j 7)) (up3 R 0 17 w (some (A 3 j))) := by
    refine hr1.fx ⟨fun c i p e => ?_, (hr1.2.2.1.J rfl).2.1, hr1.2.2.1.2.2⟩
    rw [← eI2]
    show (if c = 0 ∧ i = 16 ∧ p < nm ∧ E 1 12 (40 * j + p) = 1 then nI j else I1 c i p) = E c i p
    rw [if_neg (fun z => by rw [z.1, z.2.1] at e; exact absurd e (by simp [ruI]))]
    exact hr1.2.2.1.1 c i p e
  refine ⟨(fj_3 h hj _ _ _).1, ?_⟩
  simp only [fj_3 h hj]
  refine p_b77 hr2 hj (fun f hf => ?_)
  have g10 : I2 0 4 10 = nI (oM s) := by rw [← eI2, ← eI1]; exact now
  have g12 : cEv nj s I2 (upR (up3 J 0 4 17 (J 0 4 17 ||| J 3 j 7)) 0 14 f) := by rw [← eI2, ← eI1]; exact q12
  rw [g10]
  refine p_evj h (s := s) (s' := beg E s j w) (k := 5) (m := oM s) g12 n4 hj (by rw [h0]; decide) hw.2.2.2.2.2.2 (by decide) (ev_new n4 hw.1 hj (Or.inl h0) (by decide) (by omega)) (by rw [eO]; exact evs_mv (x := 6) hj (b := 1) (by rw [h0]; rfl)) (fun z => ev_bg hj h0 z) (fun v' g he => ?_)
  refine hQ w _ _ _ hl hnw (hr2.fx (((hr2.2.2.1.JR (fun _ => rfl)).I rfl).JR (fun _ => rfl))) ⟨fun i hi => ?_, fun y hy => ?_, fun w' hw' => ?_, fun c hc => ?_, fun m hm => ?_, ⟨?_, ?_, ?_, v, ?_, ?_⟩, he, ?_⟩ rfl ?_ ?_ rfl
  · obtain ⟨a1, a2, a3, a4, a5, a6, a7, a8⟩ := q1 i hi
    have g : ∀ p, up3 I2 0 21 1 v' 16 i p = I1 16 i p := fun p => by rw [← eI2]; rfl
    have g' : ∀ p, I1 16 i p = (up3 (up3 I 16 j 3 (nI w)) 16 j 1 (nI (oM s))) 16 i p := fun p => by rw [← eI1]; rfl
    have ew : wts E nj (beg E s j w) i = wts E nj s i := by
      have := wts_mv (E := E) (nj := nj) (x := 6) (s := s) (j := j) (k := i) (Or.inl ⟨by decide, by rw [h0]; decide⟩)
      unfold wts at this ⊢
      rw [eO]; exact this
    rw [g, g, g, g, g, g, g, g, g', g', g', g', g', g', g', g', ew]
    by_cases e : i = j
    · subst e
      have t1 : bgI (beg E s i w) i = nI (oM s) := by unfold bgI; rw [bg_s, bg_b]; exact if_pos rfl
      have t2 : emI (beg E s i w) i = emI s i := by unfold emI; rw [bg_s, h0, if_neg (by decide), if_neg (by decide)]
      have t3 : wkI (beg E s i w) i = nI w := by unfold wkI; rw [bg_s, bg_w]; exact if_pos rfl
      have t4 : faI (beg E s i w) i = faI s i := by unfold faI; rw [bg_s, h0, if_neg (by decide), if_neg (by decide)]
      have t5 : noI E (beg E s i w) i = noI E s i := by unfold noI; rw [bg_s, h0, if_neg (by decide), if_neg (by decide)]
      have t6 : fkI E (beg E s i w) i = fkI E s i := by unfold fkI; rw [bg_s, h0, if_neg (by decide), if_neg (by decide)]
      have t0 : cS (oS (beg E s i w) i) = cS (oS s i) := by rw [bg_s, h0]; decide
      rw [t0, t1, t2, t3, t4, t5, t6]
      simp [up3, a1, a3, a5, a6, a7, a8]
    · rw [bg_o e, bgI_bo e, emI_bo e, wkI_bo e, faI_bo e, noI_bo e, fkI_bo e]
      simp [up3, e]
      exact ⟨a1, a2, a3, a4, a5, a6, a7, a8⟩
  · show upR (up3 J 0 4 17 (J 0 4 17 ||| J 3 j 7)) 0 14 f 0 14 y = _
    rw [up_j, hf y hy, lft_bg hj h0, ← q2 y hy]; rfl
  · rw [fre_bg hj h0]
    by_cases e : w' = w
    · right
      refine ⟨j, hj, bg_s _ _ _ _, ?_, ?_⟩
      · rw [bg_w, e]
      · rw [e, up3_same]
    · rw [up3_off (by omega)]
      rcases q3 w' hw' with ⟨y1, y2⟩ | ⟨i, y1, y2, y3, y4⟩
      · left; exact ⟨y1, by rw [y2, decide_eq_false e]; rfl⟩
      · right
        have ei : ¬ i = j := fun z => by rw [z, h0] at y2; omega
        exact ⟨i, y1, by rw [bg_o ei]; exact y2, by rw [bg_wo ei]; exact y3, y4⟩
  · have g : up3 I2 0 21 1 v' 2 c 3 = up3 I 2 (jc j) 3 (I 2 (jc j) 3 - 1) 2 c 3 := by rw [← eI2, ← eI1]; rfl
    rw [g]
    have e1 := cfr_bg (E := E) (jc := jc) (c := c) hj h0 hl
    by_cases e : c = jc j
    · subst e
      rw [if_pos rfl] at e1
      rw [up3_same, q4 _ hc, e1, nI_p1]
    · rw [if_neg e, Nat.add_zero] at e1
      rw [up3_off (by omega), q4 _ hc, e1]
  · show jb (J 0 4 17 ||| J 3 j 7) m = true ↔ _
    rw [bsy_bg hj h0, ← q5 m hm, ← hr.nd hj hm, jb_or, Bool.or_eq_true]
  · have := cnt_mv (s := s) (x := 6) hj (fun y => y == 6)
    simp [h0] at this
    rw [eO]
    rw [this, nI_succ, ← eI2, ← eI1]; rfl
  · have := cnt_mv (s := s) (x := 6) hj (fun y => y == 1)
    simp [h0] at this
    rw [eO]
    rw [this, ← eI2, ← eI1]; exact q7
  · have := cnt_mv (s := s) (x := 6) hj (fun y => y == 2)
    simp [h0] at this
    rw [eO]
    rw [this, ← eI2, ← eI1]; exact q8
  · rw [← eI2, ← eI1]; exact q9
  · obtain ⟨p1, p2⟩ := q10
    refine ⟨fun i hi ed => ?_, ?_⟩
    · by_cases e : i = j
      · rw [e, bg_s] at ed; exact absurd ed (by decide)
      · rw [bg_o e] at ed; exact p1 i hi ed
    · rcases p2 with p2 | ⟨i, hi, ed, p2⟩
      · exact Or.inl p2
      · have e : ¬ i = j := fun z => by rw [z, h0] at ed; exact absurd ed (by decide)
        exact Or.inr ⟨i, hi, by rw [bg_o e]; exact ed, p2⟩
  · refine ⟨by rw [← eI2, ← eI1]; exact now, by rw [← eI2, ← eI1]; exact q13.2.1, fun m hm => ?_⟩
    have g : up3 I2 0 21 1 v' 0 16 m = if 0 = 0 ∧ 16 = 16 ∧ m < nm ∧ E 1 12 (40 * j + m) = 1 then nI j else I 0 16 m := by rw [← eI2, ← eI1]; rfl
    rw [g]
    show _ = if m < 40 ∧ E 1 12 (40 * j + m) = 1 then nI j else oH s m
    by_cases e : E 1 12 (40 * j + m) = 1
    · have hmn : m < nm := by
        rcases (Nat.lt_or_ge m nm) with q | q
        · exact q
        · obtain ⟨-, -, -, -, -, -, -, -, -, -, -, -, -, zr⟩ := hr.2.1
          rw [zr.2.1 j m (by omega) hm (Or.inr q)] at e
          exact absurd e (by decide)
      simp [e, hm, hmn]
    · simp [e]; exact q13.2.2 m hm
  · rw [← eI2, ← eI1]; rfl
  · rw [← eI2, ← eI1]; rfl
end BJ
