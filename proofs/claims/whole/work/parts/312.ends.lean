section EN
variable {A : Nat → Nat → Nat} {B : Nat → Nat × Nat} {S : Hp} {nc nw nm nj : Nat} {cw jc : Nat → Nat} {I : FI} {J : FJ} {R : FR} {xs : Nat → Int32} {L : Nat} {l4 : Int32}
variable {E : FI} {J0 : FJ} {R0 : FR} {od : Nat → Nat} {s : Rs} {j x : Nat} {t5 t6 t7 : Nat → Int32} {lf : Nat → Int64} {dn fl : Int32} {Q : Hp → Prop}
theorem up_j (f : Nat → Int64) {b : Nat} : upR J 0 b f 0 b = f := funext fun p => by simp [upR]
theorem upR_off {α : Type} {f : Nat → Nat → Nat → α} {c i d k p : Nat} {g : Nat → α} (h : ¬ (d = c ∧ k = i)) : upR f c i g d k p = f d k p := if_neg h
/-- those that wait for job j wait for one less -/
theorem p_fin27 {an : Nat → Nat} {al : Nat → Nat → Nat} (h : Sh A B S nj nc) (hn : nj ≤ 200) (hl : lsA A S I R 5 18 nj an al) (hj : j < nj) (hd : ∀ i i', i < an j → i' < an j → al j i = al j i' → i = i') (hQ : Q (hq A B S (fun c i p => if c = 16 ∧ p = 7 ∧ ∃ t, t < an j ∧ al j t = i then I c i p - 1 else I c i p) J R)) : ∀ (r k fu : Nat), k + r = an j → r < fu → wp_X8_finish_L27 (some (A 3 j)) Q fu (hq A B S (fun c i p => if c = 16 ∧ p = 7 ∧ ∃ t, t < k ∧ al j t = i then I c i p - 1 else I c i p) J R) (nI k) := by
  intro r
  have ha : an j ≤ 200 := (hl j hj).2.1
  induction r with
  | zero =>
    intro k fu hk hf
    obtain ⟨fu, rfl⟩ : ∃ z, fu = z + 1 := ⟨fu - 1, by omega⟩
    have hkn : k = an j := by omega
    subst hkn
    rw [wp_X8_finish_L27]
    have hl2 : lsA A S (fun c i p => if c = 16 ∧ p = 7 ∧ ∃ t, t < an j ∧ al j t = i then I c i p - 1 else I c i p) R 5 18 nj an al := hl
    obtain ⟨dd, hA, -⟩ := al_q (J := J) h (Or.inr ⟨rfl, rfl⟩) hl2 hj
    simp only [fj_3 h hj, fj_5 h hj, hi_q h, hj_q h, si_q h, sj_q h, vv_5 h, vs_5 h, vv_7 h, vs_7 h, vv_8 h, vs_8 h, vv_9 h, vs_9 h, vv_11 h, vs_11 h, vv_17 h, vs_17 h, vv_18 h, vs_18 h, vj_3 h, vj_4 h, vj_5 h, ex_some, ex_def, all_def, true_and, and_true, Nat.reduceLT, exists_eq_left, Option.some.injEq, exists_eq_left']
    exact p_lsize hA ⟨fun _ => hQ, fun z => absurd (Int32.le_refl _) z⟩
  | succ r ih =>
    intro k fu hk hf
    obtain ⟨fu, rfl⟩ : ∃ z, fu = z + 1 := ⟨fu - 1, by omega⟩
    have hkn : k < an j := by omega
    rw [wp_X8_finish_L27]
    have hl2 : lsA A S (fun c i p => if c = 16 ∧ p = 7 ∧ ∃ t, t < k ∧ al j t = i then I c i p - 1 else I c i p) R 5 18 nj an al := hl
    obtain ⟨dd, hA, -⟩ := al_q (J := J) h (Or.inr ⟨rfl, rfl⟩) hl2 hj
    have e0 : ¬ nI (an j) ≤ nI k := by rw [nI_leI (by omega) (by omega)]; omega
    have hi := ((hl j hj).2.2.2 k hkn).1
    simp only [fj_3 h hj, fj_5 h hj, hi_q h, hj_q h, si_q h, sj_q h, vv_5 h, vs_5 h, vv_7 h, vs_7 h, vv_8 h, vs_8 h, vv_9 h, vs_9 h, vv_11 h, vs_11 h, vv_17 h, vs_17 h, vv_18 h, vs_18 h, vj_3 h, vj_4 h, vj_5 h, ex_some, ex_def, all_def, true_and, and_true, Nat.reduceLT, exists_eq_left, Option.some.injEq, exists_eq_left']
    refine p_lsize hA ⟨fun z => absurd z e0, fun _ => ?_⟩
    simp only [fj_3 h hj, fj_5 h hj, hi_q h, hj_q h, si_q h, sj_q h, vv_5 h, vs_5 h, vv_7 h, vs_7 h, vv_8 h, vs_8 h, vv_9 h, vs_9 h, vv_11 h, vs_11 h, vv_17 h, vs_17 h, vv_18 h, vs_18 h, vj_3 h, vj_4 h, vj_5 h, ex_some, ex_def, all_def, true_and, and_true, Nat.reduceLT, exists_eq_left, Option.some.injEq, exists_eq_left']
    refine p_lget hA hkn ?_
    simp only [fj_3 h hi, fj_16 h hi, hi_q h, hj_q h, si_q h, sj_q h, vv_5 h, vs_5 h, vv_7 h, vs_7 h, vv_8 h, vs_8 h, vv_9 h, vs_9 h, vv_11 h, vs_11 h, vv_17 h, vs_17 h, vv_18 h, vs_18 h, vj_3 h, vj_4 h, vj_5 h, ex_some, ex_def, all_def, true_and, and_true, Nat.reduceLT, exists_eq_left, Option.some.injEq, exists_eq_left', ← nI_succ]
    have eq : up3 (fun c i p => if c = 16 ∧ p = 7 ∧ ∃ t, t < k ∧ al j t = i then I c i p - 1 else I c i p) 16 (al j k) 7 ((if True ∧ ∃ t, t < k ∧ al j t = al j k then I 16 (al j k) 7 - 1 else I 16 (al j k) 7) - 1) = (fun c i p => if c = 16 ∧ p = 7 ∧ ∃ t, t < k + 1 ∧ al j t = i then I c i p - 1 else I c i p) := by
      have z2 : ¬ ∃ t, t < k ∧ al j t = al j k := fun ⟨t, ht, z⟩ => by have := hd t k (by omega) hkn z; omega
      funext c i p
      unfold up3
      by_cases e : c = 16 ∧ i = al j k ∧ p = 7
      · obtain ⟨rfl, rfl, rfl⟩ := e
        have z1 : ∃ t, t < k + 1 ∧ al j t = al j k := ⟨k, by omega, rfl⟩
        simp [z1, z2]
      · rw [if_neg e]
        have z : (c = 16 ∧ p = 7 ∧ ∃ t, t < k + 1 ∧ al j t = i) ↔ (c = 16 ∧ p = 7 ∧ ∃ t, t < k ∧ al j t = i) := ⟨fun ⟨a, b, t, ht, q⟩ => ⟨a, b, t, by
          have : t ≠ k := fun w => e ⟨a, by rw [← q, w], b⟩
          omega, q⟩, fun ⟨a, b, t, ht, q⟩ => ⟨a, b, t, by omega, q⟩⟩
        simp only [z]
    have eq2 := ih (k + 1) fu (by omega) (by omega)
    rw [← eq] at eq2
    simpa using eq2
theorem p_finish (hr : rx A B S nc nw nm nj cw jc od E J0 R0 I J R) (hw : wf E nj nw cw jc s) (hc : cR A E nc nj cw od s I J R) (hj : j < nj) (h6 : oS s j = 6) (hQ : ∀ I' J' R', rx A B S nc nw nm nj cw jc od E J0 R0 I' J' R' → J' 0 20 = J 0 20 → I' 0 4 16 = I 0 4 16 → cR A E nc nj cw od (mv s j 1) I' J' R' → Q (hq A B S I' J' R')) : wp_X8_finish (hq A B S I J R) (A 0 4) (some (A 3 j)) Q := by
  have h := hr.1
  have n4 : nj ≤ 200 := hr.2.1.1.2.2.2.1
  unfold wp_X8_finish
  refine ⟨(fr_4 h _ _ _).1, p_leave (x := 1) hr hw (cR_p hc) hj h6 (Or.inl rfl) (fun I1 J1 R1 hr1 m1 m2 c1 => ?_)⟩
  simp only [fr_4 h, hi_q h, hj_q h, si_q h, sj_q h, vv_5 h, vs_5 h, vv_7 h, vs_7 h, vv_8 h, vs_8 h, vv_9 h, vs_9 h, vv_11 h, vs_11 h, vv_17 h, vs_17 h, vv_18 h, vs_18 h, vj_3 h, vj_4 h, vj_5 h, ex_some, ex_def, all_def, true_and, and_true, Nat.reduceLT]
  have hr2 : rx A B S nc nw nm nj cw jc od E J0 R0 (up3 I1 0 4 12 (I1 0 4 12 + 1)) J1 R1 := hr1.fx (hr1.2.2.1.I rfl)
  refine p_given (Or.inl rfl) hr2 hj (fun f hf => ?_)
  have hr3 : rx A B S nc nw nm nj cw jc od E J0 R0 (up3 I1 0 4 12 (I1 0 4 12 + 1)) (upR J1 0 14 f) R1 := hr2.fx (hr2.2.2.1.JR (fun _ => rfl))
  obtain ⟨hE, bn, bl, an, al, y1, y2, y3, y4, y5⟩ := hr3.st.2.2.2.2.2.1
  have key := p_fin27 (Q := Q) (J := upR J1 0 14 f) h n4 y2 hj (y5 j · · hj) ?_ (an j) 0 FU (by omega) (by have := (y2 j hj).2.1; unfold FU; omega)
  · have e : (fun c i p => if c = 16 ∧ p = 7 ∧ ∃ t, t < 0 ∧ al j t = i then up3 I1 0 4 12 (I1 0 4 12 + 1) c i p - 1 else up3 I1 0 4 12 (I1 0 4 12 + 1) c i p) = up3 I1 0 4 12 (I1 0 4 12 + 1) := by
      funext c i p; simp
    rw [e] at key
    exact key
  · obtain ⟨q1, q2, q3, q4, q5, ⟨q6, q7, q8, q9⟩, q11, q12, q13⟩ := c1
    refine hQ _ _ _ (hr3.fx ⟨fun c i p e => ?_, hr3.2.2.1.2.1, hr3.2.2.1.2.2⟩) (by rw [← m1]; funext p; rfl) ?_ ?_
    · show (if c = 16 ∧ p = 7 ∧ ∃ t, t < an j ∧ al j t = i then _ else _) = _
      rw [if_neg (fun z => by rw [z.1] at e; exact absurd e (by simp [ruI]))]
      exact hr3.2.2.1.1 c i p e
    · show (if 0 = 16 ∧ _ then _ else _) = _
      rw [if_neg (by omega)]; exact m2
    · refine cRp_r (t5 := noI E s) (t6 := fkI E s) (t7 := fun k => if ∃ t, t < an j ∧ al j t = k then nI (wts E nj s k) - 1 else nI (wts E nj s k)) (lf := f) (dn := nI (cntN nj (fun j => oS s j == 1)) + 1) (fl := nI (cntN nj (fun j => oS s j == 2))) ⟨fun i hi => ?_, fun y hy => by rw [up_j], q3, q4, q5, ⟨q6, ?_, q8, q9⟩, q11, q12, q13⟩ (fun k hk => ?_) (fun k hk => ?_) (fun k hk => ?_) (fun y hy => ?_) ?_ ?_
      · obtain ⟨a1, a2, a3, a4, a5, a6, a7, a8⟩ := q1 i hi
        refine ⟨a1, a2, a3, a4, a5, a6, a7, ?_⟩
        show (if 16 = 16 ∧ 7 = 7 ∧ ∃ t, t < an j ∧ al j t = i then I1 16 i 7 - 1 else I1 16 i 7) = _
        rw [a8]; simp
      · show I1 0 4 12 + 1 = _
        rw [q7]
      · by_cases e : k = j
        · subst e; unfold noI; rw [mv_s, h6]; simp
        · rw [noI_o e]
      · by_cases e : k = j
        · subst e; unfold fkI; rw [mv_s, h6]; simp
        · rw [fkI_o e]
      · have e1 : up3 I1 0 4 12 (I1 0 4 12 + 1) 1 10 (200 * k + j) = E 1 10 (200 * k + j) := hr3.i rfl
        have e2 := (y3 k j hk hj).2.2
        rw [e1] at e2
        by_cases e : E 1 10 (200 * k + j) = 1
        · simp only [e2.mp e, if_true]
          rw [wts_mv1 hj (by rw [h6]; decide) e, nI_p1]
        · simp only [show ¬ ∃ t, t < an j ∧ al j t = k from fun z => e (e2.mpr z), if_false]
          rw [wts_mv (Or.inr e)]
      · rw [hf y hy, q2 y hy, lft_mv hj]
        have d1 : dlt E s y j = - (E 1 13 (60 * j + y)).toInt64 := by unfold dlt; rw [if_pos h6]
        have d2 : dlt E (mv s j 1) y j = (E 1 14 (60 * j + y)).toInt64 - (E 1 13 (60 * j + y)).toInt64 := by unfold dlt; rw [mv_s, if_neg (by decide), if_pos rfl]
        rw [d1, d2]; grind
      · have := cnt_mv (s := s) (x := 1) hj (fun y => y == 1)
        simp [h6] at this
        rw [this, nI_succ]
      · have := cnt_mv (s := s) (x := 1) hj (fun y => y == 2)
        simp [h6] at this
        rw [this]
theorem p_fail (hr : rx A B S nc nw nm nj cw jc od E J0 R0 I J R) (hw : wf E nj nw cw jc s) (hc : cR A E nc nj cw od s I J R) (hj : j < nj) (h6 : oS s j = 6) (hQ : ∀ I' J' R', rx A B S nc nw nm nj cw jc od E J0 R0 I' J' R' → (∀ k, jb (J' 0 20 (k / 64)) (k % 64) = (jb (J 0 20 (k / 64)) (k % 64) || decide (k = j))) → I' 0 4 16 = 1 → cR A E nc nj cw od (mv s j 2) I' J' R' → Q (hq A B S I' J' R')) : wp_X8_fail (hq A B S I J R) (A 0 4) (some (A 3 j)) (fkE E j) Q := by
  have h := hr.1
  have n4 : nj ≤ 200 := hr.2.1.1.2.2.2.1
  unfold wp_X8_fail
  refine ⟨(fr_4 h _ _ _).1, p_leave (x := 2) hr hw (cR_p hc) hj h6 (Or.inr (Or.inl rfl)) (fun I1 J1 R1 hr1 m1 m2 c1 => ?_)⟩
  simp only [fr_4 h, fj_3 h hj, fj_16 h hj, hi_q h, hj_q h, si_q h, sj_q h, vv_5 h, vs_5 h, vv_7 h, vs_7 h, vv_8 h, vs_8 h, vv_9 h, vs_9 h, vv_11 h, vs_11 h, vv_17 h, vs_17 h, vv_18 h, vs_18 h, vj_3 h, vj_4 h, vj_5 h, ex_some, ex_def, all_def, true_and, and_true, Nat.reduceLT, exists_eq_left, Option.some.injEq, exists_eq_left']
  have hr2 : rx A B S nc nw nm nj cw jc od E J0 R0 (up3 (up3 I1 0 4 11 (I1 0 4 11 + 1)) 16 j 6 (fkE E j)) J1 R1 := hr1.fx ((hr1.2.2.1.I rfl).I rfl)
  refine p_bring hr2 hj (fun f hf => ?_)
  have hr3 := hr2.fx (hr2.2.2.1.JR (c := 0) (i := 14) (f := f) (fun _ => rfl))
  have u2 := (hr3.jo hj).2.1
  simp only [fr_4 h, fr_19 h, fj_3 h hj, hi_q h, hj_q h, si_q h, sj_q h, vv_5 h, vs_5 h, vv_7 h, vs_7 h, vv_8 h, vs_8 h, vv_9 h, vs_9 h, vv_11 h, vs_11 h, vv_17 h, vs_17 h, vv_18 h, vs_18 h, vj_3 h, vj_4 h, vj_5 h, ex_some, ex_def, all_def, true_and, and_true, Nat.reduceLT, u2, exists_eq_left, Option.some.injEq, exists_eq_left']
  have js0 : ∀ I J R, isJS (hq A B S I J R) (A 0 19) (A 0 20) := fun I J R => ⟨(fr_19 h _ _ _).1, (fr_19 h _ _ _).2, (fr_20 h _ _ _).1, (fr_20 h _ _ _).2⟩
  refine p_add2 (js0 _ _ _) (by omega) (fun g hg => ?_)
  rw [sWJ_q h (by decide)]
  simp only [fr_4 h, hi_q h, hj_q h, si_q h, sj_q h, vv_5 h, vs_5 h, vv_7 h, vs_7 h, vv_8 h, vs_8 h, vv_9 h, vs_9 h, vv_11 h, vs_11 h, vv_17 h, vs_17 h, vv_18 h, vs_18 h, vj_3 h, vj_4 h, vj_5 h, ex_some, ex_def, all_def, true_and, and_true, Nat.reduceLT]
  obtain ⟨q1, q2, q3, q4, q5, ⟨q6, q7, q8, q9⟩, q11, q12, q13⟩ := c1
  refine hQ _ _ _ (hr3.fx ((hr3.2.2.1.JR (fun _ => rfl)).I rfl)) (fun k => ?_) rfl ?_
  · have := hg k
    rw [js_hq h (by decide)] at this
    rw [up_j, this]
    have e : upR J1 0 14 f 0 20 = J 0 20 := m1
    rw [e]
  · refine cRp_r (t5 := noI E s) (t6 := u1 (fkI E s) j (fkE E j)) (t7 := fun k => nI (wts E nj s k)) (lf := f) (dn := nI (cntN nj (fun j => oS s j == 1))) (fl := nI (cntN nj (fun j => oS s j == 2)) + 1) ⟨fun i hi => ?_, fun y hy => ?_, q3, q4, q5, ⟨q6, q7, ?_, q9⟩, q11, q12, q13⟩ (fun k hk => ?_) (fun k hk => ?_) (fun k hk => ?_) (fun y hy => ?_) ?_ ?_
    · obtain ⟨a1, a2, a3, a4, a5, a6, a7, a8⟩ := q1 i hi
      by_cases e : i = j
      · subst e; rw [u1_s]; simp [up3, a1, a2, a3, a4, a5, a6, a8]
      · rw [u1_o e]; simp [up3, e, a1, a2, a3, a4, a5, a6, a7, a8]
    · show upR J1 0 14 f 0 14 y = f y
      rw [up_j]
    · show I1 0 4 11 + 1 = _
      rw [q8]
    · by_cases e : k = j
      · subst e; unfold noI; rw [mv_s, h6]; simp
      · rw [noI_o e]
    · by_cases e : k = j
      · subst e; rw [u1_s]; unfold fkI; rw [mv_s]; simp
      · rw [u1_o e, fkI_o e]
    · rw [wts_mv (Or.inl ⟨by decide, by rw [h6]; decide⟩)]
    · rw [hf y hy, q2 y hy, lft_mv hj]
      have e4 : (up3 (up3 I1 0 4 11 (I1 0 4 11 + 1)) 16 j 6 (fkE E j)) 16 j 4 = faI (mv s j 2) j := by rw [up3_off (by omega), up3_off (by omega)]; exact (q1 j hj).2.2.2.2.1
      have d1 : dlt E s y j = - (E 1 13 (60 * j + y)).toInt64 := by unfold dlt; rw [if_pos h6]
      have d2 : dlt E (mv s j 2) y j = rst E (mv s j 2) y j - (E 1 13 (60 * j + y)).toInt64 := by unfold dlt; rw [mv_s]; simp
      rw [d1, d2, e4]; unfold rst; grind
    · have := cnt_mv (s := s) (x := 2) hj (fun y => y == 1)
      simp [h6] at this
      rw [this]
    · have := cnt_mv (s := s) (x := 2) hj (fun y => y == 2)
      simp [h6] at this
      rw [this, nI_succ]
end EN
