def intP (nj : Nat) (s : Rs) (i : Nat) : Nat → Bool := fun k => decide (k < nj ∧ oS s k = 6 ∧ oW s k < i)
def ints (nj : Nat) (s : Rs) : Rs := par s (fun k => decide (k < nj ∧ oS s k = 6)) (fun _ => 4)
/-- the next minute in which something happens -/
def nxt (E : FI) (nj : Nat) (s : Rs) (d m : Nat) : Prop := m ≤ d ∧ (∀ k, k < nj → oS s k = 6 → m ≤ endN E s k) ∧ (m = d ∨ ∃ k, k < nj ∧ oS s k = 6 ∧ endN E s k = m)
section IT
variable {A : Nat → Nat → Nat} {B : Nat → Nat × Nat} {S : Hp} {nc nw nm nj : Nat} {cw jc : Nat → Nat} {I : FI} {J : FJ} {R : FR} {xs : Nat → Int32} {L : Nat} {l4 : Int32}
variable {E : FI} {J0 : FJ} {R0 : FR} {od : Nat → Nat} {s : Rs} {j x : Nat} {Q : Hp → Prop}
theorem p_intj {C : Prop} {v : Int32} (hr : rx A B S nc nw nm nj cw jc od E J0 R0 I J R) (hc : cRp A E nc nj cw od (mv s j 4) (noI E s) (fkI E s) (fun j => nI (wts E nj s j)) (lft E nj s) (nI (cntN nj (fun j => oS s j == 1))) (nI (cntN nj (fun j => oS s j == 2))) I J R) (hj : j < nj) (h6 : oS s j = 6) (hv : v = noI E (mv s j 4) j) (hQ : ∀ I' J', rx A B S nc nw nm nj cw jc od E J0 R0 I' J' R → cR A E nc nj cw od (mv s j 4) I' J' R → Q (hq A B S I' J' R)) : wp_X8_bringBackRest (hq A B S (up3 I 16 j 5 v) J R) (A 0 4) (some (A 3 j)) Q := by
  have h := hr.1
  have hr2 : rx A B S nc nw nm nj cw jc od E J0 R0 (up3 I 16 j 5 v) J R := hr.fx (hr.2.2.1.I rfl)
  refine p_bring hr2 hj (fun f hf => ?_)
  obtain ⟨q1, q2, q3, q4, q5, ⟨q6, q7, q8, q9⟩, q11, q12, q13⟩ := hc
  refine hQ _ _ (hr2.fx (hr2.2.2.1.JR (fun _ => rfl))) ?_
  refine cRp_r (t5 := u1 (noI E s) j v) (t6 := fkI E s) (t7 := fun k => nI (wts E nj s k)) (lf := f) (dn := nI (cntN nj (fun j => oS s j == 1))) (fl := nI (cntN nj (fun j => oS s j == 2))) ⟨fun i hi => ?_, fun y hy => ?_, q3, q4, q5, ⟨q6, q7, q8, q9⟩, q11, q12, q13⟩ (fun k hk => ?_) (fun k hk => ?_) (fun k hk => ?_) (fun y hy => ?_) ?_ ?_
  · obtain ⟨a1, a2, a3, a4, a5, a6, a7, a8⟩ := q1 i hi
    by_cases e : i = j
    · subst e; rw [u1_s]; simp [up3, a1, a2, a3, a4, a5, a7, a8]
    · rw [u1_o e]; simp [up3, e, a1, a2, a3, a4, a5, a6, a7, a8]
  · show upR J 0 14 f 0 14 y = f y
    rw [up_j]
  · by_cases e : k = j
    · subst e; rw [u1_s, hv]
    · rw [u1_o e, noI_o e]
  · by_cases e : k = j
    · subst e; unfold fkI; rw [mv_s, h6]; simp
    · rw [fkI_o e]
  · rw [wts_mv (Or.inl ⟨by decide, by rw [h6]; decide⟩)]
  · rw [hf y hy, q2 y hy, lft_mv hj]
    have e4 : (up3 I 16 j 5 v) 16 j 4 = faI (mv s j 4) j := by rw [up3_off (by omega)]; exact (q1 j hj).2.2.2.2.1
    have d1 : dlt E s y j = - (E 1 13 (60 * j + y)).toInt64 := by unfold dlt; rw [if_pos h6]
    have d2 : dlt E (mv s j 4) y j = rst E (mv s j 4) y j - (E 1 13 (60 * j + y)).toInt64 := by unfold dlt; rw [mv_s]; simp
    rw [d1, d2, e4]; unfold rst; grind
  · have := cnt_mv (s := s) (x := 4) hj (fun y => y == 1)
    simp [h6] at this
    rw [this]
  · have := cnt_mv (s := s) (x := 4) hj (fun y => y == 2)
    simp [h6] at this
    rw [this]
theorem p_ints_L : ∀ (r i fu : Nat) (I : FI) (J : FJ) (R : FR), i + r = nw → r < fu → wf E nj nw cw jc s → rx A B S nc nw nm nj cw jc od E J0 R0 I J R → wf E nj nw cw jc (par s (intP nj s i) (fun _ => 4)) → cR A E nc nj cw od (par s (intP nj s i) (fun _ => 4)) I J R → (∀ I' J' R', rx A B S nc nw nm nj cw jc od E J0 R0 I' J' R' → wf E nj nw cw jc (ints nj s) → cR A E nc nj cw od (ints nj s) I' J' R' → Q (hq A B S I' J' R')) → wp_X8_interruptAll_L2 (A 0 4) Q fu (hq A B S I J R) (nI i) := by
  intro r
  induction r with
  | zero =>
    intro i fu I J R hi hf hw hr hwi hc hQ
    obtain ⟨fu, rfl⟩ : ∃ z, fu = z + 1 := ⟨fu - 1, by omega⟩
    have h := hr.1
    have hin : i = nw := by omega
    subst hin
    have c2 : I 0 1 2 = nI i := hr.st.2.1.2.1
    have e : par s (intP nj s i) (fun _ => 4) = ints nj s := par_cg (fun k => by
      unfold intP
      rw [decide_eq_decide]
      exact ⟨fun ⟨a, b, _⟩ => ⟨a, b⟩, fun ⟨a, b⟩ => ⟨a, b, (hw.2.1 k a b).2.2⟩⟩)
    rw [e] at hwi hc
    rw [wp_X8_interruptAll_L2]
    simp only [fr_4 h, fr_1 h, hi_q h, hj_q h, si_q h, sj_q h, vv_5 h, vs_5 h, vv_7 h, vs_7 h, vv_8 h, vs_8 h, vv_9 h, vs_9 h, vv_11 h, vs_11 h, vv_17 h, vs_17 h, vv_18 h, vs_18 h, vj_3 h, vj_4 h, vj_5 h, ex_some, ex_def, all_def, true_and, and_true, Nat.reduceLT, exists_eq_left, Option.some.injEq, exists_eq_left', c2]
    exact ⟨fun _ => hQ I J R hr hwi hc, fun z => absurd (Int32.le_refl _) z⟩
  | succ r ih =>
    intro i fu I J R hi hf hw hr hwi hc hQ
    obtain ⟨fu, rfl⟩ : ∃ z, fu = z + 1 := ⟨fu - 1, by omega⟩
    have h := hr.1
    have c2 : I 0 1 2 = nI nw := hr.st.2.1.2.1
    have n2 : nw ≤ 32 := hr.2.1.1.2.1
    have n4 : nj ≤ 200 := hr.2.1.1.2.2.2.1
    have e0 : ¬ nI nw ≤ nI i := by rw [nI_leI (by omega) (by omega)]; omega
    have v6 : ∀ k, oS (par s (intP nj s i) (fun _ => 4)) k = 6 ↔ oS s k = 6 ∧ intP nj s i k = false := fun k => by
      show (if intP nj s i k = true then 4 else oS s k) = 6 ↔ _
      by_cases z : intP nj s i k = true
      · rw [if_pos z]; simp [z]
      · rw [if_neg z]; simp at z; simp [z]
    rw [wp_X8_interruptAll_L2]
    rcases hc.2.2.1 i (by omega) with ⟨y1, y2⟩ | ⟨j, hj, y2, y3, y4⟩
    · simp only [fr_4 h, fr_1 h, fr_17 h, hi_q h, hj_q h, si_q h, sj_q h, vv_5 h, vs_5 h, vv_7 h, vs_7 h, vv_8 h, vs_8 h, vv_9 h, vs_9 h, vv_11 h, vs_11 h, vv_17 h, vs_17 h, vv_18 h, vs_18 h, vj_3 h, vj_4 h, vj_5 h, ex_some, ex_def, all_def, true_and, and_true, Nat.reduceLT, exists_eq_left, Option.some.injEq, exists_eq_left', c2, e0, not_false_eq_true, true_implies, not_true_eq_false, false_implies, true_and, and_true, false_and, and_false, forall_const, imp_self, implies_true, if_true, if_false, eq_self, Bool.true_eq_false, Bool.false_eq_true, false_or, or_false, true_or, or_true, nI_clamp (show i < 2 ^ 31 by omega), vin (show i < 32 by omega) (show 32 < 2 ^ 31 by decide), y1, ← nI_succ]
      have e : par s (intP nj s (i + 1)) (fun _ => 4) = par s (intP nj s i) (fun _ => 4) := par_cg (fun k => by
        unfold intP
        rw [decide_eq_decide]
        refine ⟨fun ⟨a, b, d⟩ => ⟨a, b, ?_⟩, fun ⟨a, b, d⟩ => ⟨a, b, by omega⟩⟩
        by_cases z : oW s k = i
        · exact absurd z (fre_t.mp y2 k a ((v6 k).mpr ⟨b, by unfold intP; exact decide_eq_false (fun q => by omega)⟩))
        · omega)
      exact ih (i + 1) fu I J R (by omega) (by omega) hw hr (by rw [e]; exact hwi) (by rw [e]; exact hc) hQ
    · have y5 := (v6 j).mp y2
      have y3' : oW s j = i := y3
      have b6 : bgn (oS (par s (intP nj s i) (fun _ => 4)) j) = true := by rw [y2]; rfl
      have st : par s (intP nj s (i + 1)) (fun _ => 4) = mv (par s (intP nj s i) (fun _ => 4)) j 4 := par_mv (v := fun _ => 4) (fun k => by
        unfold intP
        rw [← Bool.decide_or, decide_eq_decide]
        constructor
        · rintro ⟨a, b, d⟩
          by_cases q : oW s k = i
          · exact Or.inr (hw.2.2.1 k j a hj b y5.1 (q.trans y3'.symm))
          · exact Or.inl ⟨a, b, by omega⟩
        · rintro (⟨a, b, d⟩ | q)
          · exact ⟨a, b, by omega⟩
          · rw [q]; exact ⟨hj, y5.1, by omega⟩)
      simp only [fr_4 h, fr_1 h, fr_17 h, hi_q h, hj_q h, si_q h, sj_q h, vv_5 h, vs_5 h, vv_7 h, vs_7 h, vv_8 h, vs_8 h, vv_9 h, vs_9 h, vv_11 h, vs_11 h, vv_17 h, vs_17 h, vv_18 h, vs_18 h, vj_3 h, vj_4 h, vj_5 h, ex_some, ex_def, all_def, true_and, and_true, Nat.reduceLT, exists_eq_left, Option.some.injEq, exists_eq_left', c2, e0, not_false_eq_true, true_implies, not_true_eq_false, false_implies, true_and, and_true, false_and, and_false, forall_const, imp_self, implies_true, if_true, if_false, eq_self, Bool.true_eq_false, Bool.false_eq_true, false_or, or_false, true_or, or_true, nI_clamp (show i < 2 ^ 31 by omega), vin (show i < 32 by omega) (show 32 < 2 ^ 31 by decide), y4, ← nI_succ, reduceCtorEq]
      refine p_leave (x := 4) hr hwi (cR_p hc) hj y2 (Or.inr (Or.inr rfl)) (fun I1 J1 R1 hr1 m1 m2 c1 => ?_)
      obtain ⟨u1, u2, u3, u4, u5, u6, u7, u8, u9⟩ := hr1.jo hj
      have k0 : I1 14 j 0 = E 1 15 j := (hr1.st.2.2.2.2.2.2.2.2.2.2.1 j hj).2.1.trans (hr1.i rfl)
      have kk := (hr1.2.1.2.2.2.2.2.2.2.2.2.2.1 j hj).2.2.2.2
      have f4 : I1 16 j 4 = faI (mv (par s (intP nj s i) (fun _ => 4)) j 4) j := (c1.1 j hj).2.2.2.2.1
      have go : ∀ v : Int32, v = noI E (mv (par s (intP nj s i) (fun _ => 4)) j 4) j → wp_X8_bringBackRest (hq A B S (up3 I1 16 j 5 v) J1 R1) (A 0 4) (some (A 3 j)) (fun S24 => wp_X8_interruptAll_L2 (A 0 4) Q fu S24 (nI (i + 1))) := fun v hv => p_intj (C := True) hr1 c1 hj y2 hv (fun I' J' r1 r2 => ih (i + 1) fu I' J' R1 (by omega) (by omega) hw r1 (by rw [st]; exact wf_mv hwi (by decide) (fun _ => b6)) (by rw [st]; exact r2) hQ)
      have no : noI E (mv (par s (intP nj s i) (fun _ => 4)) j 4) j = if 0 < E 1 15 j ∧ faI (mv (par s (intP nj s i) (fun _ => 4)) j 4) j < E 1 8 j / 2 then 2 else 1 := by unfold noI; rw [mv_s]; rfl
      simp only [fr_4 h, fj_3 h hj, fj_14 h hj, fj_16 h hj, hi_q h, hj_q h, si_q h, sj_q h, vv_5 h, vs_5 h, vv_7 h, vs_7 h, vv_8 h, vs_8 h, vv_9 h, vs_9 h, vv_11 h, vs_11 h, vv_17 h, vs_17 h, vv_18 h, vs_18 h, vj_3 h, vj_4 h, vj_5 h, ex_some, ex_def, all_def, true_and, and_true, Nat.reduceLT, exists_eq_left, Option.some.injEq, exists_eq_left', k0, u4, f4]
      have o1 : ¬ (1 : Int32) = 0 := by decide
      have kz : E 1 15 j = 0 ∨ 0 < E 1 15 j := by rcases kk with z | z | z | z | z | z <;> rw [z] <;> decide
      by_cases z1 : E 1 15 j = 0
      · have n1 : noI E (mv (par s (intP nj s i) (fun _ => 4)) j 4) j = 1 := by rw [no, if_neg (fun z => by rw [z1] at z; exact absurd z.1 (by decide))]
        simp only [z1, not_false_eq_true, true_implies, not_true_eq_false, false_implies, true_and, and_true, false_and, and_false, forall_const, imp_self, implies_true, if_true, if_false, eq_self, Bool.true_eq_false, Bool.false_eq_true, false_or, or_false, true_or, or_true, o1]
        exact ⟨fun _ => go 1 n1.symm, fun _ => go 1 n1.symm⟩
      · have z1' : 0 < E 1 15 j := kz.resolve_left z1
        by_cases z2 : E 1 8 j / 2 ≤ faI (mv (par s (intP nj s i) (fun _ => 4)) j 4) j
        · have n1 : noI E (mv (par s (intP nj s i) (fun _ => 4)) j 4) j = 1 := by rw [no, if_neg (fun z => absurd z2 (i_nle.mpr z.2))]
          simp only [z1, z2, not_false_eq_true, true_implies, not_true_eq_false, false_implies, true_and, and_true, false_and, and_false, forall_const, imp_self, implies_true, if_true, if_false, eq_self, Bool.true_eq_false, Bool.false_eq_true, false_or, or_false, true_or, or_true, o1]
          exact go 1 n1.symm
        · have n1 : noI E (mv (par s (intP nj s i) (fun _ => 4)) j 4) j = 2 := by rw [no, if_pos ⟨z1', i_nle.mp z2⟩]
          simp only [z1, z2, not_false_eq_true, true_implies, not_true_eq_false, false_implies, true_and, and_true, false_and, and_false, forall_const, imp_self, implies_true, if_true, if_false, eq_self, Bool.true_eq_false, Bool.false_eq_true, false_or, or_false, true_or, or_true, o1]
          exact go 2 n1.symm
theorem p_ints (hr : rx A B S nc nw nm nj cw jc od E J0 R0 I J R) (hw : wf E nj nw cw jc s) (hc : cR A E nc nj cw od s I J R) (hQ : ∀ I' J' R', rx A B S nc nw nm nj cw jc od E J0 R0 I' J' R' → wf E nj nw cw jc (ints nj s) → cR A E nc nj cw od (ints nj s) I' J' R' → Q (hq A B S I' J' R')) : wp_X8_interruptAll (hq A B S I J R) (A 0 4) Q := by
  have e : par s (intP nj s 0) (fun _ => 4) = s := par_0 (fun k => by unfold intP; exact decide_eq_false (fun q => by omega))
  exact p_ints_L nw 0 FU I J R (by omega) (by have := hr.2.1.1.2.1; unfold FU; omega) hw hr (by rw [e]; exact hw) (by rw [e]; exact hc) hQ
theorem p_next_L {Q : Int32 → Hp → Prop} {d : Nat} (hd : d ≤ 1000000) (hr : rx A B S nc nw nm nj cw jc od E J0 R0 I J R) (hw : wf E nj nw cw jc s) (hc : cR A E nc nj cw od s I J R) (hQ : ∀ m, nxt E nj s d m → Q (nI m) (hq A B S I J R)) : ∀ (r i fu m : Nat), i + r = nw → r < fu → m ≤ d → (∀ k, k < nj → oS s k = 6 → oW s k < i → m ≤ endN E s k) → (m = d ∨ ∃ k, k < nj ∧ oS s k = 6 ∧ endN E s k = m) → wp_X8_nextMinute_L4 (A 0 4) Q fu (hq A B S I J R) (nI m) (nI i) := by
  have h := hr.1
  have c2 : I 0 1 2 = nI nw := hr.st.2.1.2.1
  have n2 : nw ≤ 32 := hr.2.1.1.2.1
  intro r
  induction r with
  | zero =>
    intro i fu m hi hf h1 h2 h3
    obtain ⟨fu, rfl⟩ : ∃ z, fu = z + 1 := ⟨fu - 1, by omega⟩
    have hin : i = nw := by omega
    subst hin
    rw [wp_X8_nextMinute_L4]
    simp only [fr_4 h, fr_1 h, hi_q h, hj_q h, si_q h, sj_q h, vv_5 h, vs_5 h, vv_7 h, vs_7 h, vv_8 h, vs_8 h, vv_9 h, vs_9 h, vv_11 h, vs_11 h, vv_17 h, vs_17 h, vv_18 h, vs_18 h, vj_3 h, vj_4 h, vj_5 h, ex_some, ex_def, all_def, true_and, and_true, Nat.reduceLT, exists_eq_left, Option.some.injEq, exists_eq_left', c2]
    exact ⟨fun _ => hQ m ⟨h1, fun k hk h6 => h2 k hk h6 (hw.2.1 k hk h6).2.2, h3⟩, fun z => absurd (Int32.le_refl _) z⟩
  | succ r ih =>
    intro i fu m hi hf h1 h2 h3
    obtain ⟨fu, rfl⟩ : ∃ z, fu = z + 1 := ⟨fu - 1, by omega⟩
    have e0 : ¬ nI nw ≤ nI i := by rw [nI_leI (by omega) (by omega)]; omega
    rw [wp_X8_nextMinute_L4]
    rcases hc.2.2.1 i (by omega) with ⟨y1, y2⟩ | ⟨j, hj, y2, y3, y4⟩
    · simp only [fr_4 h, fr_1 h, fr_17 h, hi_q h, hj_q h, si_q h, sj_q h, vv_5 h, vs_5 h, vv_7 h, vs_7 h, vv_8 h, vs_8 h, vv_9 h, vs_9 h, vv_11 h, vs_11 h, vv_17 h, vs_17 h, vv_18 h, vs_18 h, vj_3 h, vj_4 h, vj_5 h, ex_some, ex_def, all_def, true_and, and_true, Nat.reduceLT, exists_eq_left, Option.some.injEq, exists_eq_left', c2, e0, not_false_eq_true, true_implies, not_true_eq_false, false_implies, true_and, and_true, false_and, and_false, forall_const, imp_self, implies_true, if_true, if_false, eq_self, Bool.true_eq_false, Bool.false_eq_true, false_or, or_false, true_or, or_true, nI_clamp (show i < 2 ^ 31 by omega), vin (show i < 32 by omega) (show 32 < 2 ^ 31 by decide), y1, ← nI_succ]
      refine ih (i + 1) fu m (by omega) (by omega) h1 (fun k hk h6 q => ?_) h3
      have := fre_t.mp y2 k hk h6
      exact h2 k hk h6 (by omega)
    · obtain ⟨u1, u2, u3, u4, u5, u6, u7, u8, u9⟩ := hr.jo hj
      obtain ⟨d1, d2, d3⟩ := hr.du hj
      obtain ⟨a1, a2, -⟩ := hc.1 j hj
      have b6 : bgn (oS s j) = true := by rw [y2]; rfl
      have e1 : I 16 j 1 = nI (oB s j) := by rw [a2]; unfold bgI; rw [if_pos b6]
      have b1 : oB s j ≤ oM s := hw.2.2.2.2.1 j hj b6
      have b2 : oM s ≤ 1000000 := hw.2.2.2.2.2.2
      have go : wp_X8_nextMinute_L4 (A 0 4) Q fu (hq A B S I J R) (if nI (endN E s j) < nI m then nI (endN E s j) else nI m) (nI (i + 1)) := by
        have en : endN E s j < 2 ^ 31 := by unfold endN; omega
        have ek : ∀ k, k < nj → oS s k = 6 → oW s k = i → k = j := fun k hk h6 q => hw.2.2.1 k j hk hj h6 y2 (q.trans y3.symm)
        by_cases z : nI (endN E s j) < nI m
        · rw [if_pos z]
          rw [nI_lti en (by omega)] at z
          refine ih (i + 1) fu _ (by omega) (by omega) (by omega) (fun k hk h6 q => ?_) (Or.inr ⟨j, hj, y2, rfl⟩)
          by_cases q2 : oW s k = i
          · rw [ek k hk h6 q2]; exact Nat.le_refl _
          · have := h2 k hk h6 (by omega); omega
        · rw [if_neg z]
          rw [nI_lti en (by omega)] at z
          refine ih (i + 1) fu m (by omega) (by omega) h1 (fun k hk h6 q => ?_) h3
          by_cases q2 : oW s k = i
          · rw [ek k hk h6 q2]; omega
          · exact h2 k hk h6 (by omega)
      simp only [fr_4 h, fr_1 h, fr_17 h, hi_q h, hj_q h, si_q h, sj_q h, vv_5 h, vs_5 h, vv_7 h, vs_7 h, vv_8 h, vs_8 h, vv_9 h, vs_9 h, vv_11 h, vs_11 h, vv_17 h, vs_17 h, vv_18 h, vs_18 h, vj_3 h, vj_4 h, vj_5 h, ex_some, ex_def, all_def, true_and, and_true, Nat.reduceLT, exists_eq_left, Option.some.injEq, exists_eq_left', c2, e0, not_false_eq_true, true_implies, not_true_eq_false, false_implies, true_and, and_true, false_and, and_false, forall_const, imp_self, implies_true, if_true, if_false, eq_self, Bool.true_eq_false, Bool.false_eq_true, false_or, or_false, true_or, or_true, nI_clamp (show i < 2 ^ 31 by omega), vin (show i < 32 by omega) (show 32 < 2 ^ 31 by decide), y4, ← nI_succ, reduceCtorEq]
      unfold wp_X4_endMinute wp_X4_hasPlan
      simp only [fj_3 h hj, fj_16 h hj, fr_4 h, hi_q h, hj_q h, si_q h, sj_q h, vv_5 h, vs_5 h, vv_7 h, vs_7 h, vv_8 h, vs_8 h, vv_9 h, vs_9 h, vv_11 h, vs_11 h, vv_17 h, vs_17 h, vv_18 h, vs_18 h, vj_3 h, vj_4 h, vj_5 h, ex_some, ex_def, all_def, true_and, and_true, Nat.reduceLT, exists_eq_left, Option.some.injEq, exists_eq_left', e1, u4, u5]
      have o1 : ¬ (1 : Int32) = 0 := by decide
      have een : nI (oB s j) + nI (dur E j) = nI (endN E s j) := by rw [nI_add]; rfl
      by_cases hp : 0 < E 1 20 j
      · have hp' : ¬ E 1 20 j ≤ 0 := i_nle.mpr hp
        rw [if_pos hp] at d1
        simp only [hp', not_false_eq_true, true_implies, not_true_eq_false, false_implies, true_and, and_true, false_and, and_false, forall_const, imp_self, implies_true, if_true, if_false, eq_self, Bool.true_eq_false, Bool.false_eq_true, false_or, or_false, true_or, or_true, o1]
        simp only [d1, een]
        exact go
      · have hp' : E 1 20 j ≤ 0 := i_nlt.mp hp
        rw [if_neg hp] at d1
        simp only [hp', not_false_eq_true, true_implies, not_true_eq_false, false_implies, true_and, and_true, false_and, and_false, forall_const, imp_self, implies_true, if_true, if_false, eq_self, Bool.true_eq_false, Bool.false_eq_true, false_or, or_false, true_or, or_true, o1]
        simp only [d1, een]
        exact go
theorem p_next {Q : Int32 → Hp → Prop} {d : Nat} (hd : d ≤ 1000000) (hr : rx A B S nc nw nm nj cw jc od E J0 R0 I J R) (hw : wf E nj nw cw jc s) (hc : cR A E nc nj cw od s I J R) (hQ : ∀ m, nxt E nj s d m → Q (nI m) (hq A B S I J R)) : wp_X8_nextMinute (hq A B S I J R) (A 0 4) (nI d) Q :=
  p_next_L hd hr hw hc hQ nw 0 FU d (by omega) (by have := hr.2.1.1.2.1; unfold FU; omega) (Nat.le_refl _) (fun k _ _ q => by omega) (Or.inl rfl)
end IT
