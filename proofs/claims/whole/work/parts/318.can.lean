/-- job k leans on one that failed in this minute -/
abbrev lnf (E : FI) (nj : Nat) (s : Rs) (k : Nat) : Prop := ∃ m, m < nj ∧ E 1 11 (200 * k + m) = 1 ∧ oS s m = 2 ∧ oE s m = oM s
section CN
variable {A : Nat → Nat → Nat} {B : Nat → Nat × Nat} {S : Hp} {nc nw nm nj : Nat} {cw jc : Nat → Nat} {I : FI} {J : FJ} {R : FR} {xs : Nat → Int32} {L : Nat} {l4 : Int32}
variable {E : FI} {J0 : FJ} {R0 : FR} {od : Nat → Nat} {s : Rs} {j x : Nat} {Q : Hp → Prop}
theorem qu_all {n : Nat} {qp : Nat → Nat} {C : Nat → Prop} [DecidablePred C] {v : Nat → Nat} (hr : rx A B S nc nw nm nj cw jc od E J0 R0 I J R) (hq1 : ∀ t, t < n → qp t < nj) (hq3 : ∀ u, u < nj → oS s (od u) = 0 → ∃ t, t < n ∧ qp t = u) : par s (quP od qp (fun k => oS s k = 0 ∧ C k) n) v = par s (fun k => decide (k < nj ∧ oS s k = 0 ∧ C k)) v := par_cg (fun k => by
  unfold quP
  rw [decide_eq_decide]
  constructor
  · rintro ⟨⟨t, a, b⟩, c⟩
    exact ⟨by rw [← b]; exact (hr.2.2.2.1 (qp t) (hq1 t a)).1, c⟩
  · rintro ⟨a, c⟩
    obtain ⟨u, hu, eu⟩ := hr.2.2.2.2.2 k a
    obtain ⟨t, ht, et⟩ := hq3 u hu (by rw [eu]; exact c.1)
    exact ⟨⟨t, ht, by rw [et, eu]⟩, c⟩)
theorem p_give (hr : rx A B S nc nw nm nj cw jc od E J0 R0 I J R) (hw : wf E nj nw cw jc s) (hc : cR A E nc nj cw od s I J R) (hQ : ∀ I' J', rx A B S nc nw nm nj cw jc od E J0 R0 I' J' R → wf E nj nw cw jc (nevs nj s) → cR A E nc nj cw od (nevs nj s) I' J' R → I' 0 4 9 = ansW nj s → Q (hq A B S I' J' R)) : wp_X8_giveUp (hq A B S I J R) (A 0 4) Q := by
  have h := hr.1
  have n4 : nj ≤ 200 := hr.2.1.1.2.2.2.1
  obtain ⟨n, qp, k1, k2, k3, k4, k5⟩ := hc.2.2.2.2.2.2.1
  have e0 : par s (quP od qp (fun k => oS s k = 0) 0) (fun _ => 5) = s := par_0 (fun k => by unfold quP; exact decide_eq_false (fun ⟨⟨t, a, _⟩, _⟩ => by omega))
  have e1 : par s (quP od qp (fun k => oS s k = 0) n) (fun _ => 5) = nevs nj s := by
    have e := qu_all (C := fun _ => True) (v := fun _ => 5) hr (fun t ht => (k3 t ht).1) k5
    refine ((par_cg (fun k => ?_)).trans e).trans (par_cg (fun k => ?_))
    · unfold quP; rw [decide_eq_decide]; simp
    · rw [decide_eq_decide]; simp
  unfold wp_X8_giveUp
  refine p_give_L (Q2 := Q) hw k3 k4 k2 (J 0 20) n 0 FU I J (by omega) (by unfold FU; omega) hr (by rw [e0]; exact hw) (by rw [e0]; exact hc) k1 rfl (fun I' J' r1 r2 r3 r4 => ?_)
  rw [e1] at r2 r3
  have c7 : I' 0 1 7 = nI nj := r1.st.2.1.2.2.2.1
  have c12 : I' 0 4 12 = nI (cntN nj (fun j => oS (nevs nj s) j == 1)) := r3.2.2.2.2.2.1.2.1
  have ec : cntN nj (fun j => oS (nevs nj s) j == 1) = cntN nj (fun j => oS s j == 1) := cntN_cg (fun i hi => by
    show ((if decide (i < nj ∧ oS s i = 0) = true then 5 else oS s i) == 1) = _
    by_cases z : oS s i = 0
    · simp [z, hi]
    · simp [z])
  have lc := cntN_le (fun j => oS s j == 1) nj
  have e2 : nI (cntN nj (fun j => oS s j == 1)) = nI nj ↔ cntN nj (fun j => oS s j == 1) = nj := nI_eq (by omega) (by omega)
  rw [ec] at c12
  simp only [fr_4 h, fr_1 h, hi_q h, hj_q h, si_q h, sj_q h, vv_5 h, vs_5 h, vv_7 h, vs_7 h, vv_8 h, vs_8 h, vv_9 h, vs_9 h, vv_11 h, vs_11 h, vv_17 h, vs_17 h, vv_18 h, vs_18 h, vj_3 h, vj_4 h, vj_5 h, ex_some, ex_def, all_def, true_and, and_true, Nat.reduceLT, c7, c12, e2]
  refine ⟨fun z => hQ _ _ (r1.fx (r1.2.2.1.I rfl)) r2 r3 ?_, fun z => hQ _ _ (r1.fx (r1.2.2.1.I rfl)) r2 r3 ?_⟩
  · rw [up3_same]; unfold ansW; rw [if_pos z]
  · rw [up3_same]; unfold ansW; rw [if_neg z]
theorem p_forg (h : Sh A B S nj nc) (hQ : ∀ f, (∀ i, i < 256 → jb (f (i / 64)) (i % 64) = false) → Q (hq A B S (up3 I 0 4 16 0) (upR J 0 20 f) R)) : wp_X8_forgetMarks (hq A B S I J R) (A 0 4) Q := by
  unfold wp_X8_forgetMarks
  simp only [fr_4 h, fr_19 h, hi_q h, hj_q h, si_q h, sj_q h, vv_5 h, vs_5 h, vv_7 h, vs_7 h, vv_8 h, vs_8 h, vv_9 h, vs_9 h, vv_11 h, vs_11 h, vv_17 h, vs_17 h, vv_18 h, vs_18 h, vj_3 h, vj_4 h, vj_5 h, ex_some, ex_def, all_def, true_and, and_true, Nat.reduceLT]
  refine p_clear ⟨(fr_19 h _ _ _).1, (fr_19 h _ _ _).2, (fr_20 h _ _ _).1, (fr_20 h _ _ _).2⟩ (fun f hf => ?_)
  rw [sWJ_q h (by decide)]
  simp only [fr_4 h, hi_q h, hj_q h, si_q h, sj_q h, vv_5 h, vs_5 h, vv_7 h, vs_7 h, vv_8 h, vs_8 h, vv_9 h, vs_9 h, vv_11 h, vs_11 h, vv_17 h, vs_17 h, vv_18 h, vs_18 h, vj_3 h, vj_4 h, vj_5 h, ex_some, ex_def, all_def, true_and, and_true, Nat.reduceLT]
  exact hQ f hf
theorem rx.ln (h : rx A B S nc nw nm nj cw jc od E J0 R0 I J R) (hj : j < nj) {k : Nat} (hk : k < 256) : jb (J 7 j (k / 64)) (k % 64) = true ↔ k < nj ∧ E 1 11 (200 * j + k) = 1 := by
  rw [h.jv (c := 7) rfl, h.2.1.2.2.2.2.2.2.1.1 j k hj hk]; simp
theorem p_can_L {n : Nat} {qp : Nat → Nat} (hw : wf E nj nw cw jc s) (hq1 : ∀ t, t < n → qp t < nj ∧ R 0 18 t = some (A 3 (od (qp t))) ∧ oS s (od (qp t)) ≠ 6) (hq2 : ∀ t t', t < t' → t' < n → qp t < qp t') (hn : n ≤ nj) (M : Nat → Int64) (hM2 : ∀ k, k < 256 → (jb (M (k / 64)) (k % 64) = true ↔ mks nj s k)) : ∀ (r t fu : Nat) (I : FI) (J : FJ), t + r = n → r < fu → rx A B S nc nw nm nj cw jc od E J0 R0 I J R → wf E nj nw cw jc (par s (quP od qp (fun k => oS s k = 0 ∧ lnf E nj s k) t) (fun _ => 3)) → cR A E nc nj cw od (par s (quP od qp (fun k => oS s k = 0 ∧ lnf E nj s k) t) (fun _ => 3)) I J R → I 0 4 14 = nI n → J 0 20 = M → (∀ I' J', rx A B S nc nw nm nj cw jc od E J0 R0 I' J' R → wf E nj nw cw jc (par s (quP od qp (fun k => oS s k = 0 ∧ lnf E nj s k) n) (fun _ => 3)) → cR A E nc nj cw od (par s (quP od qp (fun k => oS s k = 0 ∧ lnf E nj s k) n) (fun _ => 3)) I' J' R → wp_X8_forgetMarks (hq A B S I' J' R) (A 0 4) Q) → wp_X8_cancelLeaning_L10 (A 0 4) Q fu (hq A B S I J R) (nI t) := by
  intro r
  induction r with
  | zero =>
    intro t fu I J ht hf hr hwi hc hqn hM hK
    obtain ⟨fu, rfl⟩ : ∃ z, fu = z + 1 := ⟨fu - 1, by omega⟩
    have h := hr.1
    have htn : t = n := by omega
    subst htn
    rw [wp_X8_cancelLeaning_L10]
    simp only [fr_4 h, hi_q h, hj_q h, si_q h, sj_q h, vv_5 h, vs_5 h, vv_7 h, vs_7 h, vv_8 h, vs_8 h, vv_9 h, vs_9 h, vv_11 h, vs_11 h, vv_17 h, vs_17 h, vv_18 h, vs_18 h, vj_3 h, vj_4 h, vj_5 h, ex_some, ex_def, all_def, true_and, and_true, Nat.reduceLT, hqn]
    exact ⟨fun _ => hK I J hr hwi hc, fun z => absurd (Int32.le_refl _) z⟩
  | succ r ih =>
    intro t fu I J ht hf hr hwi hc hqn hM hK
    obtain ⟨fu, rfl⟩ : ∃ z, fu = z + 1 := ⟨fu - 1, by omega⟩
    have h := hr.1
    have n4 : nj ≤ 200 := hr.2.1.1.2.2.2.1
    have htn : t < n := by omega
    obtain ⟨g1, g2, g3⟩ := hq1 t htn
    have hj := (hr.2.2.2.1 (qp t) g1).1
    have e0 : ¬ nI n ≤ nI t := by rw [nI_leI (by omega) (by omega)]; omega
    have np : ¬ ∃ t', t' < t ∧ od (qp t') = od (qp t) := fun ⟨t', a, b⟩ => by
      have := hr.oi (hq1 t' (by omega)).1 g1 b
      have := hq2 t' t a htn
      omega
    have os : oS (par s (quP od qp (fun k => oS s k = 0 ∧ lnf E nj s k) t) (fun _ => 3)) (od (qp t)) = oS s (od (qp t)) := by
      show (if quP od qp (fun k => oS s k = 0 ∧ lnf E nj s k) t (od (qp t)) = true then 3 else oS s (od (qp t))) = _
      rw [if_neg (by unfold quP; simp only [decide_eq_true_eq]; exact fun z => np z.1)]
    have tr := (hc.1 (od (qp t)) hj).1
    rw [os] at tr
    have sp : ∀ k, (∃ t', t' < t + 1 ∧ od (qp t') = k) ↔ ((∃ t', t' < t ∧ od (qp t') = k) ∨ k = od (qp t)) := fun k => ⟨fun ⟨t', a, b⟩ => by
      by_cases q : t' = t
      · exact Or.inr (by rw [← b, q])
      · exact Or.inl ⟨t', by omega, b⟩, fun z => z.elim (fun ⟨t', a, b⟩ => ⟨t', by omega, b⟩) (fun e => ⟨t, by omega, e.symm⟩)⟩
    have skip : ¬ (oS s (od (qp t)) = 0 ∧ lnf E nj s (od (qp t))) → wp_X8_cancelLeaning_L10 (A 0 4) Q fu (hq A B S I J R) (nI (t + 1)) := fun z => by
      have e : par s (quP od qp (fun k => oS s k = 0 ∧ lnf E nj s k) (t + 1)) (fun _ => 3) = par s (quP od qp (fun k => oS s k = 0 ∧ lnf E nj s k) t) (fun _ => 3) := par_cg (fun k => by
        unfold quP
        rw [decide_eq_decide, sp k]
        constructor
        · rintro ⟨a | a, b⟩
          · exact ⟨a, b⟩
          · rw [a] at b; exact absurd b z
        · rintro ⟨a, b⟩; exact ⟨Or.inl a, b⟩)
      exact ih (t + 1) fu I J (by omega) (by omega) hr (by rw [e]; exact hwi) (by rw [e]; exact hc) hqn hM hK
    rw [wp_X8_cancelLeaning_L10]
    simp only [fr_4 h, fr_18 h, fj_3 h hj, fj_16 h hj, hi_q h, hj_q h, si_q h, sj_q h, vv_5 h, vs_5 h, vv_7 h, vs_7 h, vv_8 h, vs_8 h, vv_9 h, vs_9 h, vv_11 h, vs_11 h, vv_17 h, vs_17 h, vv_18 h, vs_18 h, vj_3 h, vj_4 h, vj_5 h, ex_some, ex_def, all_def, true_and, and_true, Nat.reduceLT, exists_eq_left, Option.some.injEq, exists_eq_left', hqn, e0, not_false_eq_true, true_implies, not_true_eq_false, false_implies, true_and, and_true, false_and, and_false, forall_const, imp_self, implies_true, if_true, if_false, eq_self, Bool.true_eq_false, Bool.false_eq_true, false_or, or_false, true_or, or_true, nI_clamp (show t < 2 ^ 31 by omega), vin (show t < 200 by omega) (show 200 < 2 ^ 31 by decide), g2, ← nI_succ]
    refine ⟨fun tz => ⟨(fj_6 h hj _ _ _).1, ?_⟩, fun tz => skip (fun z => tz (by rw [tr, z.1]; rfl))⟩
    have z : oS s (od (qp t)) = 0 := by
      rw [tr] at tz; unfold cS at tz; rw [if_neg g3, nI_zero (by have := hw.1 _ hj; omega)] at tz
      exact tz
    have meq : (∃ i, i < 256 ∧ js (hq A B S I J R) (A 7 (od (qp t))) i = true ∧ js (hq A B S I J R) (A 0 20) i = true) ↔ lnf E nj s (od (qp t)) := by
      constructor
      · rintro ⟨i, hi, a, b⟩
        rw [js_hq h (by decide)] at a b
        rw [hr.ln hj hi] at a
        rw [hM, hM2 i hi] at b
        exact ⟨i, a.1, a.2, b.2.1, b.2.2⟩
      · rintro ⟨m, a, b, c, d⟩
        refine ⟨m, by omega, ?_, ?_⟩
        · rw [js_hq h (by decide), hr.ln hj (by omega)]; exact ⟨a, b⟩
        · rw [js_hq h (by decide), hM, hM2 m (by omega)]; exact ⟨a, c, d⟩
    refine p_meets (js_j h hj) ⟨(fr_19 h _ _ _).1, (fr_19 h _ _ _).2, (fr_20 h _ _ _).1, (fr_20 h _ _ _).2⟩ (fun q => ?_) (fun q => ?_)
    · have z2 := meq.mp q
      have e : par s (quP od qp (fun k => oS s k = 0 ∧ lnf E nj s k) (t + 1)) (fun _ => 3) = mv (par s (quP od qp (fun k => oS s k = 0 ∧ lnf E nj s k) t) (fun _ => 3)) (od (qp t)) 3 := par_mv (v := fun _ => 3) (fun k => by
        unfold quP
        rw [← Bool.decide_or, decide_eq_decide, sp k]
        constructor
        · rintro ⟨a | a, b⟩
          · exact Or.inl ⟨a, b⟩
          · exact Or.inr a
        · rintro (⟨a, b⟩ | a)
          · exact ⟨Or.inl a, b⟩
          · exact ⟨Or.inr a, by rw [a]; exact ⟨z, z2⟩⟩)
      refine ⟨fun w => absurd w (by decide), fun _ => ?_⟩
      simp only [fr_4 h, fr_21 h, fj_3 h hj, fj_16 h hj, hi_q h, hj_q h, si_q h, sj_q h, vv_5 h, vs_5 h, vv_7 h, vs_7 h, vv_8 h, vs_8 h, vv_9 h, vs_9 h, vv_11 h, vs_11 h, vv_17 h, vs_17 h, vv_18 h, vs_18 h, vj_3 h, vj_4 h, vj_5 h, ex_some, ex_def, all_def, true_and, and_true, Nat.reduceLT, exists_eq_left, Option.some.injEq, exists_eq_left']
      have now : up3 I 16 (od (qp t)) 0 3 0 4 10 = nI (oM s) := hc.2.2.2.2.2.2.2.2.1
      have u2 : up3 I 16 (od (qp t)) 0 3 3 (od (qp t)) 0 = nI (od (qp t)) := (hr.jo hj).2.1
      rw [now, u2]
      refine p_off (x := 3) (k := 3) hr hwi hc hj (os.trans z) (Or.inl rfl) rfl (fun I' J' r1 r2 r3 r4 r5 => ih (t + 1) fu I' J' (by omega) (by omega) r1 ?_ ?_ (r4.trans hqn) (r2.trans hM) hK)
      · rw [e]; exact wf_mv hwi (by decide) (fun q => absurd q (by decide))
      · rw [e]; exact r5
    · exact ⟨fun _ => skip (fun z2 => q (meq.mpr z2.2)), fun w => absurd rfl w⟩
theorem p_cancel (hr : rx A B S nc nw nm nj cw jc od E J0 R0 I J R) (hw : wf E nj nw cw jc s) (hc : cR A E nc nj cw od s I J R) (hm : cMk I J (mks nj s)) (hQ : ∀ I' J', rx A B S nc nw nm nj cw jc od E J0 R0 I' J' R → wf E nj nw cw jc (cans E nj s) → cR A E nc nj cw od (cans E nj s) I' J' R → cMk I' J' (fun _ => False) → Q (hq A B S I' J' R)) : wp_X8_cancelLeaning (hq A B S I J R) (A 0 4) Q := by
  have h := hr.1
  have n4 : nj ≤ 200 := hr.2.1.1.2.2.2.1
  obtain ⟨n, qp, k1, k2, k3, k4, k5⟩ := hc.2.2.2.2.2.2.1
  have e0 : par s (quP od qp (fun k => oS s k = 0 ∧ lnf E nj s k) 0) (fun _ => 3) = s := par_0 (fun k => by unfold quP; exact decide_eq_false (fun ⟨⟨t, a, _⟩, _⟩ => by omega))
  have e1 : par s (quP od qp (fun k => oS s k = 0 ∧ lnf E nj s k) n) (fun _ => 3) = cans E nj s := by
    refine (qu_all (C := fun k => lnf E nj s k) (v := fun _ => 3) hr (fun t ht => (k3 t ht).1) k5).trans (par_cg (fun k => ?_))
    rfl
  unfold wp_X8_cancelLeaning
  simp only [fr_4 h, hi_q h, hj_q h, si_q h, sj_q h, vv_5 h, vs_5 h, vv_7 h, vs_7 h, vv_8 h, vs_8 h, vv_9 h, vs_9 h, vv_11 h, vs_11 h, vv_17 h, vs_17 h, vv_18 h, vs_18 h, vj_3 h, vj_4 h, vj_5 h, ex_some, ex_def, all_def, true_and, and_true, Nat.reduceLT]
  rcases hm.2 with ⟨p1, p2⟩ | p1
  · refine ⟨fun _ => ?_, fun z => absurd p1 z⟩
    have e2 : cans E nj s = s := par_0 (fun k => decide_eq_false (fun ⟨a, b, m, c, d, e, f⟩ => p2 m (by omega) ⟨c, e, f⟩))
    refine hQ I J hr (by rw [e2]; exact hw) (by rw [e2]; exact hc) ⟨fun k hk => ?_, Or.inl ⟨p1, fun _ _ => id⟩⟩
    rw [hm.1 k hk]; exact ⟨p2 k hk, False.elim⟩
  · refine ⟨fun z => absurd (p1.symm.trans z) (by decide), fun _ => ?_⟩
    refine p_can_L hw k3 k4 k2 (J 0 20) hm.1 n 0 FU I J (by omega) (by unfold FU; omega) hr (by rw [e0]; exact hw) (by rw [e0]; exact hc) k1 rfl (fun I' J' r1 r2 r3 => ?_)
    rw [e1] at r2 r3
    refine p_forg h (fun f hf => hQ _ _ (r1.fx ((r1.2.2.1.I rfl).JR (fun _ => rfl))) r2 r3 ⟨fun k hk => ?_, Or.inl ⟨up3_same _ _ _ _ _, fun _ _ => id⟩⟩)
    rw [up_j, hf k hk]; simp
end CN
