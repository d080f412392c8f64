def nevs (nj : Nat) (s : Rs) : Rs := par s (fun k => decide (k < nj ∧ oS s k = 0)) (fun _ => 5)
def cans (E : FI) (nj : Nat) (s : Rs) : Rs := par s (fun k => decide (k < nj ∧ oS s k = 0 ∧ ∃ m, m < nj ∧ E 1 11 (200 * k + m) = 1 ∧ oS s m = 2 ∧ oE s m = oM s)) (fun _ => 3)
def ansW (nj : Nat) (s : Rs) : Int32 := if cntN nj (fun j => oS s j == 1) = nj then 0 else 1
section OF
variable {A : Nat → Nat → Nat} {B : Nat → Nat × Nat} {S : Hp} {nc nw nm nj : Nat} {cw jc : Nat → Nat} {I : FI} {J : FJ} {R : FR} {xs : Nat → Int32} {L : Nat} {l4 : Int32}
variable {E : FI} {J0 : FJ} {R0 : FR} {od : Nat → Nat} {s : Rs} {j x : Nat} {Q : Hp → Prop}
theorem ahd_ne {pr : Nat → Int32} {a b : Nat} (h : ahd jc pr a b) : a ≠ b := fun e => by
  subst e
  unfold ahd at h
  rcases h with h | ⟨-, h | ⟨-, h⟩⟩
  · omega
  · exact Int32.lt_irrefl h
  · omega
theorem rx.oi (h : rx A B S nc nw nm nj cw jc od E J0 R0 I J R) {a b : Nat} (ha : a < nj) (hb : b < nj) (e : od a = od b) : a = b := by
  rcases Nat.lt_trichotomy a b with q | q | q
  · exact absurd e (ahd_ne (h.2.2.2.2.1 a b q hb))
  · exact q
  · exact absurd e.symm (ahd_ne (h.2.2.2.2.1 b a q ha))
theorem off6 (hx : x = 3 ∨ x = 5) (h0 : oS s j = 0) (i : Nat) : oS (mv s j x) i = 6 ↔ oS s i = 6 := by
  by_cases e : i = j
  · rw [e, mv_s, h0]; omega
  · rw [mv_o e]
theorem fre_off (hx : x = 3 ∨ x = 5) (h0 : oS s j = 0) (w : Nat) : fre nj (mv s j x) w = fre nj s w := by
  rw [Bool.eq_iff_iff, fre_t, fre_t]
  simp only [off6 hx h0]; exact Iff.rfl
/-- job j, not begun, is put off as x -/
theorem p_off (hr : rx A B S nc nw nm nj cw jc od E J0 R0 I J R) (hw : wf E nj nw cw jc s) (hc : cR A E nc nj cw od s I J R) (hj : j < nj) (h0 : oS s j = 0) (hx : x = 3 ∨ x = 5) {k : Nat} (hk : k = evk x) (hQ : ∀ I' J', rx A B S nc nw nm nj cw jc od E J0 R0 I' J' R → J' 0 20 = J 0 20 → I' 0 4 16 = I 0 4 16 → I' 0 4 14 = I 0 4 14 → cR A E nc nj cw od (mv s j x) I' J' R → Q (hq A B S I' J' R)) : wp_X3_put (hq A B S (up3 I 16 j 0 (nI x)) J R) (A 0 21) (nI (oM s)) (nI k) (nI j) Q := by
  have h := hr.1
  have n4 : nj ≤ 200 := hr.2.1.1.2.2.2.1
  obtain ⟨q1, q2, q3, q4, q5, ⟨q6, q7, q8, v, q9, q10⟩, q11, q12, q13⟩ := hc
  have bx : bgn x = false := by rcases hx with rfl | rfl <;> rfl
  have ex : edd x = false := by rcases hx with rfl | rfl <;> rfl
  have b0 : bgn (oS s j) = false := by rw [h0]; rfl
  have e0 : edd (oS s j) = false := by rw [h0]; rfl
  subst hk
  refine p_evj h (s := s) (s' := mv s j x) (k := evk x) (m := oM s) (by exact q12) n4 hj (by rw [h0]; decide) hw.2.2.2.2.2.2 (evk_lt (by omega)) (ev_new n4 hw.1 hj (Or.inl h0) (evk_lt (by omega)) (by omega)) (evs_mv hj (b := 1) (by rw [h0]; rcases hx with rfl | rfl <;> rfl)) (fun z => ev_mv hj (Or.inl h0) (by rw [bx, b0]) (by omega) z) (fun v' f he => ?_)
  refine hQ _ _ (hr.fx ?_) rfl rfl rfl ⟨fun i hi => ?_, fun y hy => ?_, fun w hw32 => ?_, fun c hc => ?_, fun m hm => ?_, ⟨?_, ?_, ?_, v, q9, ?_⟩, cQu_mv q11 (by omega), he, q13⟩
  · repeat (first | exact hr.2.2.1 | refine Fx.I ?_ rfl | refine Fx.J ?_ rfl | refine Fx.R ?_ rfl | refine Fx.JR ?_ (fun _ => rfl))
  · obtain ⟨a1, a2, a3, a4, a5, a6, a7, a8⟩ := q1 i hi
    rw [wts_mv (Or.inl (by omega))]
    by_cases e : i = j
    · subst e
      have c0 : cS x = nI x := by unfold cS; rw [if_neg (by omega)]
      have g1 : bgI (mv s i x) i = bgI s i := by unfold bgI; rw [mv_s, bx, b0]; rfl
      have g2 : emI (mv s i x) i = emI s i := by unfold emI; rw [mv_s, ex, e0]; rfl
      have g3 : wkI (mv s i x) i = wkI s i := by unfold wkI; rw [mv_s, bx, b0]; rfl
      have g4 : faI (mv s i x) i = faI s i := by unfold faI; rw [mv_s, ex, e0]; rfl
      have g5 : noI E (mv s i x) i = noI E s i := by unfold noI; rw [mv_s, h0, if_neg (by omega), if_neg (by omega)]
      have g6 : fkI E (mv s i x) i = fkI E s i := by unfold fkI; rw [mv_s, h0, if_neg (by omega), if_neg (by omega)]
      rw [mv_s, c0, g1, g2, g3, g4, g5, g6]
      simp [up3, a2, a3, a4, a5, a6, a7, a8]
    · rw [mv_o e, bgI_o e, emI_o e, wkI_o e, faI_o e, noI_o e, fkI_o e]
      simp [up3, e]
      exact ⟨a1, a2, a3, a4, a5, a6, a7, a8⟩
  · have d1 : dlt E s y j = 0 := by unfold dlt; rw [h0]; simp
    have d2 : dlt E (mv s j x) y j = 0 := by unfold dlt; rw [mv_s, if_neg (by omega), if_neg (by omega), if_neg (by omega)]
    rw [lft_mv hj, d1, d2, ← q2 y hy]
    show J 0 14 y = J 0 14 y + (0 - 0)
    grind
  · rw [fre_off hx h0]
    rcases q3 w hw32 with q | ⟨i, y1, y2, y3, y4⟩
    · exact Or.inl q
    · exact Or.inr ⟨i, y1, (off6 hx h0 i).mpr y2, y3, y4⟩
  · simp only [fre_off hx h0]; exact q4 c hc
  · show jb (J 0 4 17) m = true ↔ _
    rw [q5 m hm]
    unfold bsy
    simp only [off6 hx h0]
  · have := cnt_mv (s := s) (x := x) hj (fun y => y == 6)
    simp only [h0, show (x == 6) = false from beq_eq_false_iff_ne.mpr (by omega), show ((0 : Nat) == 6) = false from rfl, Bool.false_eq_true, if_false, Nat.add_zero] at this
    rw [this]; exact q6
  · have := cnt_mv (s := s) (x := x) hj (fun y => y == 1)
    simp only [h0, show (x == 1) = false from beq_eq_false_iff_ne.mpr (by omega), show ((0 : Nat) == 1) = false from rfl, Bool.false_eq_true, if_false, Nat.add_zero] at this
    rw [this]; exact q7
  · have := cnt_mv (s := s) (x := x) hj (fun y => y == 2)
    simp only [h0, show (x == 2) = false from beq_eq_false_iff_ne.mpr (by omega), show ((0 : Nat) == 2) = false from rfl, Bool.false_eq_true, if_false, Nat.add_zero] at this
    rw [this]; exact q8
  · obtain ⟨p1, p2⟩ := q10
    refine ⟨fun i hi ed => ?_, ?_⟩
    · by_cases e : i = j
      · rw [e, mv_s, ex] at ed; cases ed
      · rw [mv_o e] at ed; rw [mv_eo e]; exact p1 i hi ed
    · rcases p2 with p2 | ⟨i, hi, ed, p2⟩
      · exact Or.inl p2
      · have e : ¬ i = j := fun z => by rw [z, e0] at ed; cases ed
        exact Or.inr ⟨i, hi, by rw [mv_o e]; exact ed, by rw [mv_eo e]; exact p2⟩
/-- turnAway -/
theorem p_turn (hr : rx A B S nc nw nm nj cw jc od E J0 R0 I J R) (hw : wf E nj nw cw jc s) (hc : cR A E nc nj cw od s I J R) (hj : j < nj) (h0 : oS s j = 0) (hQ : ∀ I' J', rx A B S nc nw nm nj cw jc od E J0 R0 I' J' R → J' 0 20 = J 0 20 → I' 0 4 16 = I 0 4 16 → I' 0 4 14 = I 0 4 14 → cR A E nc nj cw od (mv s j 5) I' J' R → Q (hq A B S I' J' R)) : wp_X8_turnAway (hq A B S I J R) (A 0 4) (some (A 3 j)) Q := by
  have h := hr.1
  have u2 := (hr.jo hj).2.1
  have now : I 0 4 10 = nI (oM s) := hc.2.2.2.2.2.2.2.2.1
  unfold wp_X8_turnAway
  simp only [fr_4 h, fr_21 h, fj_3 h hj, fj_16 h hj, hi_q h, hj_q h, si_q h, sj_q h, vv_5 h, vs_5 h, vv_7 h, vs_7 h, vv_8 h, vs_8 h, vv_9 h, vs_9 h, vv_11 h, vs_11 h, vv_17 h, vs_17 h, vv_18 h, vs_18 h, vj_3 h, vj_4 h, vj_5 h, ex_some, ex_def, all_def, true_and, and_true, Nat.reduceLT, exists_eq_left, Option.some.injEq, exists_eq_left']
  have e1 : up3 I 16 j 0 5 0 4 10 = nI (oM s) := now
  have e2 : up3 I 16 j 0 5 3 j 0 = nI j := u2
  rw [e1, e2]
  exact p_off (x := 5) (k := 6) hr hw hc hj h0 (Or.inr rfl) rfl hQ
/-- those in the queue that have not begun -/
def quP (od qp : Nat → Nat) (C : Nat → Prop) [DecidablePred C] (t : Nat) : Nat → Bool := fun k => decide ((∃ t', t' < t ∧ od (qp t') = k) ∧ C k)
theorem p_give_L {n : Nat} {qp : Nat → Nat} {K : Hp → Prop} {Q2 : Hp → Prop} (hw : wf E nj nw cw jc s) (hq1 : ∀ t, t < n → qp t < nj ∧ R 0 18 t = some (A 3 (od (qp t))) ∧ oS s (od (qp t)) ≠ 6) (hq2 : ∀ t t', t < t' → t' < n → qp t < qp t') (hn : n ≤ nj) (M : Nat → Int64) : ∀ (r t fu : Nat) (I : FI) (J : FJ), t + r = n → r < fu → rx A B S nc nw nm nj cw jc od E J0 R0 I J R → wf E nj nw cw jc (par s (quP od qp (fun k => oS s k = 0) t) (fun _ => 5)) → cR A E nc nj cw od (par s (quP od qp (fun k => oS s k = 0) t) (fun _ => 5)) I J R → I 0 4 14 = nI n → J 0 20 = M → (∀ I' J', rx A B S nc nw nm nj cw jc od E J0 R0 I' J' R → wf E nj nw cw jc (par s (quP od qp (fun k => oS s k = 0) n) (fun _ => 5)) → cR A E nc nj cw od (par s (quP od qp (fun k => oS s k = 0) n) (fun _ => 5)) I' J' R → J' 0 20 = M → K (hq A B S I' J' R)) → wp_X8_giveUp_L2 (A 0 4) K Q2 fu (hq A B S I J R) (nI t) := by
  intro r
  induction r with
  | zero =>
    intro t fu I J ht hf hr hwi hc hqn hM hK
    obtain ⟨fu, rfl⟩ : ∃ z, fu = z + 1 := ⟨fu - 1, by omega⟩
    have h := hr.1
    have htn : t = n := by omega
    subst htn
    rw [wp_X8_giveUp_L2]
    simp only [fr_4 h, hi_q h, hj_q h, si_q h, sj_q h, vv_5 h, vs_5 h, vv_7 h, vs_7 h, vv_8 h, vs_8 h, vv_9 h, vs_9 h, vv_11 h, vs_11 h, vv_17 h, vs_17 h, vv_18 h, vs_18 h, vj_3 h, vj_4 h, vj_5 h, ex_some, ex_def, all_def, true_and, and_true, Nat.reduceLT, hqn]
    exact ⟨fun _ => hK I J hr hwi hc hM, fun z => absurd (Int32.le_refl _) z⟩
  | succ r ih =>
    intro t fu I J ht hf hr hwi hc hqn hM hK
    obtain ⟨fu, rfl⟩ : ∃ z, fu = z + 1 := ⟨fu - 1, by omega⟩
    have h := hr.1
    have n4 : nj ≤ 200 := hr.2.1.1.2.2.2.1
    have htn : t < n := by omega
    obtain ⟨g1, g2, g3⟩ := hq1 t htn
    have hj := (hr.2.2.2.1 (qp t) g1).1
    have e0 : ¬ nI n ≤ nI t := by rw [nI_leI (by omega) (by omega)]; omega
    have np : ¬ ∃ t', t' < t ∧ od (qp t') = od (qp t) := fun ⟨t', a, b⟩ => by
      have := hr.oi (hq1 t' (by omega)).1 g1 b
      have := hq2 t' t a htn
      omega
    have os : oS (par s (quP od qp (fun k => oS s k = 0) t) (fun _ => 5)) (od (qp t)) = oS s (od (qp t)) := by
      show (if quP od qp (fun k => oS s k = 0) t (od (qp t)) = true then 5 else oS s (od (qp t))) = _
      rw [if_neg (by unfold quP; simp only [decide_eq_true_eq]; exact fun z => np z.1)]
    have tr := (hc.1 (od (qp t)) hj).1
    rw [os] at tr
    have sp : ∀ k, (∃ t', t' < t + 1 ∧ od (qp t') = k) ↔ ((∃ t', t' < t ∧ od (qp t') = k) ∨ k = od (qp t)) := fun k => ⟨fun ⟨t', a, b⟩ => by
      by_cases q : t' = t
      · exact Or.inr (by rw [← b, q])
      · exact Or.inl ⟨t', by omega, b⟩, fun z => z.elim (fun ⟨t', a, b⟩ => ⟨t', by omega, b⟩) (fun e => ⟨t, by omega, e.symm⟩)⟩
    rw [wp_X8_giveUp_L2]
    simp only [fr_4 h, fr_18 h, fj_3 h hj, fj_16 h hj, hi_q h, hj_q h, si_q h, sj_q h, vv_5 h, vs_5 h, vv_7 h, vs_7 h, vv_8 h, vs_8 h, vv_9 h, vs_9 h, vv_11 h, vs_11 h, vv_17 h, vs_17 h, vv_18 h, vs_18 h, vj_3 h, vj_4 h, vj_5 h, ex_some, ex_def, all_def, true_and, and_true, Nat.reduceLT, exists_eq_left, Option.some.injEq, exists_eq_left', hqn, e0, not_false_eq_true, true_implies, not_true_eq_false, false_implies, true_and, and_true, false_and, and_false, forall_const, imp_self, implies_true, if_true, if_false, eq_self, Bool.true_eq_false, Bool.false_eq_true, false_or, or_false, true_or, or_true, nI_clamp (show t < 2 ^ 31 by omega), vin (show t < 200 by omega) (show 200 < 2 ^ 31 by decide), g2, ← nI_succ]
    by_cases z : oS s (od (qp t)) = 0
    · have e : par s (quP od qp (fun k => oS s k = 0) (t + 1)) (fun _ => 5) = mv (par s (quP od qp (fun k => oS s k = 0) t) (fun _ => 5)) (od (qp t)) 5 := par_mv (v := fun _ => 5) (fun k => by
        unfold quP
        rw [← Bool.decide_or, decide_eq_decide, sp k]
        constructor
        · rintro ⟨a | a, b⟩
          · exact Or.inl ⟨a, b⟩
          · exact Or.inr a
        · rintro (⟨a, b⟩ | a)
          · exact ⟨Or.inl a, b⟩
          · exact ⟨Or.inr a, by rw [a]; exact z⟩)
      have tz : I 16 (od (qp t)) 0 = 0 := by rw [tr, z]; rfl
      simp only [tz, not_false_eq_true, true_implies, not_true_eq_false, false_implies, true_and, and_true, false_and, and_false, forall_const, imp_self, implies_true, if_true, if_false, eq_self, Bool.true_eq_false, Bool.false_eq_true, false_or, or_false, true_or, or_true, fj_3 h hj, fj_16 h hj, hi_q h, hj_q h, si_q h, sj_q h, vv_5 h, vs_5 h, vv_7 h, vs_7 h, vv_8 h, vs_8 h, vv_9 h, vs_9 h, vv_11 h, vs_11 h, vv_17 h, vs_17 h, vv_18 h, vs_18 h, vj_3 h, vj_4 h, vj_5 h, ex_some, ex_def, all_def, true_and, and_true, Nat.reduceLT, exists_eq_left, Option.some.injEq, exists_eq_left']
      refine p_turn hr hwi hc hj (os.trans z) (fun I' J' r1 r2 r3 r4 r5 => ih (t + 1) fu I' J' (by omega) (by omega) r1 ?_ ?_ (r4.trans hqn) (r2.trans hM) hK)
      · rw [e]; exact wf_mv hwi (by decide) (fun q => absurd q (by decide))
      · rw [e]; exact r5
    · have e : par s (quP od qp (fun k => oS s k = 0) (t + 1)) (fun _ => 5) = par s (quP od qp (fun k => oS s k = 0) t) (fun _ => 5) := par_cg (fun k => by
        unfold quP
        rw [decide_eq_decide, sp k]
        constructor
        · rintro ⟨a | a, b⟩
          · exact ⟨a, b⟩
          · rw [a] at b; exact absurd b z
        · rintro ⟨a, b⟩; exact ⟨Or.inl a, b⟩)
      have tz : ¬ I 16 (od (qp t)) 0 = 0 := by
        rw [tr]; unfold cS; rw [if_neg g3]
        intro q
        rw [nI_zero (by have := hw.1 _ hj; omega)] at q
        exact z q
      simp only [tz, not_false_eq_true, true_implies, not_true_eq_false, false_implies, true_and, and_true, false_and, and_false, forall_const, imp_self, implies_true, if_true, if_false, eq_self, Bool.true_eq_false, Bool.false_eq_true, false_or, or_false, true_or, or_true]
      exact ih (t + 1) fu I J (by omega) (by omega) hr (by rw [e]; exact hwi) (by rw [e]; exact hc) hqn hM hK
end OF
