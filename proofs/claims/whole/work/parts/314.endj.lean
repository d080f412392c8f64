def endP (E : FI) (nj : Nat) (s : Rs) (i : Nat) : Nat → Bool := fun k => decide (k < nj ∧ oS s k = 6 ∧ endN E s k = oM s ∧ oW s k < i)
def endV (E : FI) (k : Nat) : Nat := if fkE E k = 0 then 1 else 2
def ends (E : FI) (nj : Nat) (s : Rs) : Rs := par s (fun k => decide (k < nj ∧ oS s k = 6 ∧ endN E s k = oM s)) (endV E)
def mks (nj : Nat) (s : Rs) (k : Nat) : Prop := k < nj ∧ oS s k = 2 ∧ oE s k = oM s
section EJ
variable {A : Nat → Nat → Nat} {B : Nat → Nat × Nat} {S : Hp} {nc nw nm nj : Nat} {cw jc : Nat → Nat} {I : FI} {J : FJ} {R : FR} {xs : Nat → Int32} {L : Nat} {l4 : Int32}
variable {E : FI} {J0 : FJ} {R0 : FR} {od : Nat → Nat} {s : Rs} {j x : Nat} {Q : Hp → Prop}
theorem endV_c (k : Nat) : endV E k = 1 ∨ endV E k = 2 := by unfold endV; split <;> simp
theorem rx.du (h : rx A B S nc nw nm nj cw jc od E J0 R0 I J R) (hj : j < nj) : (if 0 < E 1 20 j then E 1 20 j else E 1 8 j) = nI (dur E j) ∧ 1 ≤ dur E j ∧ dur E j ≤ 10000 := by
  obtain ⟨-, -, -, -, -, -, -, m8, m9⟩ := h.jo hj
  have h11 := h.2.1.2.2.2.2.2.2.2.2.2.2.2.1 j hj
  have key : ∀ y : Int32, 1 ≤ y.toInt → y.toInt ≤ 10000 → y = nI y.toNatClampNeg ∧ 1 ≤ y.toNatClampNeg ∧ y.toNatClampNeg ≤ 10000 := fun y a b => by
    rcases i32c y with z | ⟨k, hk, rfl⟩
    · rw [Int32.lt_iff_toInt_lt] at z
      have : (0 : Int32).toInt = 0 := rfl
      omega
    · rw [nI_clamp hk]
      rw [nI_toInt hk] at a b
      exact ⟨rfl, by omega, by omega⟩
  unfold dur
  by_cases z : 0 < E 1 20 j
  · rw [if_pos z]
    rw [Int32.lt_iff_toInt_lt] at z
    have : (0 : Int32).toInt = 0 := rfl
    exact key _ (by omega) (by omega)
  · rw [if_neg z]; exact key _ m8 m9
theorem rx.fk (h : rx A B S nc nw nm nj cw jc od E J0 R0 I J R) (hj : j < nj) (hp : ¬ 0 < E 1 20 j) {Q : Int32 → Hp → Prop} (hQ : Q (fkE E j) (hq A B S I J R)) : wp_X7_fault (hq A B S I J R) (A 14 j) Q := by
  obtain ⟨⟨n, n30, e4, e19, ex⟩, e0, e1, e2, ek⟩ := h.st.2.2.2.2.2.2.2.2.2.2.1 j hj
  refine p_fault (rc_q h.1 hj n30 e4 e0 e1 e2 ex) ek ?_
  have g : ∀ k p, I 1 k p = E 1 k p := fun k p => h.i rfl
  have en : (if E 1 19 j = -1 then 0 else (E 1 19 j).toNatClampNeg) = n := by
    rw [g] at e19
    rw [e19]
    by_cases z : n = 0
    · rw [if_pos z, if_pos rfl, z]
    · rw [if_neg z, if_neg (nI_nm1 (by omega)), nI_clamp (by omega)]
  have : bFault (I 1 15 j) (I 1 16 j) (I 1 17 j) n (fun i => I 1 18 (30 * j + i)) = fkE E j := by
    unfold fkE
    rw [if_neg hp, en]
    simp only [g]
  rw [this]; exact hQ
theorem p_ends_L : ∀ (r i fu : Nat) (I : FI) (J : FJ) (R : FR), i + r = nw → r < fu → wf E nj nw cw jc s → rx A B S nc nw nm nj cw jc od E J0 R0 I J R → wf E nj nw cw jc (par s (endP E nj s i) (endV E)) → cR A E nc nj cw od (par s (endP E nj s i) (endV E)) I J R → cMk I J (mks nj (par s (endP E nj s i) (endV E))) → (∀ I' J' R', rx A B S nc nw nm nj cw jc od E J0 R0 I' J' R' → wf E nj nw cw jc (ends E nj s) → cR A E nc nj cw od (ends E nj s) I' J' R' → cMk I' J' (mks nj (ends E nj s)) → Q (hq A B S I' J' R')) → wp_X8_endJobs_L2 (A 0 4) Q fu (hq A B S I J R) (nI i) := by
  intro r
  induction r with
  | zero =>
    intro i fu I J R hi hf hw hr hwi hc hm hQ
    obtain ⟨fu, rfl⟩ : ∃ z, fu = z + 1 := ⟨fu - 1, by omega⟩
    have h := hr.1
    have hin : i = nw := by omega
    subst hin
    have c2 : I 0 1 2 = nI i := hr.st.2.1.2.1
    have e : par s (endP E nj s i) (endV E) = ends E nj s := par_cg (fun k => by
      unfold endP
      rw [decide_eq_decide]
      exact ⟨fun ⟨a, b, c, _⟩ => ⟨a, b, c⟩, fun ⟨a, b, c⟩ => ⟨a, b, c, (hw.2.1 k a b).2.2⟩⟩)
    rw [e] at hwi hc hm
    rw [wp_X8_endJobs_L2]
    simp only [fr_4 h, fr_1 h, hi_q h, hj_q h, si_q h, sj_q h, vv_5 h, vs_5 h, vv_7 h, vs_7 h, vv_8 h, vs_8 h, vv_9 h, vs_9 h, vv_11 h, vs_11 h, vv_17 h, vs_17 h, vv_18 h, vs_18 h, vj_3 h, vj_4 h, vj_5 h, ex_some, ex_def, all_def, true_and, and_true, Nat.reduceLT, exists_eq_left, Option.some.injEq, exists_eq_left', c2]
    exact ⟨fun _ => hQ I J R hr hwi hc hm, fun z => absurd (Int32.le_refl _) z⟩
  | succ r ih =>
    intro i fu I J R hi hf hw hr hwi hc hm hQ
    obtain ⟨fu, rfl⟩ : ∃ z, fu = z + 1 := ⟨fu - 1, by omega⟩
    have h := hr.1
    have c2 : I 0 1 2 = nI nw := hr.st.2.1.2.1
    have n2 : nw ≤ 32 := hr.2.1.1.2.1
    have n4 : nj ≤ 200 := hr.2.1.1.2.2.2.1
    have e0 : ¬ nI nw ≤ nI i := by rw [nI_leI (by omega) (by omega)]; omega
    have v6 : ∀ k, oS (par s (endP E nj s i) (endV E)) k = 6 ↔ oS s k = 6 ∧ endP E nj s i k = false := fun k => by
      show (if endP E nj s i k = true then endV E k else oS s k) = 6 ↔ _
      by_cases z : endP E nj s i k = true
      · rw [if_pos z]; simp [z]; rcases endV_c (E := E) k with q | q <;> omega
      · rw [if_neg z]; simp at z; simp [z]
    rw [wp_X8_endJobs_L2]
    rcases hc.2.2.1 i (by omega) with ⟨y1, y2⟩ | ⟨j, hj, y2, y3, y4⟩
    · simp only [fr_4 h, fr_1 h, fr_17 h, hi_q h, hj_q h, si_q h, sj_q h, vv_5 h, vs_5 h, vv_7 h, vs_7 h, vv_8 h, vs_8 h, vv_9 h, vs_9 h, vv_11 h, vs_11 h, vv_17 h, vs_17 h, vv_18 h, vs_18 h, vj_3 h, vj_4 h, vj_5 h, ex_some, ex_def, all_def, true_and, and_true, Nat.reduceLT, exists_eq_left, Option.some.injEq, exists_eq_left', c2, e0, not_false_eq_true, true_implies, not_true_eq_false, false_implies, true_and, and_true, false_and, and_false, forall_const, imp_self, implies_true, if_true, if_false, eq_self, Bool.true_eq_false, Bool.false_eq_true, false_or, or_false, true_or, or_true, nI_clamp (show i < 2 ^ 31 by omega), vin (show i < 32 by omega) (show 32 < 2 ^ 31 by decide), y1, ← nI_succ]
      have e : par s (endP E nj s (i + 1)) (endV E) = par s (endP E nj s i) (endV E) := par_cg (fun k => by
        unfold endP
        rw [decide_eq_decide]
        refine ⟨fun ⟨a, b, c, d⟩ => ⟨a, b, c, ?_⟩, fun ⟨a, b, c, d⟩ => ⟨a, b, c, by omega⟩⟩
        by_cases z : oW s k = i
        · exact absurd z (fre_t.mp y2 k a ((v6 k).mpr ⟨b, by unfold endP; exact decide_eq_false (fun q => by omega)⟩))
        · omega)
      exact ih (i + 1) fu I J R (by omega) (by omega) hw hr (by rw [e]; exact hwi) (by rw [e]; exact hc) (by rw [e]; exact hm) hQ
    · have y5 := (v6 j).mp y2
      have y3' : oW s j = i := y3
      obtain ⟨u1, u2, u3, u4, u5, u6, u7, u8, u9⟩ := hr.jo hj
      obtain ⟨d1, d2, d3⟩ := hr.du hj
      obtain ⟨a1, a2, -⟩ := hc.1 j hj
      have b6 : bgn (oS (par s (endP E nj s i) (endV E)) j) = true := by rw [y2]; rfl
      have e1 : I 16 j 1 = nI (oB s j) := by rw [a2]; unfold bgI; rw [if_pos b6]; rfl
      have b1 : oB s j ≤ oM s := hw.2.2.2.2.1 j hj (by rw [y5.1]; rfl)
      have b2 : oM s ≤ 1000000 := hw.2.2.2.2.2.2
      have now : I 0 4 10 = nI (oM s) := hc.2.2.2.2.2.2.2.2.1
      have eqm : nI (oB s j) + nI (dur E j) = nI (oM s) ↔ endN E s j = oM s := by rw [nI_add, nI_eq (by omega) (by omega)]; rfl
      have stop : ¬ endN E s j = oM s → wp_X8_endJobs_L2 (A 0 4) Q fu (hq A B S I J R) (nI (i + 1)) := fun z => by
        have e : par s (endP E nj s (i + 1)) (endV E) = par s (endP E nj s i) (endV E) := par_cg (fun k => by
          unfold endP
          rw [decide_eq_decide]
          refine ⟨fun ⟨a, b, c, d⟩ => ⟨a, b, c, ?_⟩, fun ⟨a, b, c, d⟩ => ⟨a, b, c, by omega⟩⟩
          by_cases q : oW s k = i
          · have := hw.2.2.1 k j a hj b y5.1 (q.trans y3'.symm)
            subst this; exact absurd c z
          · omega)
        exact ih (i + 1) fu I J R (by omega) (by omega) hw hr (by rw [e]; exact hwi) (by rw [e]; exact hc) (by rw [e]; exact hm) hQ
      have step : endN E s j = oM s → par s (endP E nj s (i + 1)) (endV E) = mv (par s (endP E nj s i) (endV E)) j (endV E j) := fun z => par_mv (fun k => by
        unfold endP
        rw [← Bool.decide_or, decide_eq_decide]
        constructor
        · rintro ⟨a, b, c, d⟩
          by_cases q : oW s k = i
          · exact Or.inr (hw.2.2.1 k j a hj b y5.1 (q.trans y3'.symm))
          · exact Or.inl ⟨a, b, c, by omega⟩
        · rintro (⟨a, b, c, d⟩ | q)
          · exact ⟨a, b, c, by omega⟩
          · rw [q]; exact ⟨hj, y5.1, z, by omega⟩)
      have go : endN E s j = oM s → ∀ I1 : FI, I1 = I → (fkE E j = 0 → wp_X8_finish (hq A B S I J R) (A 0 4) (some (A 3 j)) (fun S32 => wp_X8_endJobs_L2 (A 0 4) Q fu S32 (nI (i + 1)))) ∧ (¬ fkE E j = 0 → wp_X8_fail (hq A B S I J R) (A 0 4) (some (A 3 j)) (fkE E j) (fun S32 => wp_X8_endJobs_L2 (A 0 4) Q fu S32 (nI (i + 1)))) := fun z I1 _ => by
        have st := step z
        constructor
        · intro hk
          have ev : endV E j = 1 := by unfold endV; rw [if_pos hk]
          rw [ev] at st
          refine p_finish hr hwi hc hj y2 (fun I' J' R' r1 r2 r3 r4 => ih (i + 1) fu I' J' R' (by omega) (by omega) hw r1 (by rw [st]; exact wf_mv hwi (by decide) (fun _ => b6)) (by rw [st]; exact r4) ?_ hQ)
          rw [st]
          refine ⟨fun k hk => ?_, ?_⟩
          · rw [r2, hm.1 k hk]
            unfold mks
            by_cases q : k = j
            · subst q; rw [mv_s, y2]; simp
            · rw [mv_o q, mv_eo q]; rfl
          · rw [r3]
            rcases hm.2 with ⟨p1, p2⟩ | p
            · refine Or.inl ⟨p1, fun k hk w => p2 k hk ?_⟩
              unfold mks at w ⊢
              by_cases q : k = j
              · subst q; rw [mv_s] at w; exact absurd w.2.1 (by decide)
              · rw [mv_o q, mv_eo q] at w; exact w
            · exact Or.inr p
        · intro hk
          have ev : endV E j = 2 := by unfold endV; rw [if_neg hk]
          rw [ev] at st
          refine p_fail hr hwi hc hj y2 (fun I' J' R' r1 r2 r3 r4 => ih (i + 1) fu I' J' R' (by omega) (by omega) hw r1 (by rw [st]; exact wf_mv hwi (by decide) (fun _ => b6)) (by rw [st]; exact r4) ?_ hQ)
          rw [st]
          refine ⟨fun k hk => ?_, Or.inr r3⟩
          rw [r2, Bool.or_eq_true, hm.1 k hk, decide_eq_true_eq]
          unfold mks
          by_cases q : k = j
          · subst q; rw [mv_s, mv_e]; simp [hj]; rfl
          · rw [mv_o q, mv_eo q]; simp [q]; exact fun _ _ => Iff.rfl
      simp only [fr_4 h, fr_1 h, fr_17 h, hi_q h, hj_q h, si_q h, sj_q h, vv_5 h, vs_5 h, vv_7 h, vs_7 h, vv_8 h, vs_8 h, vv_9 h, vs_9 h, vv_11 h, vs_11 h, vv_17 h, vs_17 h, vv_18 h, vs_18 h, vj_3 h, vj_4 h, vj_5 h, ex_some, ex_def, all_def, true_and, and_true, Nat.reduceLT, exists_eq_left, Option.some.injEq, exists_eq_left', c2, e0, not_false_eq_true, true_implies, not_true_eq_false, false_implies, true_and, and_true, false_and, and_false, forall_const, imp_self, implies_true, if_true, if_false, eq_self, Bool.true_eq_false, Bool.false_eq_true, false_or, or_false, true_or, or_true, nI_clamp (show i < 2 ^ 31 by omega), vin (show i < 32 by omega) (show 32 < 2 ^ 31 by decide), y4, ← nI_succ, reduceCtorEq]
      unfold wp_X4_endMinute wp_X4_hasPlan
      simp only [fj_3 h hj, fj_16 h hj, fr_4 h, hi_q h, hj_q h, si_q h, sj_q h, vv_5 h, vs_5 h, vv_7 h, vs_7 h, vv_8 h, vs_8 h, vv_9 h, vs_9 h, vv_11 h, vs_11 h, vv_17 h, vs_17 h, vv_18 h, vs_18 h, vj_3 h, vj_4 h, vj_5 h, ex_some, ex_def, all_def, true_and, and_true, Nat.reduceLT, exists_eq_left, Option.some.injEq, exists_eq_left', e1, u4, u5, now]
      have o1 : ¬ (1 : Int32) = 0 := by decide
      by_cases hp : 0 < E 1 20 j
      · have hp' : ¬ E 1 20 j ≤ 0 := i_nle.mpr hp
        rw [if_pos hp] at d1
        have fk : I 3 j 12 = fkE E j := by unfold fkE; rw [if_pos hp, u6 hp]
        simp only [hp', not_false_eq_true, true_implies, not_true_eq_false, false_implies, true_and, and_true, false_and, and_false, forall_const, imp_self, implies_true, if_true, if_false, eq_self, Bool.true_eq_false, Bool.false_eq_true, false_or, or_false, true_or, or_true, o1, fk]
        simp only [d1, eqm]
        exact ⟨fun z => go z I rfl, stop⟩
      · have hp' : E 1 20 j ≤ 0 := i_nlt.mp hp
        rw [if_neg hp] at d1
        simp only [hp', not_false_eq_true, true_implies, not_true_eq_false, false_implies, true_and, and_true, false_and, and_false, forall_const, imp_self, implies_true, if_true, if_false, eq_self, Bool.true_eq_false, Bool.false_eq_true, false_or, or_false, true_or, or_true, o1]
        simp only [d1, eqm]
        refine ⟨fun z => ⟨(fj_14 h hj _ _ _).1, hr.fk hj hp ?_⟩, stop⟩
        simp only [fr_4 h]
        exact ⟨fun q => ⟨trivial, (go z I rfl).1 q⟩, fun q => ⟨trivial, (go z I rfl).2 q⟩⟩
theorem p_ends (hr : rx A B S nc nw nm nj cw jc od E J0 R0 I J R) (hw : wf E nj nw cw jc s) (hc : cR A E nc nj cw od s I J R) (hm : cMk I J (mks nj s)) (hQ : ∀ I' J' R', rx A B S nc nw nm nj cw jc od E J0 R0 I' J' R' → wf E nj nw cw jc (ends E nj s) → cR A E nc nj cw od (ends E nj s) I' J' R' → cMk I' J' (mks nj (ends E nj s)) → Q (hq A B S I' J' R')) : wp_X8_endJobs (hq A B S I J R) (A 0 4) Q := by
  have e : par s (endP E nj s 0) (endV E) = s := par_0 (fun k => by unfold endP; exact decide_eq_false (fun q => by omega))
  refine p_ends_L nw 0 FU I J R (by omega) (by have := hr.2.1.1.2.1; unfold FU; omega) hw hr (by rw [e]; exact hw) (by rw [e]; exact hc) (by rw [e]; exact hm) hQ
end EJ
