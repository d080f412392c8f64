section MM
variable {A : Nat → Nat → Nat} {B : Nat → Nat × Nat} {S : Hp} {nc nw nm nj : Nat} {cw jc : Nat → Nat} {I : FI} {J : FJ} {R : FR} {xs : Nat → Int32} {L : Nat} {l4 : Int32}
variable {E K : FI} {L' : FJ} {od : Nat → Nat} {s : Rs} {j x d : Nat} {Q : Hp → Prop}
theorem p_eofm {Q : Int32 → Hp → Prop} (hm : mx A B S nc nw nm nj cw jc od E K L' I J R) (hr : rTr E nj s I) (hj : j < nj) (hb : bgn (oS s j) = true) (hQ : Q (nI (endN E s j)) (hq A B S I J R)) : wp_X12_endOf (hq A B S I J R) (A 0 23) (nI j) Q := by
  have h := hm.1
  have n4 := hm.n.2.2.2
  have e27 : I 1 27 j = nI (oB s j) := by rw [(hr j hj).2.1]; unfold bgI; rw [if_pos hb]
  have h3 := hm.st.2.2.2.1 j hj
  have h11 := hm.st.2.2.2.2.2.2.2.2.2.2.2.1 j hj
  rw [hm.e (k := 8) (by decide)] at h3 h11
  rw [hm.e (k := 20) (by decide)] at h11
  have du : (if 0 < E 1 20 j then E 1 20 j else E 1 8 j) = nI (dur E j) := by
    have key : ∀ y : Int32, 1 ≤ y.toInt → y = nI y.toNatClampNeg := fun y a => by
      rcases i32c y with z | ⟨k, hk, rfl⟩
      · rw [Int32.lt_iff_toInt_lt] at z
        have : (0 : Int32).toInt = 0 := rfl
        omega
      · rw [nI_clamp hk]
    unfold dur
    by_cases z : 0 < E 1 20 j
    · rw [if_pos z]
      rw [Int32.lt_iff_toInt_lt] at z
      have : (0 : Int32).toInt = 0 := rfl
      exact key _ (by omega)
    · rw [if_neg z]; exact key _ h3.2.2.2.2.2.1
  have en : nI (oB s j) + nI (dur E j) = nI (endN E s j) := by rw [nI_add]; rfl
  unfold wp_X12_endOf
  simp only [fr_23 h, fm_8 h, fm_20 h, fm_27 h, hi_q h, hj_q h, si_q h, sj_q h, vv_5 h, vs_5 h, vv_7 h, vs_7 h, vv_8 h, vs_8 h, vv_9 h, vs_9 h, vv_11 h, vs_11 h, vv_17 h, vs_17 h, vv_18 h, vs_18 h, vj_3 h, vj_4 h, vj_5 h, ex_some, ex_def, all_def, true_and, and_true, Nat.reduceLT, exists_eq_left, Option.some.injEq, exists_eq_left', nI_clamp (show j < 2 ^ 31 by omega), vin (show j < 200 by omega) (show 200 < 2 ^ 31 by decide), hm.e (show 8 < 26 by decide), hm.e (show 20 < 26 by decide), e27]
  refine ⟨fun z => ?_, fun z => ?_⟩
  · rw [if_neg (i_nlt.mpr z)] at du
    rw [du, en]; exact hQ
  · rw [if_pos (i_nle.mp z)] at du
    rw [du, en]; exact hQ
/-- the reference's loop over the jobs that end -/
theorem p_endsm {l1 : Int32} {Q2 : Int32 → Hp → Prop} {K2 : Hp → Prop} (hw0 : wf E nj nw cw jc s) (hK : ∀ I' J', mx A B S nc nw nm nj cw jc od E K L' I' J' R → wf E nj nw cw jc (ends E nj s) → rR E nj (ends E nj s) I' J' → K2 (hq A B S I' J' R)) : ∀ (r i fu : Nat) (I : FI) (J : FJ), i + r = nj → r < fu → mx A B S nc nw nm nj cw jc od E K L' I J R → wf E nj nw cw jc (par s (fun k => decide (k < i ∧ oS s k = 6 ∧ endN E s k = oM s)) (endV E)) → rR E nj (par s (fun k => decide (k < i ∧ oS s k = 6 ∧ endN E s k = oM s)) (endV E)) I J → wp_X12_goesOn_L2 (A 0 23) l1 K2 Q2 fu (hq A B S I J R) (nI i) := by
  intro r
  induction r with
  | zero =>
    intro i fu I J hi hf hm hw hr
    obtain ⟨fu, rfl⟩ : ∃ z, fu = z + 1 := ⟨fu - 1, by omega⟩
    have h := hm.1
    have : i = nj := by omega
    subst this
    rw [wp_X12_goesOn_L2]
    simp only [fr_23 h, hi_q h, hj_q h, si_q h, sj_q h, vv_5 h, vs_5 h, vv_7 h, vs_7 h, vv_8 h, vs_8 h, vv_9 h, vs_9 h, vv_11 h, vs_11 h, vv_17 h, vs_17 h, vv_18 h, vs_18 h, vj_3 h, vj_4 h, vj_5 h, ex_some, ex_def, all_def, true_and, and_true, Nat.reduceLT, hm.cn.2.2.2]
    exact ⟨fun _ => hK I J hm hw hr, fun z => absurd (Int32.le_refl _) z⟩
  | succ r ih =>
    intro i fu I J hi hf hm hw hr
    obtain ⟨fu, rfl⟩ : ∃ z, fu = z + 1 := ⟨fu - 1, by omega⟩
    have h := hm.1
    have n4 := hm.n.2.2.2
    have hj : i < nj := by omega
    have e0 : ¬ nI nj ≤ nI i := by rw [nI_leI (by omega) (by omega)]; omega
    have os : oS (par s (fun k => decide (k < i ∧ oS s k = 6 ∧ endN E s k = oM s)) (endV E)) i = oS s i := by
      rw [par_s, if_neg (fun z => by have := of_decide_eq_true z; omega)]
    have e26 : I 1 26 i = nI (oS s i) := by rw [(hr.1 i hj).1, os]
    have e6 : nI (oS s i) = 6 ↔ oS s i = 6 := by rw [show (6 : Int32) = nI 6 from rfl, nI_eq (by have := hw0.1 i hj; omega) (by decide)]
    have skip : ¬ (oS s i = 6 ∧ endN E s i = oM s) → wp_X12_goesOn_L2 (A 0 23) l1 K2 Q2 fu (hq A B S I J R) (nI (i + 1)) := fun z => by
      have e : par s (fun k => decide (k < i + 1 ∧ oS s k = 6 ∧ endN E s k = oM s)) (endV E) = par s (fun k => decide (k < i ∧ oS s k = 6 ∧ endN E s k = oM s)) (endV E) := par_cg (fun k => by
        rw [decide_eq_decide]
        constructor
        · rintro ⟨a, b⟩
          have : k ≠ i := fun q => z (by rw [← q]; exact b)
          exact ⟨by omega, b⟩
        · rintro ⟨a, b⟩; exact ⟨by omega, b⟩)
      exact ih (i + 1) fu I J (by omega) (by omega) hm (by rw [e]; exact hw) (by rw [e]; exact hr)
    rw [wp_X12_goesOn_L2]
    simp only [fr_23 h, fm_26 h, hi_q h, hj_q h, si_q h, sj_q h, vv_5 h, vs_5 h, vv_7 h, vs_7 h, vv_8 h, vs_8 h, vv_9 h, vs_9 h, vv_11 h, vs_11 h, vv_17 h, vs_17 h, vv_18 h, vs_18 h, vj_3 h, vj_4 h, vj_5 h, ex_some, ex_def, all_def, true_and, and_true, Nat.reduceLT, exists_eq_left, Option.some.injEq, exists_eq_left', hm.cn.2.2.2, e0, not_false_eq_true, true_implies, not_true_eq_false, false_implies, true_and, and_true, false_and, and_false, forall_const, imp_self, implies_true, if_true, if_false, eq_self, Bool.true_eq_false, Bool.false_eq_true, false_or, or_false, true_or, or_true, nI_clamp (show i < 2 ^ 31 by omega), vin (show i < 200 by omega) (show 200 < 2 ^ 31 by decide), e26, e6, ← nI_succ]
    refine ⟨fun z => p_eofm hm hr.1 hj (by rw [os, z]; rfl) ?_, fun z => skip (fun q => z q.1)⟩
    have mi : I 0 23 24 = nI (oM s) := hr.2.2.2.2.2.2.1
    have bb : oB s i ≤ oM s := hw0.2.2.2.2.1 i hj (by rw [z]; rfl)
    have mM : oM s ≤ 1000000 := hw0.2.2.2.2.2.2
    have dd : dur E i ≤ 10000 := by
      have h3 := hm.st.2.2.2.1 i hj
      have h11 := hm.st.2.2.2.2.2.2.2.2.2.2.2.1 i hj
      rw [hm.e (k := 8) (by decide)] at h3 h11
      rw [hm.e (k := 20) (by decide)] at h11
      unfold dur
      have key : ∀ y : Int32, y.toInt ≤ 10000 → y.toNatClampNeg ≤ 10000 := fun y a => by
        rcases i32c y with q | ⟨k, hk, rfl⟩
        · have : y.toNatClampNeg = 0 := by
            rw [Int32.lt_iff_toInt_lt] at q
            have : (0 : Int32).toInt = 0 := rfl
            unfold Int32.toNatClampNeg
            omega
          omega
        · rw [nI_clamp hk]; rw [nI_toInt hk] at a; omega
      by_cases z : 0 < E 1 20 i
      · rw [if_pos z]; exact key _ (by omega)
      · rw [if_neg z]; exact key _ (by omega)
    have en : nI (endN E (par s (fun k => decide (k < i ∧ oS s k = 6 ∧ endN E s k = oM s)) (endV E)) i) = nI (oM s) ↔ endN E s i = oM s := by
      have e : endN E (par s (fun k => decide (k < i ∧ oS s k = 6 ∧ endN E s k = oM s)) (endV E)) i = endN E s i := rfl
      rw [e, nI_eq (by unfold endN; omega) (by omega)]
    simp only [fr_23 h, hi_q h, hj_q h, si_q h, sj_q h, vv_5 h, vs_5 h, vv_7 h, vs_7 h, vv_8 h, vs_8 h, vv_9 h, vs_9 h, vv_11 h, vs_11 h, vv_17 h, vs_17 h, vv_18 h, vs_18 h, vj_3 h, vj_4 h, vj_5 h, ex_some, ex_def, all_def, true_and, and_true, Nat.reduceLT, mi, en]
    refine ⟨fun q => ?_, fun q => skip (fun w => q w.2)⟩
    have e : par s (fun k => decide (k < i + 1 ∧ oS s k = 6 ∧ endN E s k = oM s)) (endV E) = mv (par s (fun k => decide (k < i ∧ oS s k = 6 ∧ endN E s k = oM s)) (endV E)) i (endV E i) := par_mv (fun k => by
      rw [← Bool.decide_or, decide_eq_decide]
      constructor
      · rintro ⟨a, b⟩
        by_cases q : k = i
        · exact Or.inr q
        · exact Or.inl ⟨by omega, b⟩
      · rintro (⟨a, b⟩ | a)
        · exact ⟨by omega, b⟩
        · rw [a]; exact ⟨by omega, z, q⟩)
    refine p_endm hm hw hr hj (os.trans z) (fun I' J' m' r' => ih (i + 1) fu I' J' (by omega) (by omega) m' ?_ ?_)
    · rw [e]; exact wf_mv hw (by rcases endV_c (E := E) i with q | q <;> omega) (fun _ => by rw [os, z]; rfl)
    · rw [e]; exact r'
/-- a job that has not begun is put off -/
theorem p_offm (hm : mx A B S nc nw nm nj cw jc od E K L' I J R) (hw : wf E nj nw cw jc s) (hr : rR E nj s I J) (hj : j < nj) (h0 : oS s j = 0) (hx : x = 3 ∨ x = 5) {k : Nat} (hk : k = evk x) (hQ : ∀ I', mx A B S nc nw nm nj cw jc od E K L' I' J R → rR E nj (mv s j x) I' J → Q (hq A B S I' J R)) : wp_X12_tells (hq A B S (up3 I 1 26 j (nI x)) J R) (A 0 23) (nI j) (nI k) Q := by
  obtain ⟨q1, q2, q3, q4, q5, q6, q7, q8⟩ := hr
  have n4 := hm.n.2.2.2
  have bx : bgn x = false := by rcases hx with rfl | rfl <;> rfl
  have ex : edd x = false := by rcases hx with rfl | rfl <;> rfl
  have b0 : bgn (oS s j) = false := by rw [h0]; rfl
  have e0 : edd (oS s j) = false := by rw [h0]; rfl
  subst hk
  refine p_telm (s := s) (s' := mv s j x) (m := oM s) (hm.up rfl) (by exact q6) (by exact q7) hj (by rw [h0]; decide) hw.2.2.2.2.2.2 (evk_lt (by omega)) (ev_new n4 hw.1 hj (Or.inl h0) (evk_lt (by omega)) (by omega)) (evs_mv hj (b := 1) (by rw [h0]; rcases hx with rfl | rfl <;> rfl)) (fun z => ev_mv hj (Or.inl h0) (by rw [bx, b0]) (by omega) z) (fun I' m' e' r' => hQ I' m' ⟨fun i hi => ?_, fun w hw32 => ?_, fun m hm40 => ?_, fun m hm40 => ?_, fun y hy => ?_, r', ?_, ?_⟩)
  · obtain ⟨a1, a2, a3, a4, a5, a6⟩ := q1 i hi
    have g : ∀ k, k ≠ 36 → k ≠ 37 → k ≠ 38 → k ≠ 26 → I' 1 k i = I 1 k i := fun k z1 z2 z3 z4 => by rw [e' 1 k i (by omega) (by omega), up3_off (by omega)]
    rw [g 27 (by decide) (by decide) (by decide) (by decide), g 28 (by decide) (by decide) (by decide) (by decide), g 29 (by decide) (by decide) (by decide) (by decide), g 30 (by decide) (by decide) (by decide) (by decide), g 31 (by decide) (by decide) (by decide) (by decide), e' 1 26 i (by omega) (by omega)]
    by_cases e : i = j
    · subst e
      have g1 : bgI (mv s i x) i = bgI s i := by unfold bgI; rw [mv_s, bx, b0]; rfl
      have g2 : emI (mv s i x) i = emI s i := by unfold emI; rw [mv_s, ex, e0]; rfl
      have g3 : wkI (mv s i x) i = wkI s i := by unfold wkI; rw [mv_s, bx, b0]; rfl
      have g5 : noI E (mv s i x) i = noI E s i := by unfold noI; rw [mv_s, h0, if_neg (by omega), if_neg (by omega)]
      have g6 : fkI E (mv s i x) i = fkI E s i := by unfold fkI; rw [mv_s, h0, if_neg (by omega), if_neg (by omega)]
      rw [mv_s, up3_same, g1, g2, g3, g5, g6]
      exact ⟨rfl, a2, a3, a4, a5, a6⟩
    · rw [mv_o e, bgI_o e, emI_o e, wkI_o e, noI_o e, fkI_o e, up3_off (by omega)]
      exact ⟨a1, a2, a3, a4, a5, a6⟩
  · rw [e' 1 32 w (by omega) (by omega), up3_off (by omega), fre_off hx h0]
    rcases q2 w hw32 with q | ⟨i, y1, y2, y3, y4⟩
    · exact Or.inl q
    · exact Or.inr ⟨i, y1, (off6 hx h0 i).mpr y2, y3, y4⟩
  · rw [e' 1 33 m (by omega) (by omega), up3_off (by omega), q3 m hm40]
    unfold bsy
    simp only [off6 hx h0]
  · rw [e' 1 34 m (by omega) (by omega), up3_off (by omega)]; exact q4 m hm40
  · have d1 : dlt E s y j = 0 := by unfold dlt; rw [h0]; simp
    have d2 : dlt E (mv s j x) y j = 0 := by unfold dlt; rw [mv_s, if_neg (by omega), if_neg (by omega), if_neg (by omega)]
    rw [lft_mv hj, d1, d2, q5 y hy]; grind
  · rw [e' 0 23 24 (by omega) (by omega), up3_off (by omega)]; exact q7
  · rw [e' 0 23 39 (by omega) (by omega), up3_off (by omega)]; exact q8
end MM
