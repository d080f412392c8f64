/-- a run under way: E J0 R0 as it began -/
def rx (A : Nat → Nat → Nat) (B : Nat → Nat × Nat) (S : Hp) (nc nw nm nj : Nat) (cw jc od : Nat → Nat) (E : FI) (J0 : FJ) (R0 : FR) (I : FI) (J : FJ) (R : FR) : Prop := Sh A B S nj nc ∧ vSt A S nc nw nm nj cw jc E J0 R0 ∧ Fx E J0 R0 I J R ∧ (∀ t, t < nj → od t < nj ∧ R0 0 8 t = some (A 3 (od t))) ∧ (∀ a b, a < b → b < nj → ahd jc (E 1 9) (od a) (od b)) ∧ ∀ j, j < nj → ∃ t, t < nj ∧ od t = j
/-- the class's cells, with the parts that a leave does not bring up to date -/
def cRp (A : Nat → Nat → Nat) (E : FI) (nc nj : Nat) (cw od : Nat → Nat) (s : Rs) (t5 t6 t7 : Nat → Int32) (lf : Nat → Int64) (dn fl : Int32) (I : FI) (J : FJ) (R : FR) : Prop :=
  (∀ j, j < nj → I 16 j 0 = cS (oS s j) ∧ I 16 j 1 = bgI s j ∧ I 16 j 2 = emI s j ∧ I 16 j 3 = wkI s j ∧ I 16 j 4 = faI s j ∧ I 16 j 5 = t5 j ∧ I 16 j 6 = t6 j ∧ I 16 j 7 = t7 j) ∧ (∀ x, x < 60 → J 0 14 x = lf x) ∧ cAw A nj s R ∧ cFr nc nj cw s I ∧ cBs E nj s J ∧ (I 0 4 15 = nI (cntN nj (fun j => oS s j == 6)) ∧ I 0 4 12 = dn ∧ I 0 4 11 = fl ∧ ∃ v, I 0 4 13 = nI v ∧ lst nj s v) ∧ cQu A nj od s I R ∧ cEv nj s I J ∧ cMi s I
section LV
variable {A : Nat → Nat → Nat} {B : Nat → Nat × Nat} {S : Hp} {nc nw nm nj : Nat} {cw jc : Nat → Nat} {I : FI} {J : FJ} {R : FR} {xs : Nat → Int32} {L : Nat} {l4 : Int32}
variable {E : FI} {J0 : FJ} {R0 : FR} {od : Nat → Nat} {s : Rs} {j x : Nat} {t5 t6 t7 : Nat → Int32} {lf : Nat → Int64} {dn fl : Int32} {Q : Hp → Prop}
theorem cR_p (h : cR A E nc nj cw od s I J R) : cRp A E nc nj cw od s (noI E s) (fkI E s) (fun j => nI (wts E nj s j)) (lft E nj s) (nI (cntN nj (fun j => oS s j == 1))) (nI (cntN nj (fun j => oS s j == 2))) I J R := h
theorem cRp_r (h : cRp A E nc nj cw od s t5 t6 t7 lf dn fl I J R) (e5 : ∀ j, j < nj → t5 j = noI E s j) (e6 : ∀ j, j < nj → t6 j = fkI E s j) (e7 : ∀ j, j < nj → t7 j = nI (wts E nj s j)) (el : ∀ x, x < 60 → lf x = lft E nj s x) (ed : dn = nI (cntN nj (fun j => oS s j == 1))) (ef : fl = nI (cntN nj (fun j => oS s j == 2))) : cR A E nc nj cw od s I J R := by
  obtain ⟨h1, h2, h3, h4, h5, h6, h7, h8, h9⟩ := h
  refine ⟨fun j hj => ?_, fun x hx => (h2 x hx).trans (el x hx), h3, h4, h5, ⟨h6.1, h6.2.1.trans ed, h6.2.2.1.trans ef, h6.2.2.2⟩, h7, h8, h9⟩
  obtain ⟨a1, a2, a3, a4, a5, a6, a7, a8⟩ := h1 j hj
  exact ⟨a1, a2, a3, a4, a5, a6.trans (e5 j hj), a7.trans (e6 j hj), a8.trans (e7 j hj)⟩
theorem rx.st (h : rx A B S nc nw nm nj cw jc od E J0 R0 I J R) : vSt A S nc nw nm nj cw jc I J R := vSt_c h.2.2.1.y h.2.1
theorem rx.fx (h : rx A B S nc nw nm nj cw jc od E J0 R0 I J R) {I' : FI} {J' : FJ} {R' : FR} (f : Fx E J0 R0 I' J' R') : rx A B S nc nw nm nj cw jc od E J0 R0 I' J' R' := ⟨h.1, h.2.1, f, h.2.2.2⟩
theorem rx.i (h : rx A B S nc nw nm nj cw jc od E J0 R0 I J R) {c i p : Nat} (e : ruI c i p = false) : I c i p = E c i p := h.2.2.1.1 c i p (by show (!ruI c i p) = true; rw [e]; rfl)
theorem rx.jv (h : rx A B S nc nw nm nj cw jc od E J0 R0 I J R) {c i p : Nat} (e : ruJ c i p = false) : J c i p = J0 c i p := h.2.2.1.2.1 c i p (by show (!ruJ c i p) = true; rw [e]; rfl)
theorem rx.r (h : rx A B S nc nw nm nj cw jc od E J0 R0 I J R) {c i p : Nat} (e : ruR c i p = false) : R c i p = R0 c i p := h.2.2.1.2.2 c i p (by show (!ruR c i p) = true; rw [e]; rfl)
/-- what the class's cells of job j are -/
theorem rx.jo (h : rx A B S nc nw nm nj cw jc od E J0 R0 I J R) (hj : j < nj) : R 0 7 j = some (A 3 j) ∧ I 3 j 0 = nI j ∧ R 3 j 1 = some (A 2 (jc j)) ∧ I 3 j 2 = E 1 8 j ∧ I 3 j 11 = E 1 20 j ∧ (0 < E 1 20 j → I 3 j 12 = E 1 21 j) ∧ jc j < nc ∧ 1 ≤ (E 1 8 j).toInt ∧ (E 1 8 j).toInt ≤ 10000 := by
  have h3 := h.2.1.2.2.2.1 j hj
  have h11 := h.2.1.2.2.2.2.2.2.2.2.2.2.2.1 j hj
  rw [h.r (c := 0) (i := 7) rfl, h.i (c := 3) (p := 0) rfl, h.r (c := 3) (p := 1) rfl, h.i (c := 3) (p := 2) rfl, h.i (c := 3) (p := 11) rfl, h.i (c := 3) (p := 12) rfl]
  exact ⟨h3.1, h3.2.1, h3.2.2.1, h3.2.2.2.2.1, h11.1, fun z => (h11.2.2.2 z).1, h.2.1.1.2.2.2.2.2 j hj, h3.2.2.2.2.2.1, h3.2.2.2.2.2.2.1⟩
theorem rx.nd (h : rx A B S nc nw nm nj cw jc od E J0 R0 I J R) (hj : j < nj) {m : Nat} (hm : m < 64) : jb (J 3 j 7) m = true ↔ m < 40 ∧ E 1 12 (40 * j + m) = 1 := by
  rw [h.jv (c := 3) (p := 7) rfl, (h.2.1.2.2.2.2.2.2.2.1 j m hj hm).2]; simp
theorem nI_sub1 {n : Nat} : nI (n + 1) - 1 = nI n := nI_p1 n
theorem bgI_o {i : Nat} (h : ¬ i = j) : bgI (mv s j x) i = bgI s i := by unfold bgI; rw [mv_o h]; rfl
theorem emI_o {i : Nat} (h : ¬ i = j) : emI (mv s j x) i = emI s i := by unfold emI; rw [mv_o h, mv_eo h]
theorem wkI_o {i : Nat} (h : ¬ i = j) : wkI (mv s j x) i = wkI s i := by unfold wkI; rw [mv_o h]; rfl
theorem faI_o {i : Nat} (h : ¬ i = j) : faI (mv s j x) i = faI s i := by unfold faI; rw [mv_o h, mv_eo h]; rfl
theorem noI_o {i : Nat} (h : ¬ i = j) : noI E (mv s j x) i = noI E s i := by unfold noI; rw [mv_o h, faI_o h]
theorem fkI_o {i : Nat} (h : ¬ i = j) : fkI E (mv s j x) i = fkI E s i := by unfold fkI; rw [mv_o h]
theorem cQu_mv (h : cQu A nj od s I R) (hx : x ≠ 0 ∧ x ≠ 6) : cQu A nj od (mv s j x) I R := by
  obtain ⟨n, qp, a1, a2, a3, a4, a5⟩ := h
  refine ⟨n, qp, a1, a2, fun t ht => ⟨(a3 t ht).1, (a3 t ht).2.1, ?_⟩, a4, fun u hu z => ?_⟩
  · by_cases e : od (qp t) = j
    · rw [e, mv_s]; exact hx.2
    · rw [mv_o e]; exact (a3 t ht).2.2
  · by_cases e : od u = j
    · rw [e, mv_s] at z; exact absurd z hx.1
    · rw [mv_o e] at z; exact a5 u hu z
theorem jb_not {y : Int64} {m : Nat} (hm : m < 64) : jb (~~~ y) m = !jb y m := by unfold jb; rw [Int64.toBitVec_not, BitVec.getLsbD_not]; simp [hm]
theorem p_leave (hr : rx A B S nc nw nm nj cw jc od E J0 R0 I J R) (hw : wf E nj nw cw jc s) (hc : cRp A E nc nj cw od s t5 t6 t7 lf dn fl I J R) (hj : j < nj) (h6 : oS s j = 6) (hx : x = 1 ∨ x = 2 ∨ x = 4) (hQ : ∀ I' J' R', rx A B S nc nw nm nj cw jc od E J0 R0 I' J' R' → J' 0 20 = J 0 20 → I' 0 4 16 = I 0 4 16 → cRp A E nc nj cw od (mv s j x) t5 t6 t7 lf dn fl I' J' R' → Q (hq A B S I' J' R')) : wp_X8_leave (hq A B S I J R) (A 0 4) (some (A 3 j)) (nI x) (nI x) Q := by
  have h := hr.1
  have n4 : nj ≤ 200 := hr.2.1.1.2.2.2.1
  have n2 : nw ≤ 32 := hr.2.1.1.2.1
  obtain ⟨u1, u2, u3, u4, u5, u6, u7, u8, u9⟩ := hr.jo hj
  obtain ⟨q1, q2, q3, q4, q5, ⟨q6, q7, q8, v, q9, q10⟩, q11, q12, q13⟩ := hc
  obtain ⟨a1, a2, a3, a4, a5, a6, a7, a8⟩ := q1 j hj
  obtain ⟨w1, w2, w3⟩ := hw.2.1 j hj h6
  have b6 : bgn (oS s j) = true := by rw [h6]; rfl
  have e3 : I 16 j 3 = nI (oW s j) := by rw [a4]; unfold wkI; rw [if_pos b6]
  have e1 : I 16 j 1 = nI (oB s j) := by rw [a2]; unfold bgI; rw [if_pos b6]
  have z1 : ¬ nI (oW s j) < 0 := by rw [show (0 : Int32) = nI 0 from rfl, nI_lti (by omega) (by decide)]; omega
  have z2 : nI (oW s j) < 32 := by rw [show (32 : Int32) = nI 32 from rfl, nI_lti (by omega) (by decide)]; omega
  have z3 : ¬ (32 : Int32) ≤ nI (oW s j) := by rw [show (32 : Int32) = nI 32 from rfl, nI_leI (by decide) (by omega)]; omega
  unfold wp_X8_leave
  simp only [fr_4 h, fr_17 h, fj_3 h hj, fj_16 h hj, fc_2 h u7, hi_q h, hj_q h, si_q h, sj_q h, vv_5 h, vs_5 h, vv_7 h, vs_7 h, vv_8 h, vs_8 h, vv_9 h, vs_9 h, vv_11 h, vs_11 h, vv_17 h, vs_17 h, vv_18 h, vs_18 h, vj_3 h, vj_4 h, vj_5 h, ex_some, ex_def, all_def, true_and, and_true, Nat.reduceLT, u3, exists_eq_left, Option.some.injEq, exists_eq_left']
  simp [up3, fr_21 h, fr_4 h, e3, e1, z1, z2, z3, nI_clamp (show oW s j < 2 ^ 31 by omega), vin (show oW s j < 32 by omega) (show 32 < 2 ^ 31 by decide), q13.1, u2, q6, fr_17 h, u3, fj_3 h hj, fj_16 h hj, fc_2 h u7, hi_q h, hj_q h, si_q h, sj_q h, vv_5 h, vs_5 h, vv_7 h, vs_7 h, vv_8 h, vs_8 h, vv_9 h, vs_9 h, vv_11 h, vs_11 h, vv_17 h, vs_17 h, vv_18 h, vs_18 h, vj_3 h, vj_4 h, vj_5 h, ex_some, ex_def, all_def, true_and, and_true, Nat.reduceLT]
  refine p_evj h (s := s) (s' := mv s j x) (k := x) (m := oM s) (by exact q12) n4 hj (by rw [h6]; decide) hw.2.2.2.2.2.2 (by omega) (ev_new n4 hw.1 hj (Or.inr h6) (by omega) (by omega)) (evs_mv hj (b := 1) (by rw [h6]; rcases hx with rfl | rfl | rfl <;> rfl)) (fun z => ?_) (fun v f he => ?_)
  rotate_left
  · refine hQ _ _ _ (hr.fx ?_) rfl rfl ⟨fun i hi => ?_, q2, fun w hw32 => ?_, fun c hc => ?_, fun m hm => ?_, ⟨?_, q7, q8, oM s, rfl, ?_⟩, cQu_mv q11 (by omega), he, q13⟩
    · repeat (first | exact hr.2.2.1 | refine Fx.I ?_ rfl | refine Fx.J ?_ rfl | refine Fx.R ?_ rfl | refine Fx.JR ?_ (fun _ => rfl))
    · by_cases e : i = j
      · subst e
        have bx : bgn x = true := by rcases hx with rfl | rfl | rfl <;> rfl
        have ex : edd x = true := by rcases hx with rfl | rfl | rfl <;> rfl
        have c0 : cS x = nI x := by unfold cS; rw [if_neg (by omega)]
        rw [mv_s, c0]
        simp [up3, bgI, emI, wkI, faI, mv_s, mv_e, bx, ex, e3, e1, a6, a7, a8]
        exact ⟨rfl, rfl, rfl⟩
      · rw [mv_o e, bgI_o e, emI_o e, wkI_o e, faI_o e]
        simp [up3, e]
        exact q1 i hi
    · have fm := fre_mv (x := x) hw hj h6 (by omega) w
      by_cases e : w = oW s j
      · left
        refine ⟨by rw [e, up3_same], ?_⟩
        rw [fm, decide_eq_true e, Bool.or_true]
      · rw [up3_off (by omega), fm]
        rcases q3 w hw32 with ⟨y1, y2⟩ | ⟨i, y1, y2, y3, y4⟩
        · left; exact ⟨y1, by rw [y2]; rfl⟩
        · right
          have ei : ¬ i = j := fun z => e (by rw [← y3, z])
          exact ⟨i, y1, by rw [mv_o ei]; exact y2, y3, y4⟩
    · rw [cfr_mv hw hj h6 (by omega)]
      by_cases e : c = jc j
      · subst e; simp [up3, q4 _ hc, nI_succ]
      · simp [up3, e, q4 _ hc]
    · rw [bsy_mv hw hj h6 (by omega), ← q5 m hm, ← hr.nd hj hm]
      simp [upR, up3, jb_and, jb_not hm]
    · have := cnt_mv (s := s) (x := x) hj (fun y => y == 6)
      simp only [h6, show (x == 6) = false from beq_eq_false_iff_ne.mpr (by omega), beq_self_eq_true, if_true, Bool.false_eq_true, if_false] at this
      have e9 : cntN nj (fun i => oS s i == 6) = cntN nj (fun i => oS (mv s j x) i == 6) + 1 := by omega
      show nI (cntN nj (fun i => oS s i == 6)) - 1 = nI (cntN nj (fun i => oS (mv s j x) i == 6))
      rw [e9, nI_p1]
    · refine ⟨fun i hi ed => ?_, Or.inr ⟨j, hj, ?_, mv_e _ _ _⟩⟩
      · have := (wf_mv (x := x) hw (by omega) (fun _ => by rw [h6]; rfl)).2.2.2.2.2.1 i hi (fun z => by rw [z] at ed; exact absurd ed (by decide)) (fun z => by rw [z] at ed; exact absurd ed (by decide))
        exact this
      · rw [mv_s]; rcases hx with rfl | rfl | rfl <;> rfl
  · rw [ev_mv hj (Or.inr h6) (by rw [h6]; rcases hx with rfl | rfl | rfl <;> rfl) (by omega), show evk x = x by unfold evk; rw [if_neg (by omega)]]
end LV
