section WK
variable {A : Nat → Nat → Nat} {B : Nat → Nat × Nat} {S : Hp} {nc nw nm nj : Nat} {cw jc : Nat → Nat} {I : FI} {J : FJ} {R : FR} {xs : Nat → Int32} {L : Nat} {l4 : Int32}
variable {E : FI} {J0 : FJ} {R0 : FR} {od : Nat → Nat} {s : Rs} {j d : Nat} {K Q : Hp → Prop}
theorem p_tah2 (hop2 : ∀ k, k < nj → Decidable (hpl E nj cw jc k)) {f : Nat → Int64} (hm : ∀ k, k < 256 → (jb (f (k / 64)) (k % 64) = true ↔ k < nj ∧ hop E nj cw jc k)) (hQ : ∀ I' J', rx A B S nc nw nm nj cw jc od E J0 R0 I' J' R → wf E nj nw cw jc (s0 E nj cw jc) → cR A E nc nj cw od (s0 E nj cw jc) I' J' R → cMk I' J' (fun _ => False) → Q (hq A B S I' J' R)) : ∀ (r i fu : Nat) (I : FI) (J : FJ), i + r = nj → r < fu → rx A B S nc nw nm nj cw jc od E J0 R0 I J R → wf E nj nw cw jc (par s00 (fun k => decide (k < i ∧ hpl E nj cw jc k)) (fun _ => 5)) → cR A E nc nj cw od (par s00 (fun k => decide (k < i ∧ hpl E nj cw jc k)) (fun _ => 5)) I J R → J 0 20 = f → wp_X8_turnAwayHopeless_L45 (A 0 4) Q fu (hq A B S I J R) (nI i) := by
  intro r
  induction r with
  | zero =>
    intro i fu I J hi hf hr hw hc hJ
    obtain ⟨fu, rfl⟩ : ∃ z, fu = z + 1 := ⟨fu - 1, by omega⟩
    have h := hr.1
    have c7 : I 0 1 7 = nI nj := hr.st.2.1.2.2.2.1
    have : i = nj := by omega
    subst this
    rw [wp_X8_turnAwayHopeless_L45]
    simp only [fr_4 h, fr_1 h, hi_q h, hj_q h, si_q h, sj_q h, vv_5 h, vs_5 h, vv_7 h, vs_7 h, vv_8 h, vs_8 h, vv_9 h, vs_9 h, vv_11 h, vs_11 h, vv_17 h, vs_17 h, vv_18 h, vs_18 h, vj_3 h, vj_4 h, vj_5 h, ex_some, ex_def, all_def, true_and, and_true, Nat.reduceLT, exists_eq_left, Option.some.injEq, exists_eq_left', c7]
    refine ⟨fun _ => p_forg h (fun g hg => hQ _ _ (hr.fx ((hr.2.2.1.I rfl).JR (fun _ => rfl))) hw hc ⟨fun k hk => ?_, Or.inl ⟨up3_same _ _ _ _ _, fun _ _ => id⟩⟩), fun z => absurd (Int32.le_refl _) z⟩
    rw [up_j, hg k hk]; simp
  | succ r ih =>
    intro i fu I J hi hf hr hw hc hJ
    obtain ⟨fu, rfl⟩ : ∃ z, fu = z + 1 := ⟨fu - 1, by omega⟩
    have h := hr.1
    have n4 : nj ≤ 200 := hr.2.1.1.2.2.2.1
    have c7 : I 0 1 7 = nI nj := hr.st.2.1.2.2.2.1
    have hj : i < nj := by omega
    have u1 := (hr.jo hj).1
    have e0 : ¬ nI nj ≤ nI i := by rw [nI_leI (by omega) (by omega)]; omega
    have os : oS (par s00 (fun k => decide (k < i ∧ hpl E nj cw jc k)) (fun _ => 5)) i = 0 := by
      rw [par_s, if_neg (fun z => by have := of_decide_eq_true z; omega)]; rfl
    have step : hpl E nj cw jc i → wp_X8_turnAway (hq A B S I J R) (A 0 4) (some (A 3 i)) (fun S40 => wp_X8_turnAwayHopeless_L45 (A 0 4) Q fu S40 (nI (i + 1))) := fun z => by
      have e : par s00 (fun k => decide (k < i + 1 ∧ hpl E nj cw jc k)) (fun _ => 5) = mv (par s00 (fun k => decide (k < i ∧ hpl E nj cw jc k)) (fun _ => 5)) i 5 := par_mv (v := fun _ => 5) (fun k => by
        rw [← Bool.decide_or, decide_eq_decide]
        constructor
        · rintro ⟨a, b⟩
          by_cases q : k = i
          · exact Or.inr q
          · exact Or.inl ⟨by omega, b⟩
        · rintro (⟨a, b⟩ | a)
          · exact ⟨by omega, b⟩
          · rw [a]; exact ⟨by omega, z⟩)
      refine p_turn hr hw hc hj os (fun I' J' r1 r2 r3 r4 r5 => ih (i + 1) fu I' J' (by omega) (by omega) r1 ?_ ?_ (r2.trans hJ))
      · rw [e]; exact wf_mv hw (by decide) (fun q => absurd q (by decide))
      · rw [e]; exact r5
    have skip : ¬ hpl E nj cw jc i → wp_X8_turnAwayHopeless_L45 (A 0 4) Q fu (hq A B S I J R) (nI (i + 1)) := fun z => by
      have e : par s00 (fun k => decide (k < i + 1 ∧ hpl E nj cw jc k)) (fun _ => 5) = par s00 (fun k => decide (k < i ∧ hpl E nj cw jc k)) (fun _ => 5) := par_cg (fun k => by
        rw [decide_eq_decide]
        constructor
        · rintro ⟨a, b⟩
          have : k ≠ i := fun q => z (by rw [← q]; exact b)
          exact ⟨by omega, b⟩
        · rintro ⟨a, b⟩; exact ⟨by omega, b⟩)
      exact ih (i + 1) fu I J (by omega) (by omega) hr (by rw [e]; exact hw) (by rw [e]; exact hc) hJ
    rw [wp_X8_turnAwayHopeless_L45]
    simp only [fr_4 h, fr_1 h, fr_7 h, fr_19 h, hi_q h, hj_q h, si_q h, sj_q h, vv_5 h, vs_5 h, vv_7 h, vs_7 h, vv_8 h, vs_8 h, vv_9 h, vs_9 h, vv_11 h, vs_11 h, vv_17 h, vs_17 h, vv_18 h, vs_18 h, vj_3 h, vj_4 h, vj_5 h, ex_some, ex_def, all_def, true_and, and_true, Nat.reduceLT, exists_eq_left, Option.some.injEq, exists_eq_left', c7, e0, not_false_eq_true, true_implies, not_true_eq_false, false_implies, true_and, and_true, false_and, and_false, forall_const, imp_self, implies_true, if_true, if_false, eq_self, Bool.true_eq_false, Bool.false_eq_true, false_or, or_false, true_or, or_true, nI_clamp (show i < 2 ^ 31 by omega), vin (show i < 200 by omega) (show 200 < 2 ^ 31 by decide), u1, ← nI_succ]
    refine p_has (js_0 h) (by omega) ?_
    have ej : js (hq A B S I J R) (A 0 20) i = true ↔ hop E nj cw jc i := by
      rw [js_hq h (by decide), hJ, hm i (by omega)]; exact ⟨fun q => q.2, fun q => ⟨hj, q⟩⟩
    by_cases z : js (hq A B S I J R) (A 0 20) i = true
    · rw [if_pos z]
      exact ⟨fun q => absurd q (by decide), fun _ => ⟨(fr_4 h _ _ _).1, step (Or.inl (ej.mp z))⟩⟩
    · rw [if_neg z]
      refine ⟨fun _ => ?_, fun q => absurd rfl q⟩
      simp only [fr_4 h, fj_3 h hj, fj_6 h hj, hi_q h, hj_q h, si_q h, sj_q h, vv_5 h, vs_5 h, vv_7 h, vs_7 h, vv_8 h, vs_8 h, vv_9 h, vs_9 h, vv_11 h, vs_11 h, vv_17 h, vs_17 h, vv_18 h, vs_18 h, vj_3 h, vj_4 h, vj_5 h, ex_some, ex_def, all_def, true_and, and_true, Nat.reduceLT, exists_eq_left, Option.some.injEq, exists_eq_left']
      have meq : (∃ k, k < 256 ∧ js (hq A B S I J R) (A 7 i) k = true ∧ js (hq A B S I J R) (A 0 20) k = true) ↔ ∃ m, m < nj ∧ E 1 11 (200 * i + m) = 1 ∧ hop E nj cw jc m := by
        constructor
        · rintro ⟨k, hk, a, b⟩
          rw [js_hq h (by decide)] at a b
          rw [hr.ln hj hk] at a
          rw [hJ, hm k hk] at b
          exact ⟨k, a.1, a.2, b.2⟩
        · rintro ⟨m, a, b, c⟩
          refine ⟨m, by omega, ?_, ?_⟩
          · rw [js_hq h (by decide), hr.ln hj (by omega)]; exact ⟨a, b⟩
          · rw [js_hq h (by decide), hJ, hm m (by omega)]; exact ⟨a, c⟩
      refine p_meets (js_j h hj) (js_0 h) (fun q => ⟨fun w => absurd w (by decide), fun _ => ⟨(fr_4 h _ _ _).1, step (Or.inr (meq.mp q))⟩⟩) (fun q => ⟨fun _ => skip ?_, fun w => absurd rfl w⟩)
      rintro (w | w)
      · exact z (ej.mpr w)
      · exact q (meq.mpr w)
theorem z00 {n : Nat} (k : Nat) (hn : n ≠ 0) : ¬ oS s00 k = n := fun e => hn (show (0 : Nat) = n from e).symm
theorem z0b (k : Nat) : ¬ bgn (oS s00 k) = true := by show ¬ bgn 0 = true; decide
theorem z0e (k : Nat) : ¬ edd (oS s00 k) = true := by show ¬ edd 0 = true; decide
theorem wf_00 : wf E nj nw cw jc s00 := ⟨fun _ _ => by show 0 ≤ 6; omega, fun k _ h => absurd h (z00 k (by decide)), fun k _ _ _ h => absurd h (z00 k (by decide)), fun k _ _ _ _ _ h => absurd h (z00 k (by decide)), fun k _ h => absurd h (z0b k), fun _ _ h => absurd rfl h, by decide⟩
theorem wg_00 : wg E nj s00 := ⟨fun k _ h => absurd h (z00 k (by decide)), fun k _ h => absurd h (z0e k), by decide⟩
theorem dlt_00 (x j : Nat) : dlt E s00 x j = 0 := by unfold dlt; rw [if_neg (z00 j (by decide)), if_neg (z00 j (by decide)), if_neg (fun z => z.elim (z00 j (by decide)) (z00 j (by decide)))]
theorem sumJ_0 {f : Nat → Int64} (h : ∀ i, f i = 0) : ∀ n, sumJ n f = 0 := by
  intro n
  induction n with
  | zero => rfl
  | succ n ih => rw [sumJ, ih, h]; rfl
theorem lft_00 (x : Nat) : lft E nj s00 x = (E 1 6 x).toInt64 := by
  unfold lft; rw [sumJ_0 (dlt_00 x)]; grind
theorem nng_00 (hs : sB E nj) : nng E nj s00 := fun x hx => by rw [lft_00, Int32.toInt_toInt64]; exact (hs.2.2.1 x hx).1
theorem pok_s0 : pok nj s00 (fun k => decide (k < nj ∧ hpl E nj cw jc k)) (fun _ => 5) := fun j _ => Or.inr ⟨rfl, Or.inr rfl⟩
theorem p_work_L {Q : Int32 → Hp → Prop} (hs : sB E nj) (hd : d ≤ 1000000) : ∀ (n k fu : Nat) (s : Rs) (I : FI) (J : FJ) (R : FR), k + n = 202 → n < fu → rx A B S nc nw nm nj cw jc od E J0 R0 I J R → wW E nj nw cw jc s → cR A E nc nj cw od s I J R → cMk I J (mks nj s) → oM s ≤ d → (zZ E nj d s ∧ nj + 1 ≤ n + fz nj s ∨ nj + 2 ≤ n + fz nj s) → (∀ t a m I' J' R', Rn E nj cw jc od d m s t a → m ≤ n → wW E nj nw cw jc t → rx A B S nc nw nm nj cw jc od E J0 R0 I' J' R' → cR A E nc nj cw od t I' J' R' → I' 0 4 9 = a → Q a (hq A B S I' J' R')) → wp_X8_work_L21 (A 0 4) (nI d) Q fu (hq A B S I J R) 0 (nI k) := by
  intro n
  induction n with
  | zero =>
    intro k fu s I J R hk hf hr hW hc hm hmd hz hQ
    have : fz nj s ≤ nj := cntN_le _ _
    omega
  | succ n ih =>
    intro k fu s I J R hk hf hr hW hc hm hmd hz hQ
    obtain ⟨fu, rfl⟩ : ∃ z, fu = z + 1 := ⟨fu - 1, by omega⟩
    have h := hr.1
    have e0 : ¬ (202 : Int32) ≤ nI k := by rw [show (202 : Int32) = nI 202 from rfl, nI_leI (by decide) (by omega)]; omega
    rw [wp_X8_work_L21]
    simp only [fr_4 h, e0, not_false_eq_true, true_implies, not_true_eq_false, false_implies, true_and, and_true, false_and, and_false, forall_const, imp_self, implies_true, if_true, if_false, eq_self, Bool.true_eq_false, Bool.false_eq_true, false_or, or_false, true_or, or_true, ← nI_succ]
    refine p_pass hs hd hr hW hc hm hmd (fun t a I' J' R' tr wt r1 c1 a1 => ?_) (fun t I' J' R' tr wt r1 c1 m1 md => ?_)
    · obtain ⟨fu, rfl⟩ : ∃ z, fu = z + 1 := ⟨fu - 1, by omega⟩
      have q := hQ t a 1 I' J' R' (Or.inl tr) (by omega) wt r1 c1 a1
      rw [wp_X8_work_L21]
      simp only [fr_4 h, hi_q h, hj_q h, si_q h, sj_q h, vv_5 h, vs_5 h, vv_7 h, vs_7 h, vv_8 h, vs_8 h, vv_9 h, vs_9 h, vv_11 h, vs_11 h, vv_17 h, vs_17 h, vv_18 h, vs_18 h, vj_3 h, vj_4 h, vj_5 h, ex_some, ex_def, all_def, true_and, and_true, Nat.reduceLT, a1]
      exact ⟨fun _ => q, fun _ => ⟨fun w => absurd w (by decide), fun _ => q⟩⟩
    · refine ih (k + 1) fu t I' J' R' (by omega) (by omega) r1 wt c1 m1 md (Or.inl ?_) (fun t' a' m' I'' J'' R'' rn hm' => hQ t' a' (m' + 1) I'' J'' R'' (Or.inr ⟨t, tr, rn⟩) (by omega))
      rcases tr with ⟨-, ⟨-, -, e⟩ | ⟨-, -, -, e⟩ | ⟨-, -, -, e⟩⟩ | ⟨nd, s3, b3, ⟨-, -, e⟩ | ⟨aw, m, hn, et, -⟩⟩
      · cases e
      · cases e
      · cases e
      · cases e
      · subst et
        refine ⟨?_, ?_⟩
        · rcases hn.2.2 with e | ⟨k, a, b, c⟩
          · exact Or.inl e
          · exact Or.inr ⟨k, a, b, c⟩
        · have f1 : fz nj (setM s3 m) = fz nj s3 := rfl
          have f2 := fz_bgR (nj := nj) (Nat.le_refl _) (fun p hp => (hr.2.2.2.1 p hp).1) b3
          have f3 := (fz_par (nj := nj) (pok_cans (E := E) (nj := nj) (s := ends E nj s))).1
          have f4 := fz_par (nj := nj) (pok_ends (E := E) (nj := nj) (s := s))
          have f3' : fz nj (ends E nj s) ≤ fz nj (cans E nj (ends E nj s)) := f3
          have f4' : fz nj s ≤ fz nj (ends E nj s) := f4.1
          rcases hz with ⟨z | ⟨k, a, b, c⟩, hz⟩ | hz
          · exact absurd z nd
          · have f5 : fz nj s < fz nj (ends E nj s) := f4.2 ⟨k, a, decide_eq_true ⟨a, b, c⟩⟩
            omega
          · omega
end WK
