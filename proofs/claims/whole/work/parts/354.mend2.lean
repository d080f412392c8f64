section MF
variable {A : Nat → Nat → Nat} {B : Nat → Nat × Nat} {S : Hp} {nc nw nm nj : Nat} {cw jc : Nat → Nat} {I : FI} {J : FJ} {R : FR} {xs : Nat → Int32} {L : Nat} {l4 : Int32}
variable {E K : FI} {L' : FJ} {od : Nat → Nat} {s : Rs} {j x : Nat} {Q : Hp → Prop}
theorem bF_nn (k a b : Int32) (n : Nat) (y : Nat → Int32) : bFault k a b n y ≤ 0 ↔ bFault k a b n y = 0 := by
  unfold bFault
  repeat' split
  all_goals decide
/-- rows as frees leaves them -/
def fre1 (E : FI) (j w : Nat) (I I1 : FI) (J J1 : FJ) : Prop := (∀ p, I1 1 26 p = I 1 26 p) ∧ (∀ p, I1 1 27 p = I 1 27 p) ∧ (∀ p, I1 1 28 p = if p = j then I 0 23 24 else I 1 28 p) ∧ (∀ p, I1 1 29 p = I 1 29 p) ∧ (∀ p, I1 1 30 p = I 1 30 p) ∧ (∀ p, I1 1 31 p = I 1 31 p) ∧ (∀ p, I1 1 32 p = if p = w then -1 else I 1 32 p) ∧ (∀ m, m < 40 → I1 1 33 m = if E 1 12 (40 * j + m) = 1 then -1 else I 1 33 m) ∧ (∀ p, I1 1 34 p = I 1 34 p) ∧ (∀ p, I1 1 36 p = I 1 36 p) ∧ (∀ p, I1 1 37 p = I 1 37 p) ∧ (∀ p, I1 1 38 p = I 1 38 p) ∧ I1 0 23 24 = I 0 23 24 ∧ I1 0 23 25 = I 0 23 25 ∧ I1 0 23 39 = I 0 23 39 ∧ ∀ p, J1 1 35 p = J 1 35 p
theorem rEv_c {I1 : FI} (h : rEv nj s I) (e36 : ∀ p, I1 1 36 p = I 1 36 p) (e37 : ∀ p, I1 1 37 p = I 1 37 p) (e38 : ∀ p, I1 1 38 p = I 1 38 p) (e25 : I1 0 23 25 = I 0 23 25) : rEv nj s I1 := by
  obtain ⟨ky, a1, a2, a3, a4⟩ := h
  refine ⟨ky, e25.trans a1, fun i hi => ?_, a3, a4⟩
  rw [e36, e37, e38]; exact a2 i hi
/-- the last of it: state, left, event -/
theorem p_fin3 {I1 : FI} {J1 J2 : FJ} {v30 v31 : Int32} (hm : mx A B S nc nw nm nj cw jc od E K L' (up3 (up3 (up3 I1 1 31 j v31) 1 26 j (nI x)) 1 30 j v30) J2 R) (hw : wf E nj nw cw jc s) (hr : rR E nj s I J) (hj : j < nj) (h6 : oS s j = 6) (hx : x = 1 ∨ x = 2 ∨ x = 4) (f : fre1 E j (oW s j) I I1 J J1) (h31 : v31 = fkI E (mv s j x) j) (h30 : v30 = noI E (mv s j x) j) (h35 : ∀ y, y < 60 → J2 1 35 y = lft E nj (mv s j x) y) (hQ : ∀ I', mx A B S nc nw nm nj cw jc od E K L' I' J2 R → rR E nj (mv s j x) I' J2 → Q (hq A B S I' J2 R)) : wp_X12_tells (hq A B S (up3 (up3 (up3 I1 1 31 j v31) 1 26 j (nI x)) 1 30 j v30) J2 R) (A 0 23) (nI j) (nI x) Q := by
  obtain ⟨f26, f27, f28, f29, f30, f31, f32, f33, f34, f36, f37, f38, g24, g25, g39, f35⟩ := f
  have n4 := hm.n.2.2.2
  have mi := hr.2.2.2.2.2.2.1
  have evx : evk x = x := by unfold evk; rw [if_neg (by omega)]
  refine p_telm (s := s) (s' := mv s j x) (m := oM s) hm (rEv_c hr.2.2.2.2.2.1 (fun p => ?_) (fun p => ?_) (fun p => ?_) ?_) ?_ hj (by rw [h6]; decide) hw.2.2.2.2.2.2 (by omega) (ev_new n4 hw.1 hj (Or.inr h6) (by omega) (by omega)) (evs_mv hj (b := 1) (by rw [h6]; rcases hx with rfl | rfl | rfl <;> rfl)) (fun z => ?_) (fun I' m' e' r' => hQ I' m' (rR_mv hw hr hj h6 hx (fun i => ?_) (fun i => ?_) (fun i => ?_) (fun i => ?_) (fun i => ?_) (fun i => ?_) (fun i => ?_) (fun m hm40 => ?_) (fun i => ?_) h35 r' ⟨?_, ?_⟩))
  · rw [up3_off (by omega), up3_off (by omega), up3_off (by omega)]; exact f36 p
  · rw [up3_off (by omega), up3_off (by omega), up3_off (by omega)]; exact f37 p
  · rw [up3_off (by omega), up3_off (by omega), up3_off (by omega)]; exact f38 p
  · rw [up3_off (by omega), up3_off (by omega), up3_off (by omega)]; exact g25
  · rw [up3_off (by omega), up3_off (by omega), up3_off (by omega), g24]; exact mi
  · rw [ev_mv hj (Or.inr h6) (by rw [h6]; rcases hx with rfl | rfl | rfl <;> rfl) (by omega), evx]
  · rw [e' 1 26 i (by omega) (by omega), up3_off (by omega)]
    by_cases e : i = j
    · rw [e, up3_same, if_pos rfl]
    · rw [up3_off (by omega), up3_off (by omega), if_neg e]; exact f26 i
  · rw [e' 1 27 i (by omega) (by omega), up3_off (by omega), up3_off (by omega), up3_off (by omega)]; exact f27 i
  · rw [e' 1 28 i (by omega) (by omega), up3_off (by omega), up3_off (by omega), up3_off (by omega), f28 i, mi]
  · rw [e' 1 29 i (by omega) (by omega), up3_off (by omega), up3_off (by omega), up3_off (by omega)]; exact f29 i
  · rw [e' 1 30 i (by omega) (by omega)]
    by_cases e : i = j
    · rw [e, up3_same, if_pos rfl, h30]
    · rw [up3_off (by omega), up3_off (by omega), up3_off (by omega), if_neg e]; exact f30 i
  · rw [e' 1 31 i (by omega) (by omega), up3_off (by omega), up3_off (by omega)]
    by_cases e : i = j
    · rw [e, up3_same, if_pos rfl, h31]
    · rw [up3_off (by omega), if_neg e]; exact f31 i
  · rw [e' 1 32 i (by omega) (by omega), up3_off (by omega), up3_off (by omega), up3_off (by omega)]; exact f32 i
  · rw [e' 1 33 m (by omega) (by omega), up3_off (by omega), up3_off (by omega), up3_off (by omega)]; exact f33 m hm40
  · rw [e' 1 34 i (by omega) (by omega), up3_off (by omega), up3_off (by omega), up3_off (by omega)]; exact f34 i
  · rw [e' 0 23 24 (by omega) (by omega), up3_off (by omega), up3_off (by omega), up3_off (by omega), g24]; exact mi
  · rw [e' 0 23 39 (by omega) (by omega), up3_off (by omega), up3_off (by omega), up3_off (by omega), g39]; exact hr.2.2.2.2.2.2.2
theorem up3_se (c i p : Nat) : up3 I c i p (I c i p) = I := by
  funext d k q
  unfold up3
  by_cases e : d = c ∧ k = i ∧ q = p
  · rw [if_pos e, e.1, e.2.1, e.2.2]
  · rw [if_neg e]
theorem farM_of {I1 : FI} {a b : Nat} (h1 : I1 1 27 j = nI b) (h2 : I1 1 28 j = nI a) (ha : a < 2 ^ 31) (hb : b < 2 ^ 31) : farM I1 j = nI a - nI b := by
  unfold farM; rw [h1, h2, if_neg (nI_nm1 hb), if_neg (nI_nm1 ha)]
/-- ends, behind the kind of failure -/
theorem p_end2 {I1 : FI} {J1 : FJ} (hm : mx A B S nc nw nm nj cw jc od E K L' I1 J1 R) (hw : wf E nj nw cw jc s) (hr : rR E nj s I J) (hj : j < nj) (h6 : oS s j = 6) (hf0 : fkE E j ≤ 0 ↔ fkE E j = 0) (f : fre1 E j (oW s j) I I1 J J1) (hQ : ∀ I' J', mx A B S nc nw nm nj cw jc od E K L' I' J' R → rR E nj (mv s j (endV E j)) I' J' → Q (hq A B S I' J' R)) : (fkE E j ≤ 0 → wp_X12_ends_L71 (A 0 23) (nI j) Q FU (hq A B S (up3 (up3 I1 1 31 j (fkE E j)) 1 26 j 1) J1 R) 0) ∧ (¬ fkE E j ≤ 0 → wp_X12_restBack (hq A B S (up3 (up3 I1 1 31 j (fkE E j)) 1 26 j 2) J1 R) (A 0 23) (nI j) (fun S43 => hK S43 (A 0 23) = 14 ∧ wp_X12_tells S43 (A 0 23) (nI j) 2 (fun S45 => Q S45))) := by
  have h := hm.1
  have n4 := hm.n.2.2.2
  have f35 := f.2.2.2.2.2.2.2.2.2.2.2.2.2.2.2
  have z30 : I1 1 30 j = 0 := by rw [f.2.2.2.2.1, (hr.1 j hj).2.2.2.2.1]; unfold noI; rw [h6]; rfl
  have e30 : ∀ y : Int32, up3 (up3 (up3 I1 1 31 j (fkE E j)) 1 26 j y) 1 30 j 0 = up3 (up3 I1 1 31 j (fkE E j)) 1 26 j y := fun y => by
    have z : up3 (up3 I1 1 31 j (fkE E j)) 1 26 j y 1 30 j = 0 := by rw [up3_off (by omega), up3_off (by omega)]; exact z30
    exact (congrArg (fun v => up3 (up3 (up3 I1 1 31 j (fkE E j)) 1 26 j y) 1 30 j v) z.symm).trans (up3_se 1 30 j)
  have mu : ∀ y : Int32, mx A B S nc nw nm nj cw jc od E K L' (up3 (up3 I1 1 31 j (fkE E j)) 1 26 j y) J1 R := fun y => (hm.up rfl).up rfl
  refine ⟨fun z => ?_, fun z => ?_⟩
  · have fz := hf0.mp z
    have ev : endV E j = 1 := by unfold endV; rw [if_pos fz]
    rw [ev] at hQ
    have key : ∀ (r k fu : Nat) (g : Nat → Int64), k + r = 60 → r < fu → (∀ y, y < 60 → g y = if y < k then J1 1 35 y + (E 1 14 (60 * j + y)).toInt64 else J1 1 35 y) → wp_X12_ends_L71 (A 0 23) (nI j) Q fu (hq A B S (up3 (up3 I1 1 31 j (fkE E j)) 1 26 j 1) (upR J1 1 35 g) R) (nI k) := by
      intro r
      induction r with
      | zero =>
        intro k fu g hk hf hy
        obtain ⟨fu, rfl⟩ : ∃ z, fu = z + 1 := ⟨fu - 1, by omega⟩
        have : k = 60 := by omega
        subst this
        rw [wp_X12_ends_L71]
        refine ⟨fun _ => ⟨fr_23 h _ _ _, ?_⟩, fun z => absurd (by decide) z⟩
        rw [← e30 1]
        refine p_fin3 (x := 1) (J2 := upR J1 1 35 g) (by have := (mu 1).Ju (i := 35) (f := g); rw [← e30 1] at this; exact this) hw hr hj h6 (Or.inl rfl) f ?_ ?_ (fun y hy60 => ?_) (fun I' m' r' => hQ I' _ m' r')
        · rw [fz]; unfold fkI; rw [mv_s, if_neg (by decide)]
        · unfold noI; rw [mv_s, if_neg (by decide)]
        · have e1 : upR J1 1 35 g 1 35 = g := funext fun p => by simp [upR]
          rw [e1, hy y hy60, if_pos hy60, f35, hr.2.2.2.2.1 y hy60, lft_mv hj]
          have d1 : dlt E s y j = - (E 1 13 (60 * j + y)).toInt64 := by unfold dlt; rw [if_pos h6]
          have d2 : dlt E (mv s j 1) y j = (E 1 14 (60 * j + y)).toInt64 - (E 1 13 (60 * j + y)).toInt64 := by unfold dlt; rw [mv_s, if_neg (by decide), if_pos rfl]
          rw [d1, d2]; grind
      | succ r ih =>
        intro k fu g hk hf hy
        obtain ⟨fu, rfl⟩ : ∃ z, fu = z + 1 := ⟨fu - 1, by omega⟩
        have e0 : ¬ (60 : Int32) ≤ nI k := by rw [show (60 : Int32) = nI 60 from rfl, nI_leI (by decide) (by omega)]; omega
        rw [wp_X12_ends_L71]
        simp only [fr_23 h, fm_14 h, fm_35 h, hi_q h, hj_q h, si_q h, sj_q h, vv_5 h, vs_5 h, vv_7 h, vs_7 h, vv_8 h, vs_8 h, vv_9 h, vs_9 h, vv_11 h, vs_11 h, vv_17 h, vs_17 h, vv_18 h, vs_18 h, vj_3 h, vj_4 h, vj_5 h, ex_some, ex_def, all_def, true_and, and_true, Nat.reduceLT, e0, not_false_eq_true, true_implies, not_true_eq_false, false_implies, true_and, and_true, false_and, and_false, forall_const, imp_self, implies_true, if_true, if_false, eq_self, Bool.true_eq_false, Bool.false_eq_true, false_or, or_false, true_or, or_true, i60, nI_clamp (show 60 * j + k < 2 ^ 31 by omega), vin (show 60 * j + k < 12000 by omega) (show 12000 < 2 ^ 31 by decide), nI_clamp (show k < 2 ^ 31 by omega), vin (show k < 60 by omega) (show 60 < 2 ^ 31 by decide), (mu 1).e (show 14 < 26 by decide), ← nI_succ]
        have ef : upR J1 1 35 g 1 35 k = J1 1 35 k := by
          have : upR J1 1 35 g 1 35 = g := funext fun p => by simp [upR]
          rw [this, hy k (by omega), if_neg (by omega)]
        rw [ef]
        have eq : ∀ v, up3 (upR J1 1 35 g) 1 35 k v = upR J1 1 35 (fun y => if y = k then v else g y) := fun v => by
          funext c i p
          unfold up3 upR
          by_cases e : c = 1 ∧ i = 35
          · obtain ⟨rfl, rfl⟩ := e
            by_cases e2 : p = k
            · simp [e2]
            · simp [e2]
          · have : ¬ (c = 1 ∧ i = 35 ∧ p = k) := fun z => e ⟨z.1, z.2.1⟩
            simp [e, this]
        rw [eq]
        refine ih (k + 1) fu _ (by omega) (by omega) (fun y hy60 => ?_)
        by_cases e : y = k
        · subst e; simp
        · simp only [e, if_false, show y < k + 1 ↔ y < k by omega]; exact hy y hy60
    have := key 60 0 FU (fun y => J1 1 35 y) (by omega) (by unfold FU; omega) (fun y hy => by simp)
    rw [show upR J1 1 35 (fun y => J1 1 35 y) = J1 from by funext c i p; unfold upR; by_cases e : c = 1 ∧ i = 35 <;> simp [e]] at this
    exact this
  · have fz : ¬ fkE E j = 0 := fun q => z (hf0.mpr q)
    have ev : endV E j = 2 := by unfold endV; rw [if_neg fz]
    rw [ev] at hQ
    refine p_resm (mu 2) hj (fun g hg => ⟨fr_23 h _ _ _, ?_⟩)
    rw [← e30 2]
    have b1 : oB s j ≤ oM s := hw.2.2.2.2.1 j hj (by rw [h6]; rfl)
    have mM : oM s ≤ 1000000 := hw.2.2.2.2.2.2
    have ef : farM (up3 (up3 I1 1 31 j (fkE E j)) 1 26 j 2) j = faI (mv s j 2) j := by
      rw [farM_of (a := oM s) (b := oB s j) (I1 := up3 (up3 I1 1 31 j (fkE E j)) 1 26 j 2) ?_ ?_ (by omega) (by omega)]
      · unfold faI; rw [mv_s, mv_e, if_pos (show edd 2 = true from rfl)]; rfl
      · rw [up3_off (by omega), up3_off (by omega), f.2.1, (hr.1 j hj).2.1]; unfold bgI; rw [h6, if_pos (show bgn 6 = true from rfl)]
      · rw [up3_off (by omega), up3_off (by omega), f.2.2.1, if_pos rfl]; exact hr.2.2.2.2.2.2.1
    refine p_fin3 (x := 2) (J2 := upR J1 1 35 g) (by have := (mu 2).Ju (i := 35) (f := g); rw [← e30 2] at this; exact this) hw hr hj h6 (Or.inr (Or.inl rfl)) f ?_ ?_ (fun y hy60 => ?_) (fun I' m' r' => hQ I' _ m' r')
    · unfold fkI; rw [mv_s, if_pos rfl]
    · unfold noI; rw [mv_s, if_neg (by decide)]
    · have e1 : upR J1 1 35 g 1 35 = g := funext fun p => by simp [upR]
      rw [e1, hg y hy60, ef, f35, hr.2.2.2.2.1 y hy60, lft_mv hj]
      have d1 : dlt E s y j = - (E 1 13 (60 * j + y)).toInt64 := by unfold dlt; rw [if_pos h6]
      have d2 : dlt E (mv s j 2) y j = rst E (mv s j 2) y j - (E 1 13 (60 * j + y)).toInt64 := by unfold dlt; rw [mv_s]; simp
      rw [d1, d2]; unfold rst; grind
end MF
