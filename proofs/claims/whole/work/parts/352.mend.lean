section ME
variable {A : Nat → Nat → Nat} {B : Nat → Nat × Nat} {S : Hp} {nc nw nm nj : Nat} {cw jc : Nat → Nat} {I : FI} {J : FJ} {R : FR} {xs : Nat → Int32} {L : Nat} {l4 : Int32}
variable {E K : FI} {L' : FJ} {od : Nat → Nat} {s : Rs} {j x : Nat} {Q : Hp → Prop}
theorem p_resm (hm : mx A B S nc nw nm nj cw jc od E K L' I J R) (hj : j < nj) (hQ : ∀ f, (∀ y, y < 60 → f y = J 1 35 y + ((E 1 13 (60 * j + y)).toInt64 - (E 1 13 (60 * j + y)).toInt64 * (farM I j).toInt64 / (E 1 8 j).toInt64)) → Q (hq A B S I (upR J 1 35 f) R)) : wp_X12_restBack (hq A B S I J R) (A 0 23) (nI j) Q := by
  have h := hm.1
  have n4 := hm.n.2.2.2
  have m8 := (hm.st.2.2.2.1 j hj).2.2.2.2.2.1
  rw [hm.e (by decide)] at m8
  have mz : ¬ (E 1 8 j).toInt64 = 0 := fun z => by
    have := congrArg Int64.toInt z
    rw [Int32.toInt_toInt64] at this
    have : (0 : Int64).toInt = 0 := rfl
    omega
  unfold wp_X12_restBack
  have key : ∀ (r k fu : Nat) (f : Nat → Int64), k + r = 60 → r < fu → (∀ y, y < 60 → f y = if y < k then J 1 35 y + ((E 1 13 (60 * j + y)).toInt64 - (E 1 13 (60 * j + y)).toInt64 * (farM I j).toInt64 / (E 1 8 j).toInt64) else J 1 35 y) → wp_X12_restBack_L2 (A 0 23) (nI j) Q fu (hq A B S I (upR J 1 35 f) R) (nI k) := by
    intro r
    induction r with
    | zero =>
      intro k fu f hk hf hy
      obtain ⟨fu, rfl⟩ : ∃ z, fu = z + 1 := ⟨fu - 1, by omega⟩
      have : k = 60 := by omega
      subst this
      rw [wp_X12_restBack_L2]
      refine ⟨fun _ => hQ f (fun y hy60 => ?_), fun z => absurd (by decide) z⟩
      rw [hy y hy60, if_pos hy60]
    | succ r ih =>
      intro k fu f hk hf hy
      obtain ⟨fu, rfl⟩ : ∃ z, fu = z + 1 := ⟨fu - 1, by omega⟩
      have e0 : ¬ (60 : Int32) ≤ nI k := by rw [show (60 : Int32) = nI 60 from rfl, nI_leI (by decide) (by omega)]; omega
      rw [wp_X12_restBack_L2]
      simp only [fr_23 h, fm_13 h, fm_35 h, hi_q h, hj_q h, si_q h, sj_q h, vv_5 h, vs_5 h, vv_7 h, vs_7 h, vv_8 h, vs_8 h, vv_9 h, vs_9 h, vv_11 h, vs_11 h, vv_17 h, vs_17 h, vv_18 h, vs_18 h, vj_3 h, vj_4 h, vj_5 h, ex_some, ex_def, all_def, true_and, and_true, Nat.reduceLT, e0, not_false_eq_true, true_implies, not_true_eq_false, false_implies, true_and, and_true, false_and, and_false, forall_const, imp_self, implies_true, if_true, if_false, eq_self, Bool.true_eq_false, Bool.false_eq_true, false_or, or_false, true_or, or_true, i60, nI_clamp (show 60 * j + k < 2 ^ 31 by omega), vin (show 60 * j + k < 12000 by omega) (show 12000 < 2 ^ 31 by decide), nI_clamp (show k < 2 ^ 31 by omega), vin (show k < 60 by omega) (show 60 < 2 ^ 31 by decide), hm.e (show 13 < 26 by decide), ← nI_succ]
      refine p_far h (by omega) ?_
      simp only [fr_23 h, fm_8 h, fm_35 h, hi_q h, hj_q h, si_q h, sj_q h, vv_5 h, vs_5 h, vv_7 h, vs_7 h, vv_8 h, vs_8 h, vv_9 h, vs_9 h, vv_11 h, vs_11 h, vv_17 h, vs_17 h, vv_18 h, vs_18 h, vj_3 h, vj_4 h, vj_5 h, ex_some, ex_def, all_def, true_and, and_true, Nat.reduceLT, nI_clamp (show j < 2 ^ 31 by omega), vin (show j < 200 by omega) (show 200 < 2 ^ 31 by decide), hm.e (show 8 < 26 by decide), mz, not_false_eq_true, true_implies, not_true_eq_false, false_implies, true_and, and_true, false_and, and_false, forall_const, imp_self, implies_true, if_true, if_false, eq_self, Bool.true_eq_false, Bool.false_eq_true, false_or, or_false, true_or, or_true, nI_clamp (show k < 2 ^ 31 by omega), vin (show k < 60 by omega) (show 60 < 2 ^ 31 by decide)]
      have ef : upR J 1 35 f 1 35 k = J 1 35 k := by
        have : upR J 1 35 f 1 35 = f := funext fun p => by simp [upR]
        rw [this, hy k (by omega), if_neg (by omega)]
      rw [ef]
      have eq : ∀ v, up3 (upR J 1 35 f) 1 35 k v = upR J 1 35 (fun y => if y = k then v else f y) := fun v => by
        funext c i p
        unfold up3 upR
        by_cases e : c = 1 ∧ i = 35
        · obtain ⟨rfl, rfl⟩ := e
          by_cases e2 : p = k
          · simp [e2]
          · simp [e2]
        · have : ¬ (c = 1 ∧ i = 35 ∧ p = k) := fun z => e ⟨z.1, z.2.1⟩
          simp [e, this]
      rw [eq]
      refine ih (k + 1) fu _ (by omega) (by omega) (fun y hy60 => ?_)
      by_cases e : y = k
      · subst e; simp
      · simp only [e, if_false, show y < k + 1 ↔ y < k by omega]; exact hy y hy60
  have := key 60 0 FU (fun y => J 1 35 y) (by omega) (by unfold FU; omega) (fun y hy => by simp)
  rw [show upR J 1 35 (fun y => J 1 35 y) = J from by funext c i p; unfold upR; by_cases e : c = 1 ∧ i = 35 <;> simp [e]] at this
  exact this
theorem rR_mv {I' : FI} {J' : FJ} (hw : wf E nj nw cw jc s) (hr : rR E nj s I J) (hj : j < nj) (h6 : oS s j = 6) (hx : x = 1 ∨ x = 2 ∨ x = 4) (v26 : ∀ i, I' 1 26 i = if i = j then nI x else I 1 26 i) (v27 : ∀ i, I' 1 27 i = I 1 27 i) (v28 : ∀ i, I' 1 28 i = if i = j then nI (oM s) else I 1 28 i) (v29 : ∀ i, I' 1 29 i = I 1 29 i) (v30 : ∀ i, I' 1 30 i = if i = j then noI E (mv s j x) j else I 1 30 i) (v31 : ∀ i, I' 1 31 i = if i = j then fkI E (mv s j x) j else I 1 31 i) (v32 : ∀ i, I' 1 32 i = if i = oW s j then -1 else I 1 32 i) (v33 : ∀ m, m < 40 → I' 1 33 m = if E 1 12 (40 * j + m) = 1 then -1 else I 1 33 m) (v34 : ∀ m, I' 1 34 m = I 1 34 m) (v35 : ∀ y, y < 60 → J' 1 35 y = lft E nj (mv s j x) y) (ev : rEv nj (mv s j x) I') (mi : rMi (mv s j x) I') : rR E nj (mv s j x) I' J' := by
  obtain ⟨q1, q2, q3, q4, q5, q6, q7⟩ := hr
  have bx : bgn x = true := by rcases hx with rfl | rfl | rfl <;> rfl
  have ex : edd x = true := by rcases hx with rfl | rfl | rfl <;> rfl
  have b6 : bgn (oS s j) = true := by rw [h6]; rfl
  refine ⟨fun i hi => ?_, fun w hw32 => ?_, fun m hm => ?_, fun m hm => ?_, v35, ev, mi⟩
  · obtain ⟨a1, a2, a3, a4, a5, a6⟩ := q1 i hi
    rw [v26, v27, v28, v29, v30, v31]
    by_cases e : i = j
    · subst e
      have t1 : bgI (mv s i x) i = bgI s i := by unfold bgI; rw [mv_s, bx, b6]; rfl
      have t2 : emI (mv s i x) i = nI (oM s) := by unfold emI; rw [mv_s, ex, mv_e]; exact if_pos rfl
      have t3 : wkI (mv s i x) i = wkI s i := by unfold wkI; rw [mv_s, bx, b6]; rfl
      rw [if_pos rfl, if_pos rfl, if_pos rfl, if_pos rfl, mv_s, t1, t2, t3]
      exact ⟨rfl, a2, rfl, a4, rfl, rfl⟩
    · rw [if_neg e, if_neg e, if_neg e, if_neg e, mv_o e, bgI_o e, emI_o e, wkI_o e, noI_o e, fkI_o e]
      exact ⟨a1, a2, a3, a4, a5, a6⟩
  · rw [v32, fre_mv hw hj h6 (by omega)]
    by_cases e : w = oW s j
    · left; rw [if_pos e, decide_eq_true e]; exact ⟨rfl, by simp⟩
    · rw [if_neg e]
      rcases q2 w hw32 with ⟨y1, y2⟩ | ⟨i, y1, y2, y3, y4⟩
      · left; exact ⟨y1, by rw [y2]; rfl⟩
      · right
        have ei : ¬ i = j := fun z => e (by rw [← y3, z])
        exact ⟨i, y1, by rw [mv_o ei]; exact y2, y3, y4⟩
  · rw [v33 m hm, bsy_mv hw hj h6 (by omega)]
    by_cases e : E 1 12 (40 * j + m) = 1
    · rw [if_pos e]
      exact ⟨fun _ z => z.2 ⟨hm, e⟩, fun _ => rfl⟩
    · rw [if_neg e, q3 m hm]
      exact ⟨fun z w => z w.1, fun z w => z ⟨w, fun q => e q.2⟩⟩
  · rw [v34]; exact q4 m hm
end ME
