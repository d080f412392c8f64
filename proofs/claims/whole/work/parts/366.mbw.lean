section MW
variable {A : Nat → Nat → Nat} {B : Nat → Nat × Nat} {S : Hp} {nc nw nm nj : Nat} {cw jc : Nat → Nat} {I : FI} {J : FJ} {R : FR} {xs : Nat → Int32} {L : Nat} {l4 : Int32}
variable {E K : FI} {L' : FJ} {od : Nat → Nat} {s : Rs} {j x d : Nat} {Q : Hp → Prop}
theorem p_bw55 {K2 : Hp → Prop} (hm : mx A B S nc nw nm nj cw jc od E K L' I J R) (hj : j < nj) (hfree : ∀ m, m < 40 → E 1 12 (40 * j + m) = 1 → I 1 33 m = -1) (hK : ∀ I', mx A B S nc nw nm nj cw jc od E K L' I' J R → (∀ c i p, ¬ (c = 1 ∧ (i = 33 ∨ i = 34)) → I' c i p = I c i p) → (∀ m, m < 40 → I' 1 33 m = if E 1 12 (40 * j + m) = 1 then nI j else I 1 33 m) → (∀ m, m < 40 → I' 1 34 m = if E 1 12 (40 * j + m) = 1 then nI j else I 1 34 m) → K2 (hq A B S I' J R)) : ∀ (r k fu : Nat) (I2 : FI), k + r = nm → r < fu → mx A B S nc nw nm nj cw jc od E K L' I2 J R → (∀ c i p, ¬ (c = 1 ∧ (i = 33 ∨ i = 34)) → I2 c i p = I c i p) → (∀ m, m < 40 → I2 1 33 m = if m < k ∧ E 1 12 (40 * j + m) = 1 then nI j else I 1 33 m) → (∀ m, m < 40 → I2 1 34 m = if m < k ∧ E 1 12 (40 * j + m) = 1 then nI j else I 1 34 m) → wp_X12_beginsWork_L55 (A 0 23) (nI j) K2 Q fu (hq A B S I2 J R) (nI k) := by
  have h := hm.1
  have n4 := hm.n.2.2.2
  have n3 := hm.n.2.2.1
  intro r
  induction r with
  | zero =>
    intro k fu I2 hk hf hm2 f0 f3 f4
    obtain ⟨fu, rfl⟩ : ∃ z, fu = z + 1 := ⟨fu - 1, by omega⟩
    have : k = nm := by omega
    subst this
    rw [wp_X12_beginsWork_L55]
    simp only [fr_23 h, hi_q h, hj_q h, si_q h, sj_q h, vv_5 h, vs_5 h, vv_7 h, vs_7 h, vv_8 h, vs_8 h, vv_9 h, vs_9 h, vv_11 h, vs_11 h, vv_17 h, vs_17 h, vv_18 h, vs_18 h, vj_3 h, vj_4 h, vj_5 h, ex_some, ex_def, all_def, true_and, and_true, Nat.reduceLT, hm2.cn.2.2.1]
    have iff : ∀ m, m < 40 → ((m < k ∧ E 1 12 (40 * j + m) = 1) ↔ E 1 12 (40 * j + m) = 1) := fun m hm40 => ⟨fun z => z.2, fun z => ⟨(hm.nd hj hm40).2 z, z⟩⟩
    refine ⟨fun _ => hK I2 hm2 f0 (fun m hm40 => ?_) (fun m hm40 => ?_), fun z => absurd (Int32.le_refl _) z⟩
    · rw [f3 m hm40]; simp only [iff m hm40]
    · rw [f4 m hm40]; simp only [iff m hm40]
  | succ r ih =>
    intro k fu I2 hk hf hm2 f0 f3 f4
    obtain ⟨fu, rfl⟩ : ∃ z, fu = z + 1 := ⟨fu - 1, by omega⟩
    have hkn : k < nm := by omega
    have e0 : ¬ nI nm ≤ nI k := by rw [nI_leI (by omega) (by omega)]; omega
    rw [wp_X12_beginsWork_L55]
    simp only [fr_23 h, fm_12 h, fm_33 h, fm_34 h, hi_q h, hj_q h, si_q h, sj_q h, vv_5 h, vs_5 h, vv_7 h, vs_7 h, vv_8 h, vs_8 h, vv_9 h, vs_9 h, vv_11 h, vs_11 h, vv_17 h, vs_17 h, vv_18 h, vs_18 h, vj_3 h, vj_4 h, vj_5 h, ex_some, ex_def, all_def, true_and, and_true, Nat.reduceLT, exists_eq_left, Option.some.injEq, exists_eq_left', hm2.cn.2.2.1, e0, not_false_eq_true, true_implies, not_true_eq_false, false_implies, true_and, and_true, false_and, and_false, forall_const, imp_self, implies_true, if_true, if_false, eq_self, Bool.true_eq_false, Bool.false_eq_true, false_or, or_false, true_or, or_true, i40, nI_clamp (show 40 * j + k < 2 ^ 31 by omega), vin (show 40 * j + k < 8000 by omega) (show 8000 < 2 ^ 31 by decide), nI_clamp (show k < 2 ^ 31 by omega), vin (show k < 40 by omega) (show 40 < 2 ^ 31 by decide), hm2.e (show 12 < 26 by decide), (hm.nd hj (show k < 40 by omega)).1, ← nI_succ]
    refine ⟨fun z => ih (k + 1) fu I2 (by omega) (by omega) hm2 f0 (fun m hm40 => ?_) (fun m hm40 => ?_), fun z => ⟨fun q => ?_, fun q => ?_⟩⟩
    · rw [f3 m hm40]
      have : (m < k + 1 ∧ E 1 12 (40 * j + m) = 1) ↔ (m < k ∧ E 1 12 (40 * j + m) = 1) := ⟨fun ⟨a, b⟩ => ⟨by
        have : m ≠ k := fun q => z (by rw [← q]; exact b)
        omega, b⟩, fun ⟨a, b⟩ => ⟨by omega, b⟩⟩
      simp only [this]
    · rw [f4 m hm40]
      have : (m < k + 1 ∧ E 1 12 (40 * j + m) = 1) ↔ (m < k ∧ E 1 12 (40 * j + m) = 1) := ⟨fun ⟨a, b⟩ => ⟨by
        have : m ≠ k := fun q => z (by rw [← q]; exact b)
        omega, b⟩, fun ⟨a, b⟩ => ⟨by omega, b⟩⟩
      simp only [this]
    · have z' := Classical.not_not.mp z
      refine ih (k + 1) fu _ (by omega) (by omega) ((hm2.up rfl).up rfl) (fun c i p a => ?_) (fun m hm40 => ?_) (fun m hm40 => ?_)
      · rw [up3_off (by omega), up3_off (by omega)]; exact f0 c i p a
      · rw [up3_off (by omega)]
        by_cases q : m = k
        · rw [q, up3_same, if_pos ⟨by omega, z'⟩]
        · rw [up3_off (by omega), f3 m hm40]
          have : (m < k + 1 ∧ E 1 12 (40 * j + m) = 1) ↔ (m < k ∧ E 1 12 (40 * j + m) = 1) := ⟨fun ⟨a, b⟩ => ⟨by omega, b⟩, fun ⟨a, b⟩ => ⟨by omega, b⟩⟩
          simp only [this]
      · by_cases q : m = k
        · rw [q, up3_same, if_pos ⟨by omega, z'⟩]
        · rw [up3_off (by omega), up3_off (by omega), f4 m hm40]
          have : (m < k + 1 ∧ E 1 12 (40 * j + m) = 1) ↔ (m < k ∧ E 1 12 (40 * j + m) = 1) := ⟨fun ⟨a, b⟩ => ⟨by omega, b⟩, fun ⟨a, b⟩ => ⟨by omega, b⟩⟩
          simp only [this]
    · refine absurd ?_ q
      rw [f3 k (by omega), if_neg (by omega)]
      exact hfree k (by omega) (Classical.not_not.mp z)
theorem p_bw122 {K2 : Hp → Prop} (hm : mx A B S nc nw nm nj cw jc od E K L' I J R) (hj : j < nj) (hnn : ∀ y, y < 60 → (0 : Int64) ≤ J 1 35 y - (E 1 13 (60 * j + y)).toInt64) (hK : ∀ g, (∀ y, y < 60 → g y = J 1 35 y - (E 1 13 (60 * j + y)).toInt64) → K2 (hq A B S I (upR J 1 35 g) R)) : ∀ (r k fu : Nat) (g : Nat → Int64), k + r = 60 → r < fu → (∀ y, y < 60 → g y = if y < k then J 1 35 y - (E 1 13 (60 * j + y)).toInt64 else J 1 35 y) → wp_X12_beginsWork_L122 (A 0 23) (nI j) K2 Q fu (hq A B S I (upR J 1 35 g) R) (nI k) := by
  have h := hm.1
  have n4 := hm.n.2.2.2
  intro r
  induction r with
  | zero =>
    intro k fu g hk hf hy
    obtain ⟨fu, rfl⟩ : ∃ z, fu = z + 1 := ⟨fu - 1, by omega⟩
    have : k = 60 := by omega
    subst this
    rw [wp_X12_beginsWork_L122]
    refine ⟨fun _ => hK g (fun y hy60 => ?_), fun z => absurd (by decide) z⟩
    rw [hy y hy60, if_pos hy60]
  | succ r ih =>
    intro k fu g hk hf hy
    obtain ⟨fu, rfl⟩ : ∃ z, fu = z + 1 := ⟨fu - 1, by omega⟩
    have e0 : ¬ (60 : Int32) ≤ nI k := by rw [show (60 : Int32) = nI 60 from rfl, nI_leI (by decide) (by omega)]; omega
    have ef : upR J 1 35 g 1 35 k = J 1 35 k := by
      have : upR J 1 35 g 1 35 = g := funext fun p => by simp [upR]
      rw [this, hy k (by omega), if_neg (by omega)]
    rw [wp_X12_beginsWork_L122]
    simp only [fr_23 h, fm_13 h, fm_35 h, hi_q h, hj_q h, si_q h, sj_q h, vv_5 h, vs_5 h, vv_7 h, vs_7 h, vv_8 h, vs_8 h, vv_9 h, vs_9 h, vv_11 h, vs_11 h, vv_17 h, vs_17 h, vv_18 h, vs_18 h, vj_3 h, vj_4 h, vj_5 h, ex_some, ex_def, all_def, true_and, and_true, Nat.reduceLT, exists_eq_left, Option.some.injEq, exists_eq_left', e0, not_false_eq_true, true_implies, not_true_eq_false, false_implies, true_and, and_true, false_and, and_false, forall_const, imp_self, implies_true, if_true, if_false, eq_self, Bool.true_eq_false, Bool.false_eq_true, false_or, or_false, true_or, or_true, i60, nI_clamp (show 60 * j + k < 2 ^ 31 by omega), vin (show 60 * j + k < 12000 by omega) (show 12000 < 2 ^ 31 by decide), nI_clamp (show k < 2 ^ 31 by omega), vin (show k < 60 by omega) (show 60 < 2 ^ 31 by decide), hm.e (show 13 < 26 by decide), ef, up3_same, hnn k (by omega), ← nI_succ]
    have eq : ∀ v, up3 (upR J 1 35 g) 1 35 k v = upR J 1 35 (fun y => if y = k then v else g y) := fun v => by
      funext c i p
      unfold up3 upR
      by_cases e : c = 1 ∧ i = 35
      · obtain ⟨rfl, rfl⟩ := e
        by_cases e2 : p = k
        · simp [e2]
        · simp [e2]
      · have : ¬ (c = 1 ∧ i = 35 ∧ p = k) := fun z => e ⟨z.1, z.2.1⟩
        simp [e, this]
    rw [eq]
    refine ih (k + 1) fu _ (by omega) (by omega) (fun y hy60 => ?_)
    by_cases e : y = k
    · subst e; simp
    · simp only [e, if_false, show y < k + 1 ↔ y < k by omega]; exact hy y hy60
theorem p_bwm (hs : sB E nj) (hm : mx A B S nc nw nm nj cw jc od E K L' I J R) (hW : wW E nj nw cw jc s) (hr : rR E nj s I J) (hj : j < nj) (hc : can E nj cw jc s j) (hQ : ∀ w I' J', lfw nj cw s (jc j) w → w < nw → mx A B S nc nw nm nj cw jc od E K L' I' J' R → rR E nj (beg E s j w) I' J' → (∀ p, I' 1 45 p = I 1 45 p) → Q (hq A B S I' J' R)) : wp_X12_beginsWork (hq A B S I J R) (A 0 23) (nI j) Q := by
  have h := hm.1
  have n4 := hm.n.2.2.2
  have n2 := hm.n.2.1
  obtain ⟨e7, hcn⟩ := hm.jce hj
  obtain ⟨q1, q2, q3, q4, q5, q6, q7, q8⟩ := hr
  have h0 := hc.1.1
  unfold wp_X12_beginsWork
  simp only [fr_23 h, fm_7 h, hi_q h, hj_q h, si_q h, sj_q h, vv_5 h, vs_5 h, vv_7 h, vs_7 h, vv_8 h, vs_8 h, vv_9 h, vs_9 h, vv_11 h, vs_11 h, vv_17 h, vs_17 h, vv_18 h, vs_18 h, vj_3 h, vj_4 h, vj_5 h, ex_some, ex_def, all_def, true_and, and_true, Nat.reduceLT, exists_eq_left, Option.some.injEq, exists_eq_left', nI_clamp (show j < 2 ^ 31 by omega), vin (show j < 200 by omega) (show 200 < 2 ^ 31 by decide), hm.e (show 7 < 26 by decide), e7]
  refine p_fwm hm q2 hcn (fun w hl hnw => ?_) (fun z => absurd hc.2.1 z)
  obtain ⟨l1, l2, l3⟩ := lfw_in hl
  have a32 : up3 I 1 29 j (nI w) 1 32 w = -1 := by
    rw [up3_off (by omega)]
    rcases q2 w (by omega) with ⟨a, -⟩ | ⟨i, a, b, c, -⟩
    · exact a
    · exact absurd c (fre_t.mp l3 i a b)
  simp only [fr_23 h, fm_29 h, fm_32 h, hi_q h, hj_q h, si_q h, sj_q h, vv_5 h, vs_5 h, vv_7 h, vs_7 h, vv_8 h, vs_8 h, vv_9 h, vs_9 h, vv_11 h, vs_11 h, vv_17 h, vs_17 h, vv_18 h, vs_18 h, vj_3 h, vj_4 h, vj_5 h, ex_some, ex_def, all_def, true_and, and_true, Nat.reduceLT, exists_eq_left, Option.some.injEq, exists_eq_left', nI_clamp (show j < 2 ^ 31 by omega), vin (show j < 200 by omega) (show 200 < 2 ^ 31 by decide), up3_same, nI_clamp (show w < 2 ^ 31 by omega), vin (show w < 32 by omega) (show 32 < 2 ^ 31 by decide), a32, not_false_eq_true, true_implies, not_true_eq_false, false_implies, true_and, and_true, false_and, and_false, forall_const, imp_self, implies_true, if_true, if_false, eq_self, Bool.true_eq_false, Bool.false_eq_true, false_or, or_false, true_or, or_true]
  have m1 : mx A B S nc nw nm nj cw jc od E K L' (up3 (up3 I 1 29 j (nI w)) 1 32 w (nI j)) J R := (hm.up rfl).up rfl
  refine p_bw55 (I := up3 (up3 I 1 29 j (nI w)) 1 32 w (nI j)) m1 hj (fun m hm40 e => ?_) (fun I2 m2 g0 g33 g34 => ?_) nm 0 FU _ (by omega) (by have := hm.n.2.2.1; unfold FU; omega) m1 (fun c i p _ => rfl) (fun m _ => by rw [if_neg (by omega)]) (fun m _ => by rw [if_neg (by omega)])
  · rw [up3_off (by omega), up3_off (by omega), q3 m hm40]; exact hc.2.2.1 m hm40 e
  have lb : ∀ y, y < 60 → J 1 35 y - (E 1 13 (60 * j + y)).toInt64 = lft E nj (beg E s j w) y := fun y hy => by rw [lft_bg hj h0, q5 y hy]
  have key := fun K2 hK => p_bw122 (Q := Q) (K2 := K2) m2 hj (fun y hy => by rw [lb y hy, Int64.le_iff_toInt_le]; exact nng_bg (w := w) hs hW.2.1 hW.2.2 hj hc y hy) hK 60 0 FU (fun y => J 1 35 y) (by omega) (by unfold FU; omega) (fun y hy => by simp)
  rw [show upR J 1 35 (fun y => J 1 35 y) = J from by funext c i p; unfold upR; by_cases e : c = 1 ∧ i = 35 <;> simp [e]] at key
  refine key _ (fun g hg => ?_)
  have g24 : I2 0 23 24 = nI (oM s) := by rw [g0 0 23 24 (by omega), up3_off (by omega), up3_off (by omega)]; exact q7
  simp only [fr_23 h, fm_26 h, fm_27 h, hi_q h, hj_q h, si_q h, sj_q h, vv_5 h, vs_5 h, vv_7 h, vs_7 h, vv_8 h, vs_8 h, vv_9 h, vs_9 h, vv_11 h, vs_11 h, vv_17 h, vs_17 h, vv_18 h, vs_18 h, vj_3 h, vj_4 h, vj_5 h, ex_some, ex_def, all_def, true_and, and_true, Nat.reduceLT, exists_eq_left, Option.some.injEq, exists_eq_left', nI_clamp (show j < 2 ^ 31 by omega), vin (show j < 200 by omega) (show 200 < 2 ^ 31 by decide), g24]
  have gg : ∀ c i p, ¬ (c = 1 ∧ (i = 33 ∨ i = 34 ∨ i = 29 ∨ i = 32)) → I2 c i p = I c i p := fun c i p a => by rw [g0 c i p (by omega), up3_off (by omega), up3_off (by omega)]
  have m3 : mx A B S nc nw nm nj cw jc od E K L' (up3 (up3 I2 1 27 j (nI (oM s))) 1 26 j 6) (upR J 1 35 g) R := ((m2.up rfl).up rfl).Ju
  have eO : oS (beg E s j w) = oS (mv s j 6) := rfl
  refine p_telm (s := s) (s' := beg E s j w) (k := 5) (m := oM s) m3 (rEv_c q6 (fun p => ?_) (fun p => ?_) (fun p => ?_) ?_) ?_ hj (by rw [h0]; decide) hW.1.2.2.2.2.2.2 (by decide) (ev_new n4 hW.1.1 hj (Or.inl h0) (by decide) (by omega)) (by rw [eO]; exact evs_mv (x := 6) hj (b := 1) (by rw [h0]; rfl)) (fun z => ev_bg hj h0 z) (fun I' m' e' r' => hQ w I' _ hl hnw m' ⟨fun i hi => ?_, fun w' hw' => ?_, fun m hm40 => ?_, fun m hm40 => ?_, fun y hy => ?_, r', ?_, ?_⟩ (fun p => ?_))
  · rw [up3_off (by omega), up3_off (by omega), gg _ _ _ (by omega)]
  · rw [up3_off (by omega), up3_off (by omega), gg _ _ _ (by omega)]
  · rw [up3_off (by omega), up3_off (by omega), gg _ _ _ (by omega)]
  · rw [up3_off (by omega), up3_off (by omega), gg _ _ _ (by omega)]
  · rw [up3_off (by omega), up3_off (by omega)]; exact g24
  · obtain ⟨a1, a2, a3, a4, a5, a6⟩ := q1 i hi
    rw [e' 1 26 i (by omega) (by omega), e' 1 27 i (by omega) (by omega), e' 1 28 i (by omega) (by omega), e' 1 29 i (by omega) (by omega), e' 1 30 i (by omega) (by omega), e' 1 31 i (by omega) (by omega)]
    have x28 : up3 (up3 I2 1 27 j (nI (oM s))) 1 26 j 6 1 28 i = I 1 28 i := by rw [up3_off (by omega), up3_off (by omega), gg _ _ _ (by omega)]
    have x30 : up3 (up3 I2 1 27 j (nI (oM s))) 1 26 j 6 1 30 i = I 1 30 i := by rw [up3_off (by omega), up3_off (by omega), gg _ _ _ (by omega)]
    have x31 : up3 (up3 I2 1 27 j (nI (oM s))) 1 26 j 6 1 31 i = I 1 31 i := by rw [up3_off (by omega), up3_off (by omega), gg _ _ _ (by omega)]
    have x29 : up3 (up3 I2 1 27 j (nI (oM s))) 1 26 j 6 1 29 i = up3 I 1 29 j (nI w) 1 29 i := by rw [up3_off (by omega), up3_off (by omega), g0 1 29 i (by omega), up3_off (by omega)]
    rw [x28, x30, x31, x29]
    by_cases e : i = j
    · subst e
      have t1 : bgI (beg E s i w) i = nI (oM s) := by unfold bgI; rw [bg_s, bg_b]; exact if_pos rfl
      have t2 : emI (beg E s i w) i = emI s i := by unfold emI; rw [bg_s, h0, if_neg (by decide), if_neg (by decide)]
      have t3 : wkI (beg E s i w) i = nI w := by unfold wkI; rw [bg_s, bg_w]; exact if_pos rfl
      have t5 : noI E (beg E s i w) i = noI E s i := by unfold noI; rw [bg_s, h0, if_neg (by decide), if_neg (by decide)]
      have t6 : fkI E (beg E s i w) i = fkI E s i := by unfold fkI; rw [bg_s, h0, if_neg (by decide), if_neg (by decide)]
      rw [bg_s, t1, t2, t3, t5, t6, up3_same, up3_same, up3_off (by omega), up3_same]
      exact ⟨by decide, rfl, a3, rfl, a5, a6⟩
    · rw [bg_o e, bgI_bo e, emI_bo e, wkI_bo e, noI_bo e, fkI_bo e, up3_off (by omega), up3_off (by omega), up3_off (by omega), up3_off (by omega), up3_off (by omega), gg 1 26 i (by omega), gg 1 27 i (by omega)]
      exact ⟨a1, a2, a3, a4, a5, a6⟩
  · have x32 : I' 1 32 w' = up3 I 1 32 w (nI j) 1 32 w' := by
      rw [e' 1 32 w' (by omega) (by omega), up3_off (by omega), up3_off (by omega), g0 1 32 w' (by omega)]
      by_cases q : w' = w
      · rw [q, up3_same, up3_same]
      · rw [up3_off (by omega), up3_off (by omega), up3_off (by omega)]
    rw [x32, fre_bg hj h0]
    by_cases e : w' = w
    · right
      exact ⟨j, hj, bg_s _ _ _ _, by rw [bg_w, e], by rw [e, up3_same]⟩
    · rw [up3_off (by omega)]
      rcases q2 w' hw' with ⟨y1, y2⟩ | ⟨i, y1, y2, y3, y4⟩
      · left; exact ⟨y1, by rw [y2, decide_eq_false e]; rfl⟩
      · right
        have ei : ¬ i = j := fun z => by rw [z, h0] at y2; omega
        exact ⟨i, y1, by rw [bg_o ei]; exact y2, by rw [bg_wo ei]; exact y3, y4⟩
  · rw [e' 1 33 m (by omega) (by omega), up3_off (by omega), up3_off (by omega), g33 m hm40, bsy_bg hj h0]
    by_cases e : E 1 12 (40 * j + m) = 1
    · rw [if_pos e]
      exact ⟨fun z => absurd z (nI_nm1 (by omega)), fun z => absurd (Or.inr ⟨hm40, e⟩) z⟩
    · rw [if_neg e, up3_off (by omega), up3_off (by omega), q3 m hm40]
      exact ⟨fun z w => w.elim z (fun q => e q.2), fun z w => z (Or.inl w)⟩
  · rw [e' 1 34 m (by omega) (by omega), up3_off (by omega), up3_off (by omega), g34 m hm40]
    show _ = if m < 40 ∧ E 1 12 (40 * j + m) = 1 then nI j else oH s m
    by_cases e : E 1 12 (40 * j + m) = 1
    · rw [if_pos e, if_pos ⟨hm40, e⟩]
    · rw [if_neg e, if_neg (fun z => e z.2), up3_off (by omega), up3_off (by omega)]; exact q4 m hm40
  · have e1 : upR J 1 35 g 1 35 = g := funext fun p => by simp [upR]
    rw [e1, hg y hy, lb y hy]
  · rw [e' 0 23 24 (by omega) (by omega), up3_off (by omega), up3_off (by omega)]; exact g24
  · rw [e' 0 23 39 (by omega) (by omega), up3_off (by omega), up3_off (by omega), gg _ _ _ (by omega)]; exact q8
  · rw [e' 1 45 p (by omega) (by omega), up3_off (by omega), up3_off (by omega), gg _ _ _ (by omega)]
end MW
