/-! the reference's bodies -/
def bI (I : FI) (v : Int32) (g : Nat → Int32) : FI := fun c i p => if c = 0 ∧ i = 23 ∧ p = 41 then v else if c = 1 ∧ i = 42 then g p else I c i p
def bJ (J : FJ) (f u : Nat → Int64) : FJ := fun c i p => if c = 1 ∧ i = 40 then f p else if c = 1 ∧ i = 43 then u p else J c i p
theorem bI_v (I : FI) (v w : Int32) (g : Nat → Int32) : up3 (bI I v g) 0 23 41 w = bI I w g := by
  funext c i p
  unfold up3 bI
  by_cases e : c = 0 ∧ i = 23 ∧ p = 41 <;> simp [e]
theorem bI_g (I : FI) (v w : Int32) (g : Nat → Int32) (q : Nat) : up3 (bI I v g) 1 42 q w = bI I v (fun p => if p = q then w else g p) := by
  funext c i p
  unfold up3 bI
  by_cases e : c = 0 ∧ i = 23 ∧ p = 41
  · obtain ⟨rfl, rfl, rfl⟩ := e; simp
  · by_cases e2 : c = 1 ∧ i = 42
    · obtain ⟨rfl, rfl⟩ := e2; simp
    · have e3 : ¬ (c = 1 ∧ i = 42 ∧ p = q) := fun w => e2 ⟨w.1, w.2.1⟩
      simp only [e, e2, e3, if_false]
theorem bJ_f (J : FJ) (f u : Nat → Int64) (w : Int64) (q : Nat) : up3 (bJ J f u) 1 40 q w = bJ J (fun p => if p = q then w else f p) u := by
  funext c i p
  unfold up3 bJ
  by_cases e2 : c = 1 ∧ i = 40
  · obtain ⟨rfl, rfl⟩ := e2; simp
  · have e3 : ¬ (c = 1 ∧ i = 40 ∧ p = q) := fun w => e2 ⟨w.1, w.2.1⟩
    simp only [e2, e3, if_false]
theorem bJ_u (J : FJ) (f u : Nat → Int64) (w : Int64) (q : Nat) : up3 (bJ J f u) 1 43 q w = bJ J f (fun p => if p = q then w else u p) := by
  funext c i p
  unfold up3 bJ
  by_cases e : c = 1 ∧ i = 40
  · obtain ⟨rfl, rfl⟩ := e; simp
  · by_cases e2 : c = 1 ∧ i = 43
    · obtain ⟨rfl, rfl⟩ := e2; simp
    · have e3 : ¬ (c = 1 ∧ i = 43 ∧ p = q) := fun w => e2 ⟨w.1, w.2.1⟩
      simp only [e, e2, e3, if_false]
theorem bI_self (I : FI) : bI I (I 0 23 41) (I 1 42) = I := by
  funext c i p
  unfold bI
  by_cases e : c = 0 ∧ i = 23 ∧ p = 41
  · obtain ⟨rfl, rfl, rfl⟩ := e; simp
  · by_cases e2 : c = 1 ∧ i = 42
    · obtain ⟨rfl, rfl⟩ := e2; simp
    · simp only [e, e2, if_false]
theorem bJ_self (J : FJ) : bJ J (J 1 40) (J 1 43) = J := by
  funext c i p
  unfold bJ
  by_cases e : c = 1 ∧ i = 40
  · obtain ⟨rfl, rfl⟩ := e; simp
  · by_cases e2 : c = 1 ∧ i = 43
    · obtain ⟨rfl, rfl⟩ := e2; simp
    · simp only [e, e2, if_false]
theorem bI_42 (I : FI) (v : Int32) (g : Nat → Int32) (p : Nat) : bI I v g 1 42 p = g p := by simp [bI]
theorem bI_41 (I : FI) (v : Int32) (g : Nat → Int32) : bI I v g 0 23 41 = v := by simp [bI]
theorem bI_o (I : FI) (v : Int32) (g : Nat → Int32) {k : Nat} (hk : k ≠ 42) (p : Nat) : bI I v g 1 k p = I 1 k p := by simp [bI, hk]
theorem bJ_40 (J : FJ) (f u : Nat → Int64) (p : Nat) : bJ J f u 1 40 p = f p := by simp [bJ]
theorem bJ_43 (J : FJ) (f u : Nat → Int64) (p : Nat) : bJ J f u 1 43 p = u p := by simp [bJ]
def mB (I : FI) (j n : Nat) (a b : Int32) (x : Nat → Int32) : Prop := j < 200 ∧ n ≤ 30 ∧ 0 < n ∧ I 1 19 j = nI n ∧ I 1 16 j = a ∧ I 1 17 j = b ∧ ∀ i, I 1 18 (30 * j + i) = x i
section MB
variable {A : Nat → Nat → Nat} {B : Nat → Nat × Nat} {S : Hp} {nc nw nm nj : Nat} {cw jc : Nat → Nat} {I : FI} {J : FJ} {R : FR} {xs : Nat → Int32} {L : Nat} {l4 : Int32}
variable {j n : Nat} {a b v : Int32} {x g : Nat → Int32} {f u : Nat → Int64} {Q : Int32 → Hp → Prop}
theorem p_num (h : Sh A B S nj nc) (hm : mB I j n a b x) {i : Nat} (hi : i < 30) (hk : Q (x i) (hq A B S (bI I v g) (bJ J f u) R)) : wp_X12_number (hq A B S (bI I v g) (bJ J f u) R) (A 0 23) (nI j) (nI i) Q := by
  have hj := hm.1
  unfold wp_X12_number
  simp only [fr_23 h, fm_18 h, hi_q h, hj_q h, si_q h, sj_q h, vv_5 h, vs_5 h, vv_7 h, vs_7 h, vv_8 h, vs_8 h, vv_9 h, vs_9 h, vv_11 h, vs_11 h, vv_17 h, vs_17 h, vv_18 h, vs_18 h, vj_3 h, vj_4 h, vj_5 h, ex_some, ex_def, all_def, true_and, and_true, Nat.reduceLT, i30, nI_clamp (show 30 * j + i < 2 ^ 31 by omega), vin (show 30 * j + i < 6000 by omega) (show 6000 < 2 ^ 31 by decide), bI_o I v g (show 18 ≠ 42 by decide), hm.2.2.2.2.2.2 i]
  exact hk
theorem p_mbel (h : Sh A B S nj nc) (hm : mB I j n a b x) (hk : Q (if bBelow a n x = true then 1 else 0) (hq A B S (bI I v g) (bJ J f u) R)) : ∀ (r k m : Nat), k + r = n → r < m → (∀ i, i < k → ¬ x i < 0) → wp_X12_isBelow_L2 (A 0 23) (nI j) Q m (hq A B S (bI I v g) (bJ J f u) R) (nI k) := by
  obtain ⟨hj, hn, h0, e19, e16, e17, -⟩ := id hm
  intro r
  induction r with
  | zero =>
    intro k m e hr hz
    obtain ⟨m, rfl⟩ : ∃ q, m = q + 1 := ⟨m - 1, by omega⟩
    obtain rfl : k = n := by omega
    rw [wp_X12_isBelow_L2]
    simp only [fr_23 h, fm_19 h, fm_16 h, hi_q h, hj_q h, si_q h, sj_q h, vv_5 h, vs_5 h, vv_7 h, vs_7 h, vv_8 h, vs_8 h, vv_9 h, vs_9 h, vv_11 h, vs_11 h, vv_17 h, vs_17 h, vv_18 h, vs_18 h, vj_3 h, vj_4 h, vj_5 h, ex_some, ex_def, all_def, true_and, and_true, Nat.reduceLT, nI_clamp (show j < 2 ^ 31 by omega), vin hj (show 200 < 2 ^ 31 by decide), bI_o I v g (show 19 ≠ 42 by decide), bI_o I v g (show 16 ≠ 42 by decide), e19, e16]
    have hz2 : anyB k (fun i => decide (x i < 0)) = false := anyB_no.mpr (fun i hi => decide_eq_false (hz i hi))
    unfold bBelow at hk
    rw [hz2, Bool.or_false] at hk
    refine ⟨fun _ => ⟨fun w => ?_, fun w => ?_⟩, fun z => absurd (nI_le (Nat.le_refl _) (by omega)) z⟩
    · rw [if_neg (by rw [decide_eq_false (i_nlt.mpr w)]; decide)] at hk; exact hk
    · rw [if_pos (decide_eq_true (i_nle.mp w))] at hk; exact hk
  | succ r ih =>
    intro k m e hr hz
    obtain ⟨m, rfl⟩ : ∃ q, m = q + 1 := ⟨m - 1, by omega⟩
    rw [wp_X12_isBelow_L2]
    simp only [fr_23 h, fm_19 h, fm_16 h, hi_q h, hj_q h, si_q h, sj_q h, vv_5 h, vs_5 h, vv_7 h, vs_7 h, vv_8 h, vs_8 h, vv_9 h, vs_9 h, vv_11 h, vs_11 h, vv_17 h, vs_17 h, vv_18 h, vs_18 h, vj_3 h, vj_4 h, vj_5 h, ex_some, ex_def, all_def, true_and, and_true, Nat.reduceLT, nI_clamp (show j < 2 ^ 31 by omega), vin hj (show 200 < 2 ^ 31 by decide), bI_o I v g (show 19 ≠ 42 by decide), bI_o I v g (show 16 ≠ 42 by decide), e19, e16]
    refine ⟨fun z => absurd z (nI_ge (by omega) (by omega)), fun _ => p_num h hm (by omega) ?_⟩
    rw [show nI k + 1 = nI (k + 1) from (nI_succ k).symm]
    refine ⟨fun w => ih (k + 1) m (by omega) (by omega) (fun i hi => ?_), fun w => ?_⟩
    · by_cases q : i = k
      · rw [q]; exact i_nlt.mpr w
      · exact hz i (by omega)
    · have : bBelow a n x = true := by
        unfold bBelow
        rw [anyB_of (k := k) (by omega) (decide_eq_true (i_nle.mp w)), Bool.or_true]
      rw [this, if_pos rfl] at hk
      exact hk
theorem p_msum {Q : Int64 → Hp → Prop} (h : Sh A B S nj nc) (hm : mB I j n a b x) (hk : Q (bSum n x) (hq A B S (bI I v g) (bJ J f u) R)) : ∀ (r k m : Nat), k + r = n → r < m → wp_X12_sumOf_L5 (A 0 23) (nI j) Q m (hq A B S (bI I v g) (bJ J f u) R) (bSum k x) (nI k) := by
  obtain ⟨hj, hn, h0, e19, e16, e17, ex⟩ := id hm
  intro r
  induction r with
  | zero =>
    intro k m e hr
    obtain ⟨m, rfl⟩ : ∃ q, m = q + 1 := ⟨m - 1, by omega⟩
    obtain rfl : k = n := by omega
    rw [wp_X12_sumOf_L5]
    simp only [fr_23 h, fm_19 h, hi_q h, hj_q h, si_q h, sj_q h, vv_5 h, vs_5 h, vv_7 h, vs_7 h, vv_8 h, vs_8 h, vv_9 h, vs_9 h, vv_11 h, vs_11 h, vv_17 h, vs_17 h, vv_18 h, vs_18 h, vj_3 h, vj_4 h, vj_5 h, ex_some, ex_def, all_def, true_and, and_true, Nat.reduceLT, nI_clamp (show j < 2 ^ 31 by omega), vin hj (show 200 < 2 ^ 31 by decide), bI_o I v g (show 19 ≠ 42 by decide), e19]
    exact ⟨fun _ => hk, fun z => absurd (nI_le (Nat.le_refl _) (by omega)) z⟩
  | succ r ih =>
    intro k m e hr
    obtain ⟨m, rfl⟩ : ∃ q, m = q + 1 := ⟨m - 1, by omega⟩
    rw [wp_X12_sumOf_L5]
    simp only [fr_23 h, fm_19 h, hi_q h, hj_q h, si_q h, sj_q h, vv_5 h, vs_5 h, vv_7 h, vs_7 h, vv_8 h, vs_8 h, vv_9 h, vs_9 h, vv_11 h, vs_11 h, vv_17 h, vs_17 h, vv_18 h, vs_18 h, vj_3 h, vj_4 h, vj_5 h, ex_some, ex_def, all_def, true_and, and_true, Nat.reduceLT, nI_clamp (show j < 2 ^ 31 by omega), vin hj (show 200 < 2 ^ 31 by decide), bI_o I v g (show 19 ≠ 42 by decide), e19]
    refine ⟨fun z => absurd z (nI_ge (by omega) (by omega)), fun _ => ?_⟩
    unfold wp_X12_number
    simp only [fr_23 h, fm_18 h, hi_q h, hj_q h, si_q h, sj_q h, vv_5 h, vs_5 h, vv_7 h, vs_7 h, vv_8 h, vs_8 h, vv_9 h, vs_9 h, vv_11 h, vs_11 h, vv_17 h, vs_17 h, vv_18 h, vs_18 h, vj_3 h, vj_4 h, vj_5 h, ex_some, ex_def, all_def, true_and, and_true, Nat.reduceLT, i30, nI_clamp (show 30 * j + k < 2 ^ 31 by omega), vin (show 30 * j + k < 6000 by omega) (show 6000 < 2 ^ 31 by decide), bI_o I v g (show 18 ≠ 42 by decide), ex k]
    rw [show nI k + 1 = nI (k + 1) from (nI_succ k).symm]
    exact ih (k + 1) m (by omega) (by omega)
theorem p_mshr {Q : Int64 → Hp → Prop} (h : Sh A B S nj nc) (hm : mB I j n a b x) (hs : ¬ bSum n x = 0) (hk : Q (ovr a n x n) (hq A B S (bI I v g) (bJ J (fun p => if p < n then qt a n x p else f p) u) R)) : ∀ (r k m : Nat), k + r = n → r < m → wp_X12_shares_L12 (A 0 23) (nI j) (bSum n x) Q m (hq A B S (bI I v g) (bJ J (fun p => if p < k then qt a n x p else f p) u) R) (ovr a n x k) (nI k) := by
  obtain ⟨hj, hn, h0, e19, e16, e17, ex⟩ := id hm
  intro r
  induction r with
  | zero =>
    intro k m e hr
    obtain ⟨m, rfl⟩ : ∃ q, m = q + 1 := ⟨m - 1, by omega⟩
    obtain rfl : k = n := by omega
    rw [wp_X12_shares_L12]
    simp only [fr_23 h, fm_19 h, hi_q h, hj_q h, si_q h, sj_q h, vv_5 h, vs_5 h, vv_7 h, vs_7 h, vv_8 h, vs_8 h, vv_9 h, vs_9 h, vv_11 h, vs_11 h, vv_17 h, vs_17 h, vv_18 h, vs_18 h, vj_3 h, vj_4 h, vj_5 h, ex_some, ex_def, all_def, true_and, and_true, Nat.reduceLT, nI_clamp (show j < 2 ^ 31 by omega), vin hj (show 200 < 2 ^ 31 by decide), bI_o I v g (show 19 ≠ 42 by decide), e19]
    exact ⟨fun _ => hk, fun z => absurd (nI_le (Nat.le_refl _) (by omega)) z⟩
  | succ r ih =>
    intro k m e hr
    obtain ⟨m, rfl⟩ : ∃ q, m = q + 1 := ⟨m - 1, by omega⟩
    have e1 : (fun p => if p = k then wh a x k / bSum n x else if p < k then qt a n x p else f p) = (fun p => if p < k + 1 then qt a n x p else f p) := by
      funext p
      by_cases q : p = k
      · subst q; simp [qt]
      · have : p < k + 1 ↔ p < k := by omega
        simp only [q, if_false, this]
    rw [wp_X12_shares_L12]
    simp only [fr_23 h, fm_19 h, fm_16 h, hi_q h, hj_q h, si_q h, sj_q h, vv_5 h, vs_5 h, vv_7 h, vs_7 h, vv_8 h, vs_8 h, vv_9 h, vs_9 h, vv_11 h, vs_11 h, vv_17 h, vs_17 h, vv_18 h, vs_18 h, vj_3 h, vj_4 h, vj_5 h, ex_some, ex_def, all_def, true_and, and_true, Nat.reduceLT, nI_clamp (show j < 2 ^ 31 by omega), vin hj (show 200 < 2 ^ 31 by decide), bI_o I v g (show 19 ≠ 42 by decide), bI_o I v g (show 16 ≠ 42 by decide), e19, e16]
    refine ⟨fun z => absurd z (nI_ge (by omega) (by omega)), fun _ => p_num h hm (by omega) ?_⟩
    simp only [fr_23 h, fm_40 h, hi_q h, hj_q h, si_q h, sj_q h, vv_5 h, vs_5 h, vv_7 h, vs_7 h, vv_8 h, vs_8 h, vv_9 h, vs_9 h, vv_11 h, vs_11 h, vv_17 h, vs_17 h, vv_18 h, vs_18 h, vj_3 h, vj_4 h, vj_5 h, ex_some, ex_def, all_def, true_and, and_true, Nat.reduceLT, nI_clamp (show k < 2 ^ 31 by omega), vin (show k < 30 by omega) (show 30 < 2 ^ 31 by decide), bJ_f, bJ_40, hs, not_false_eq_true]
    rw [show nI k + 1 = nI (k + 1) from (nI_succ k).symm]
    rw [show a.toInt64 * (x k).toInt64 = wh a x k from rfl, e1]
    have := ih (k + 1) m (by omega) (by omega)
    simp only [if_true]
    exact this
end MB
