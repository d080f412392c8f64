section AU
variable {A : Nat → Nat → Nat} {B : Nat → Nat × Nat} {S : Hp} {nc nw nm nj : Nat} {cw jc : Nat → Nat} {I : FI} {J : FJ} {R : FR} {xs : Nat → Int32} {L : Nat} {l4 : Int32}
/-- the reference's closure, by the index -/
def lnC (nj j b : Nat) (r : Nat → Int32) (p : Nat) : Bool := decide (p / 200 < nj) && (decide (p % 200 < nj) && ((decide (p / 200 = j) || decide (¬ r (200 * (p / 200) + j) = 0)) && (decide (p % 200 = b) || decide (¬ r (200 * b + p % 200) = 0))))
def lnF (nj j b : Nat) (r : Nat → Int32) (k m p : Nat) : Int32 := if ((decide (p / 200 < k) || (decide (p / 200 = k) && decide (p % 200 < m))) && lnC nj j b r p) = true then 1 else r p
def mR (I : FI) (f : Nat → Int32) : FI := fun c i p => if c = 1 ∧ i = 11 then f p else I c i p
theorem mR_11 (I : FI) (f : Nat → Int32) (p : Nat) : mR I f 1 11 p = f p := by simp [mR]
theorem mR_up (I : FI) (f : Nat → Int32) (q : Nat) (v : Int32) : up3 (mR I f) 1 11 q v = mR I (fun p => if p = q then v else f p) := by
  funext c i p
  unfold up3 mR
  by_cases e2 : c = 1 ∧ i = 11
  · obtain ⟨rfl, rfl⟩ := e2; simp
  · have e3 : ¬ (c = 1 ∧ i = 11 ∧ p = q) := fun w => e2 ⟨w.1, w.2.1⟩
    simp only [e2, e3, if_false]
theorem dv {x y : Nat} (hy : y < 200) : (200 * x + y) / 200 = x ∧ (200 * x + y) % 200 = y := by omega
variable {j b : Nat} {r : Nat → Int32}
theorem lnF_b {k m y : Nat} (hy : y < 200) (hne : b ≠ j) (hbj : r (200 * b + j) = 0) : lnF nj j b r k m (200 * b + y) = r (200 * b + y) := by
  unfold lnF lnC
  rw [(dv hy).1, (dv hy).2]
  simp [hne, hbj]
theorem lnF_k {k y : Nat} (hy : y < 200) : lnF nj j b r k 0 (200 * k + y) = r (200 * k + y) := by
  unfold lnF
  rw [(dv hy).1, (dv hy).2]
  simp
theorem lnF_s {k m : Nat} (hm : m < nj) (hk : k < nj) (n4 : nj ≤ 200) (hx : k = j ∨ ¬ r (200 * k + j) = 0) (hy : m = b ∨ ¬ r (200 * b + m) = 0) : (fun p => if p = 200 * k + m then (1 : Int32) else lnF nj j b r k m p) = lnF nj j b r k (m + 1) := by
  funext p
  by_cases e : p = 200 * k + m
  · subst e
    unfold lnF lnC
    rw [(dv (show m < 200 by omega)).1, (dv (show m < 200 by omega)).2]
    have h1 : (decide (k = j) || decide (¬ r (200 * k + j) = 0)) = true := by
      rcases hx with q | q
      · rw [decide_eq_true q, Bool.true_or]
      · rw [decide_eq_true q, Bool.or_true]
    have h2 : (decide (m = b) || decide (¬ r (200 * b + m) = 0)) = true := by
      rcases hy with q | q
      · rw [decide_eq_true q, Bool.true_or]
      · rw [decide_eq_true q, Bool.or_true]
    rw [h1, h2, decide_eq_true hm, decide_eq_true hk]
    simp
  · rw [if_neg e]
    unfold lnF
    have : (decide (p / 200 < k) || (decide (p / 200 = k) && decide (p % 200 < m + 1))) = (decide (p / 200 < k) || (decide (p / 200 = k) && decide (p % 200 < m))) := by
      by_cases q : p / 200 = k
      · have : p % 200 < m + 1 ↔ p % 200 < m := by omega
        simp only [this]
      · simp [q]
    rw [this]
theorem lnF_n {k m : Nat} (hn : ¬ (m = b ∨ ¬ r (200 * b + m) = 0)) : lnF nj j b r k m = lnF nj j b r k (m + 1) := by
  funext p
  unfold lnF
  by_cases q : p % 200 = m
  · have : lnC nj j b r p = false := by
      unfold lnC
      rw [q, decide_eq_false (fun z => hn (Or.inl z)), decide_eq_false (fun z => hn (Or.inr z))]
      simp
    rw [this, Bool.and_false, Bool.and_false]
  · have : p % 200 < m + 1 ↔ p % 200 < m := by omega
    simp only [this]
theorem lnF_e {k : Nat} : lnF nj j b r k nj = lnF nj j b r (k + 1) 0 := by
  funext p
  unfold lnF
  cases hc : lnC nj j b r p with
  | false => simp
  | true =>
    have h2 : p % 200 < nj := by
      unfold lnC at hc
      simp only [Bool.and_eq_true, decide_eq_true_eq] at hc
      exact hc.2.1
    have : p / 200 < k + 1 ↔ p / 200 < k ∨ p / 200 = k := by omega
    simp [h2, this]
theorem lnF_u {k : Nat} (hn : ¬ (k = j ∨ ¬ r (200 * k + j) = 0)) : lnF nj j b r k 0 = lnF nj j b r (k + 1) 0 := by
  funext p
  unfold lnF
  by_cases q : p / 200 = k
  · have : lnC nj j b r p = false := by
      unfold lnC
      rw [q, decide_eq_false (fun z => hn (Or.inl z)), decide_eq_false (fun z => hn (Or.inr z))]
      simp
    rw [this, Bool.and_false, Bool.and_false]
  · have : p / 200 < k + 1 ↔ p / 200 < k := by omega
    simp [this]
theorem p_m113 {K : Hp → Prop} {Q : Int32 → Hp → Prop} {k : Nat} (h : Sh A B S nj nc) (n4 : nj ≤ 200) (k8 : I 0 23 4 = nI nj) (hb : b < nj) (hk : k < nj) (hne : b ≠ j) (hbj : r (200 * b + j) = 0) (hx : k = j ∨ ¬ r (200 * k + j) = 0) (hK : K (hq A B S (mR I (lnF nj j b r k nj)) J R)) : ∀ (s m n : Nat), m + s = nj → s < n → wp_X12_after_L113 (A 0 23) (nI j) (nI b) (nI k) K Q n (hq A B S (mR I (lnF nj j b r k m)) J R) (nI m) := by
  have k8' : ∀ f, mR I f 0 23 4 = nI nj := fun f => by simp [mR, k8]
  intro s
  induction s with
  | zero =>
    intro m n e hr
    obtain ⟨n, rfl⟩ : ∃ q, n = q + 1 := ⟨n - 1, by omega⟩
    obtain rfl : m = nj := by omega
    rw [wp_X12_after_L113]
    simp only [fr_23 h, hi_q h, hj_q h, si_q h, sj_q h, vv_5 h, vs_5 h, vv_7 h, vs_7 h, vv_8 h, vs_8 h, vv_9 h, vs_9 h, vv_11 h, vs_11 h, vv_17 h, vs_17 h, vv_18 h, vs_18 h, vj_3 h, vj_4 h, vj_5 h, ex_some, ex_def, all_def, true_and, and_true, Nat.reduceLT, k8']
    exact ⟨fun _ => hK, fun z => absurd (nI_le (Nat.le_refl _) (by omega)) z⟩
  | succ s ih =>
    intro m n e hr
    obtain ⟨n, rfl⟩ : ∃ q, n = q + 1 := ⟨n - 1, by omega⟩
    have w := ih (m + 1) n (by omega) (by omega)
    rw [wp_X12_after_L113]
    simp only [fr_23 h, fm_11 h, hi_q h, hj_q h, si_q h, sj_q h, vv_5 h, vs_5 h, vv_7 h, vs_7 h, vv_8 h, vs_8 h, vv_9 h, vs_9 h, vv_11 h, vs_11 h, vv_17 h, vs_17 h, vv_18 h, vs_18 h, vj_3 h, vj_4 h, vj_5 h, ex_some, ex_def, all_def, true_and, and_true, Nat.reduceLT, k8', i200, nI_clamp (show 200 * k + m < 2 ^ 31 by omega), nI_clamp (show 200 * b + m < 2 ^ 31 by omega), vin (show 200 * k + m < 40000 by omega) (show 40000 < 2 ^ 31 by decide), vin (show 200 * b + m < 40000 by omega) (show 40000 < 2 ^ 31 by decide), mR_up, mR_11, lnF_b (show m < 200 by omega) hne hbj, nI_eq (show m < 2 ^ 31 by omega) (show b < 2 ^ 31 by omega), nI_ge (show m < nj by omega) (show nj < 2 ^ 31 by omega), not_false_eq_true, true_implies, not_true_eq_false, false_implies, true_and, and_true, false_and, and_false, forall_const, imp_self, implies_true, if_true, if_false, eq_self, Bool.true_eq_false, Bool.false_eq_true, false_or, or_false, true_or, or_true]
    rw [show nI m + 1 = nI (m + 1) from (nI_succ m).symm]
    refine ⟨fun z => ?_, fun z => ⟨fun z2 => ?_, fun z2 => ?_⟩⟩
    · rw [lnF_s (by omega) hk n4 hx (Or.inl z)]; exact w
    · rw [lnF_n (fun q => by rcases q with q | q; exact z q; exact q z2)]; exact w
    · rw [lnF_s (by omega) hk n4 hx (Or.inr z2)]; exact w
theorem p_m79 {Q : Int32 → Hp → Prop} (h : Sh A B S nj nc) (n4 : nj ≤ 200) (k8 : I 0 23 4 = nI nj) (hj : j < nj) (hb : b < nj) (hne : b ≠ j) (hbj : r (200 * b + j) = 0) (hK : Q 0 (hq A B S (up3 (mR I (lnF nj j b r nj 0)) 0 23 22 0) J R)) : ∀ (s k n : Nat), k + s = nj → s < n → wp_X12_after_L79 (A 0 23) (nI j) (nI b) Q n (hq A B S (mR I (lnF nj j b r k 0)) J R) (nI k) := by
  have k8' : ∀ f, mR I f 0 23 4 = nI nj := fun f => by simp [mR, k8]
  intro s
  induction s with
  | zero =>
    intro k n e hr
    obtain ⟨n, rfl⟩ : ∃ q, n = q + 1 := ⟨n - 1, by omega⟩
    obtain rfl : k = nj := by omega
    rw [wp_X12_after_L79, wp_X12_done]
    simp only [fr_23 h, hi_q h, hj_q h, si_q h, sj_q h, vv_5 h, vs_5 h, vv_7 h, vs_7 h, vv_8 h, vs_8 h, vv_9 h, vs_9 h, vv_11 h, vs_11 h, vv_17 h, vs_17 h, vv_18 h, vs_18 h, vj_3 h, vj_4 h, vj_5 h, ex_some, ex_def, all_def, true_and, and_true, Nat.reduceLT, k8']
    exact ⟨fun _ => hK, fun z => absurd (nI_le (Nat.le_refl _) (by omega)) z⟩
  | succ s ih =>
    intro k n e hr
    obtain ⟨n, rfl⟩ : ∃ q, n = q + 1 := ⟨n - 1, by omega⟩
    have w := ih (k + 1) n (by omega) (by omega)
    rw [wp_X12_after_L79]
    simp only [fr_23 h, fm_11 h, hi_q h, hj_q h, si_q h, sj_q h, vv_5 h, vs_5 h, vv_7 h, vs_7 h, vv_8 h, vs_8 h, vv_9 h, vs_9 h, vv_11 h, vs_11 h, vv_17 h, vs_17 h, vv_18 h, vs_18 h, vj_3 h, vj_4 h, vj_5 h, ex_some, ex_def, all_def, true_and, and_true, Nat.reduceLT, k8', i200, nI_clamp (show 200 * k + j < 2 ^ 31 by omega), vin (show 200 * k + j < 40000 by omega) (show 40000 < 2 ^ 31 by decide), mR_11, lnF_k (show j < 200 by omega), nI_eq (show k < 2 ^ 31 by omega) (show j < 2 ^ 31 by omega), nI_ge (show k < nj by omega) (show nj < 2 ^ 31 by omega), not_false_eq_true, true_implies, not_true_eq_false, false_implies, true_and, and_true, false_and, and_false, forall_const, imp_self, implies_true, if_true, if_false, eq_self, Bool.true_eq_false, Bool.false_eq_true, false_or, or_false, true_or, or_true]
    rw [show nI k + 1 = nI (k + 1) from (nI_succ k).symm]
    refine ⟨fun z => ?_, fun z => ⟨fun z2 => ?_, fun z2 => ?_⟩⟩
    · exact p_m113 h n4 k8 hb (by omega) hne hbj (Or.inl z) (by rw [lnF_e]; exact w) nj 0 FU (by omega) (fu_pos (by omega))
    · rw [lnF_u (fun q => by rcases q with q | q; exact z q; exact q z2)]; exact w
    · exact p_m113 h n4 k8 hb (by omega) hne hbj (Or.inr z2) (by rw [lnF_e]; exact w) nj 0 FU (by omega) (fu_pos (by omega))
theorem lnF_v {x y : Nat} (n4 : nj ≤ 200) (hx : x < nj) (hy : y < nj) : lnF nj j b r nj 0 (200 * x + y) = if (x = j ∨ ¬ r (200 * x + j) = 0) ∧ (y = b ∨ ¬ r (200 * b + y) = 0) then 1 else r (200 * x + y) := by
  unfold lnF lnC
  rw [(dv (show y < 200 by omega)).1, (dv (show y < 200 by omega)).2, decide_eq_true hx, decide_eq_true hy]
  simp
theorem lnF_z {x y : Nat} (hy : y < 200) (hz : nj ≤ x ∨ nj ≤ y) : lnF nj j b r nj 0 (200 * x + y) = r (200 * x + y) := by
  unfold lnF lnC
  rw [(dv hy).1, (dv hy).2]
  rcases hz with q | q
  · simp [show ¬ x < nj by omega]
  · simp [show ¬ y < nj by omega]
end AU
