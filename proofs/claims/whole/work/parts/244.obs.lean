section OB
variable {A : Nat → Nat → Nat} {B : Nat → Nat × Nat} {S : Hp} {nc nw nm nj : Nat} {cw jc : Nat → Nat} {I : FI} {J : FJ} {R : FR} {xs : Nat → Int32} {L : Nat} {l4 : Int32}
theorem iv_o (hv : iv A B S nc nw nm nj cw jc I J R) (v : Int32) (w : Int64) : Iv (A 0 0) (A 0 23) (A 0 24) (hq A B S (up3 I 0 23 0 v) (up3 J 0 24 0 w) R) :=
  ⟨A, B, S, nc, nw, nm, nj, cw, jc, _, _, _, rfl, rfl, rfl, rfl, hv.1, vSt_c ((Fy.rf.I rfl).J rfl) hv.2.1, vRn_c (Ag.up Ag.rf rfl) (Ag.up Ag.rf rfl) hv.2.2.1, vPa_c (Ag.up Ag.rf rfl) Ag.rf hv.2.2.2⟩
def fnd (p : Nat → Bool) : Nat → Nat → Int32
  | 0, _ => -1
  | r + 1, k => if p k = true then nI k else fnd p r (k + 1)
theorem fnd_congr {p p' : Nat → Bool} : ∀ {r k : Nat}, (∀ i, k ≤ i → i < k + r → p i = p' i) → fnd p r k = fnd p' r k := by
  intro r
  induction r with
  | zero => intro k _; rfl
  | succ r ih => intro k h; rw [fnd, fnd, h k (Nat.le_refl k) (by omega), ih (fun i a b => h i (by omega) (by omega))]
def fal (q : Nat → Bool) (i : Int32) : Nat → Nat → Int32 → Int32
  | 0, _, _ => -1
  | r + 1, k, s => if q k = true then (if s = i then nI k else fal q i r (k + 1) (s + 1)) else fal q i r (k + 1) s
theorem fal_congr {p p' : Nat → Bool} {i : Int32} : ∀ {r k : Nat} {s : Int32}, (∀ i, k ≤ i → i < k + r → p i = p' i) → fal p i r k s = fal p' i r k s := by
  intro r
  induction r with
  | zero => intro k s _; rfl
  | succ r ih => intro k s h; rw [fal, fal, h k (Nat.le_refl k) (by omega), ih (fun i a b => h i (by omega) (by omega)), ih (fun i a b => h i (by omega) (by omega))]
theorem fal_no {p : Nat → Bool} {i : Int32} : ∀ {r k : Nat} {s : Int32}, (∀ i, k ≤ i → i < k + r → p i = false) → fal p i r k s = -1 := by
  intro r
  induction r with
  | zero => intro k s _; rfl
  | succ r ih => intro k s h; rw [fal, h k (Nat.le_refl k) (by omega), if_neg (by decide), ih (fun i a b => h i (by omega) (by omega))]
theorem fal_in {p : Nat → Bool} {i : Int32} : ∀ {r k : Nat} {s : Int32}, fal p i r k s = -1 ∨ ∃ m, k ≤ m ∧ m < k + r ∧ p m = true ∧ fal p i r k s = nI m := by
  intro r
  induction r with
  | zero => intro k s; exact Or.inl rfl
  | succ r ih =>
    intro k s
    rw [fal]
    by_cases e : p k = true
    · rw [if_pos e]
      by_cases e2 : s = i
      · rw [if_pos e2]; exact Or.inr ⟨k, Nat.le_refl k, by omega, e, rfl⟩
      · rw [if_neg e2]
        rcases ih (k := k + 1) (s := s + 1) with q | ⟨m, a, b, c, d⟩
        · exact Or.inl q
        · exact Or.inr ⟨m, by omega, by omega, c, d⟩
    · rw [if_neg e]
      rcases ih (k := k + 1) (s := s) with q | ⟨m, a, b, c, d⟩
      · exact Or.inl q
      · exact Or.inr ⟨m, by omega, by omega, c, d⟩
theorem js_j (h : Sh A B S nj nc) {j : Nat} (hj : j < nj) : isJS (hq A B S I J R) (A 6 j) (A 7 j) := ⟨(fj_6 h hj _ _ _).1, (fj_6 h hj _ _ _).2, (fj_7 h hj _ _ _).1, (fj_7 h hj _ _ _).2⟩
theorem js_hq (h : Sh A B S nj nc) {c i k : Nat} (hc : c < 20) : js (hq A B S I J R) (A c i) k = jb (J c i (k / 64)) (k % 64) := by
  unfold js; rw [hj_q h hc]
theorem p_culp {Q : Int32 → Hp → Prop} (hv : iv A B S nc nw nm nj cw jc I J R) {j : Nat} (hj : j < nj) : ∀ (r k n : Nat), k + r = nj → r < n → Q (fnd (fun i => decide (I 16 i 0 = 2) && decide (I 1 11 (200 * j + i) = 1)) r k) (hq A B S I J R) → wp_X8_culpritOf_L15 (A 0 4) (A 3 j) Q n (hq A B S I J R) (nI k) := by
  have h := hv.1
  have hT := iv_t hv 0
  obtain ⟨n1, n2, n3, n4, n5, n6⟩ := hv.2.1.1
  obtain ⟨k1, k2, k3, k4, k5, k6, k7, k8⟩ := hv.2.1.2.1
  intro r
  induction r with
  | zero =>
    intro k n e hr hq
    obtain ⟨n, rfl⟩ : ∃ m, n = m + 1 := ⟨n - 1, by omega⟩
    obtain rfl : k = nj := by omega
    rw [wp_X8_culpritOf_L15]
    simp only [fr_4 h, fr_1 h, hi_q h, hj_q h, si_q h, sj_q h, vv_5 h, vs_5 h, vv_7 h, vs_7 h, vv_8 h, vs_8 h, vv_9 h, vs_9 h, vv_11 h, vs_11 h, vv_17 h, vs_17 h, vv_18 h, vs_18 h, vj_3 h, vj_4 h, vj_5 h, ex_some, ex_def, all_def, true_and, and_true, Nat.reduceLT, k4]
    exact ⟨fun _ => hq, fun z => absurd (nI_le (Nat.le_refl _) (by omega)) z⟩
  | succ r ih =>
    intro k n e hr hq
    obtain ⟨n, rfl⟩ : ∃ m, n = m + 1 := ⟨n - 1, by omega⟩
    have hkn : k < nj := by omega
    have hR7 := (hv.2.1.2.2.2.1 k hkn).1
    have hl := hv.2.1.2.2.2.2.2.2.1.1 j k hj (by omega)
    rw [decide_eq_true hkn, Bool.true_and] at hl
    rw [wp_X8_culpritOf_L15]
    simp only [fr_4 h, fr_1 h, fr_7 h, fj_3 h hkn, fj_16 h hkn, fj_3 h hj, fj_6 h hj, hi_q h, hj_q h, si_q h, sj_q h, vv_5 h, vs_5 h, vv_7 h, vs_7 h, vv_8 h, vs_8 h, vv_9 h, vs_9 h, vv_11 h, vs_11 h, vv_17 h, vs_17 h, vv_18 h, vs_18 h, vj_3 h, vj_4 h, vj_5 h, ex_some, ex_def, all_def, true_and, and_true, Nat.reduceLT, k4, nI_clamp (show k < 2 ^ 31 by omega), hR7]
    refine ⟨fun z => absurd z (nI_ge hkn (by omega)), fun _ => ⟨vin (by omega) (by decide), fun z => ?_, fun z => ?_⟩⟩
    · refine p_has (js_j h hj) (by omega) ?_
      rw [js_hq h (by decide), hl]
      rw [fnd] at hq
      simp only [z, decide_true, Bool.true_and] at hq
      by_cases e2 : I 1 11 (200 * j + k) = 1
      · rw [decide_eq_true e2, if_pos rfl] at hq
        rw [decide_eq_true e2, if_pos rfl]
        exact ⟨fun w => absurd w (by decide), fun _ => hq⟩
      · rw [decide_eq_false e2, if_neg (by decide)] at hq
        rw [decide_eq_false e2, if_neg (by decide)]
        refine ⟨fun _ => ?_, fun w => absurd rfl w⟩
        rw [show nI k + 1 = nI (k + 1) from (nI_succ k).symm]
        exact ih (k + 1) n (by omega) (by omega) hq
    · rw [fnd] at hq
      simp only [z, decide_false, Bool.false_and, Bool.false_eq_true, if_false] at hq
      rw [show nI k + 1 = nI (k + 1) from (nI_succ k).symm]
      exact ih (k + 1) n (by omega) (by omega) hq
theorem p_cause {Q : Int32 → Hp → Prop} (hv : iv A B S nc nw nm nj cw jc I J R) {j : Nat} {v : Int32} {J' : FJ} (hj : j < nj) (h3 : I 1 26 j = 3) : ∀ (r k n : Nat), k + r = nj → r < n → Q (fnd (fun i => decide (I 1 26 i = 2) && decide (I 1 11 (200 * j + i) = 1)) r k) (hq A B S (up3 I 0 23 0 v) J' R) → wp_X12_causeOf_L2 (hq A B S (up3 I 0 23 0 v) J' R) (A 0 23) (nI j) Q n (nI k) := by
  have h := hv.1
  have hT := iv_t hv 0
  obtain ⟨n1, n2, n3, n4, n5, n6⟩ := hv.2.1.1
  obtain ⟨k1, k2, k3, k4, k5, k6, k7, k8⟩ := hv.2.1.2.1
  have k8' : up3 I 0 23 0 v 0 23 4 = nI nj := by simp [up3, k8]
  have u1 : ∀ i p, up3 I 0 23 0 v 1 i p = I 1 i p := fun i p => by simp [up3]
  intro r
  induction r with
  | zero =>
    intro k n e hr hq
    obtain ⟨n, rfl⟩ : ∃ m, n = m + 1 := ⟨n - 1, by omega⟩
    obtain rfl : k = nj := by omega
    rw [wp_X12_causeOf_L2]
    simp only [fr_23 h, hi_q h, hj_q h, si_q h, sj_q h, vv_5 h, vs_5 h, vv_7 h, vs_7 h, vv_8 h, vs_8 h, vv_9 h, vs_9 h, vv_11 h, vs_11 h, vv_17 h, vs_17 h, vv_18 h, vs_18 h, vj_3 h, vj_4 h, vj_5 h, ex_some, ex_def, all_def, true_and, and_true, Nat.reduceLT, k8']
    exact ⟨fun _ => hq, fun z => absurd (nI_le (Nat.le_refl _) (by omega)) z⟩
  | succ r ih =>
    intro k n e hr hq
    obtain ⟨n, rfl⟩ : ∃ m, n = m + 1 := ⟨n - 1, by omega⟩
    have hkn : k < nj := by omega
    have hl := hv.2.1.2.2.2.2.2.2.1.2.1 j k hj hkn
    rw [wp_X12_causeOf_L2]
    simp only [fr_23 h, fm_26 h, fm_11 h, hi_q h, hj_q h, si_q h, sj_q h, vv_5 h, vs_5 h, vv_7 h, vs_7 h, vv_8 h, vs_8 h, vv_9 h, vs_9 h, vv_11 h, vs_11 h, vv_17 h, vs_17 h, vv_18 h, vs_18 h, vj_3 h, vj_4 h, vj_5 h, ex_some, ex_def, all_def, true_and, and_true, Nat.reduceLT, k8', nI_clamp (show k < 2 ^ 31 by omega), nI_clamp (show j < 2 ^ 31 by omega), u1, h3, i200, nI_clamp (show 200 * j + k < 2 ^ 31 by omega), vin (show j < 200 by omega) (by decide), vin (show k < 200 by omega) (by decide), vin (show 200 * j + k < 40000 by omega) (by decide), nI_ge hkn (show nj < 2 ^ 31 by omega), not_false_eq_true, true_implies, not_true_eq_false, false_implies, true_and, and_true, false_and, and_false, forall_const, imp_self, implies_true, if_true, if_false, eq_self, Bool.true_eq_false, Bool.false_eq_true, false_or, or_false, true_or, or_true]
    rw [show nI k + 1 = nI (k + 1) from (nI_succ k).symm]
    rw [fnd] at hq
    refine ⟨fun z => ⟨fun w => ?_, fun w => ?_⟩, fun z => ?_⟩
    · simp only [z, w, show ¬ ((0 : Int32) = 1) by decide, decide_false, Bool.and_false, Bool.false_eq_true, if_false] at hq
      exact ih (k + 1) n (by omega) (by omega) hq
    · have w1 : I 1 11 (200 * j + k) = 1 := hl.resolve_left w
      simp only [z, w1, decide_true, Bool.and_true, if_true] at hq
      exact hq
    · simp only [z, decide_false, Bool.false_and, Bool.false_eq_true, if_false] at hq
      exact ih (k + 1) n (by omega) (by omega) hq
theorem p_cause0 {Q : Int32 → Hp → Prop} (hv : iv A B S nc nw nm nj cw jc I J R) {j : Nat} {v : Int32} {J' : FJ} (hj : j < nj) (h3 : ¬ I 1 26 j = 3) (hk : Q (-1) (hq A B S (up3 I 0 23 0 v) J' R)) : wp_X12_causeOf (hq A B S (up3 I 0 23 0 v) J' R) (A 0 23) (nI j) Q := by
  have h := hv.1
  have hT := iv_t hv 0
  obtain ⟨n1, n2, n3, n4, n5, n6⟩ := hv.2.1.1
  obtain ⟨k1, k2, k3, k4, k5, k6, k7, k8⟩ := hv.2.1.2.1
  have k8' : up3 I 0 23 0 v 0 23 4 = nI nj := by simp [up3, k8]
  have u1 : ∀ i p, up3 I 0 23 0 v 1 i p = I 1 i p := fun i p => by simp [up3]
  unfold wp_X12_causeOf FU
  rw [show 2 ^ 40 = (2 ^ 40 - 1) + 1 from rfl, wp_X12_causeOf_L2]
  simp only [fr_23 h, fm_26 h, hi_q h, hj_q h, si_q h, sj_q h, vv_5 h, vs_5 h, vv_7 h, vs_7 h, vv_8 h, vs_8 h, vv_9 h, vs_9 h, vv_11 h, vs_11 h, vv_17 h, vs_17 h, vv_18 h, vs_18 h, vj_3 h, vj_4 h, vj_5 h, ex_some, ex_def, all_def, true_and, and_true, Nat.reduceLT, k8', nI_clamp (show j < 2 ^ 31 by omega), u1, h3, vin (show j < 200 by omega) (by decide), not_false_eq_true, true_implies, not_true_eq_false, false_implies, true_and, and_true, false_and, and_false, forall_const, imp_self, implies_true, if_true, if_false, eq_self, Bool.true_eq_false, Bool.false_eq_true, false_or, or_false, true_or, or_true]
  exact ⟨fun _ => hk, fun _ => hk⟩
end OB
