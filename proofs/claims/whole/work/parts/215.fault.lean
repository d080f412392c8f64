/-! what a body is: by which kind it fails by itself -/
def anyB : Nat → (Nat → Bool) → Bool
  | 0, _ => false
  | n + 1, p => anyB n p || p n
def sumJ : Nat → (Nat → Int64) → Int64
  | 0, _ => 0
  | n + 1, f => sumJ n f + f n
theorem anyB_of {p : Nat → Bool} : ∀ {n k : Nat}, k < n → p k = true → anyB n p = true := by
  intro n
  induction n with
  | zero => intro k h; omega
  | succ n ih =>
    intro k h hp
    unfold anyB
    by_cases e : k = n
    · rw [← e, hp, Bool.or_true]
    · rw [ih (by omega) hp, Bool.true_or]
theorem anyB_iff {p : Nat → Bool} {n : Nat} : anyB n p = true ↔ ∃ i, i < n ∧ p i = true := by
  constructor
  · induction n with
    | zero => intro h; cases h
    | succ n ih =>
      intro h
      unfold anyB at h
      rw [Bool.or_eq_true] at h
      rcases h with h | h
      · obtain ⟨i, hi, e⟩ := ih h
        exact ⟨i, by omega, e⟩
      · exact ⟨n, by omega, h⟩
  · rintro ⟨i, hi, e⟩; exact anyB_of hi e
theorem anyB_no {p : Nat → Bool} {n : Nat} : anyB n p = false ↔ ∀ i, i < n → p i = false := by
  constructor
  · intro h i hi
    cases e : p i with
    | false => rfl
    | true => rw [anyB_of hi e] at h; cases h
  · intro h
    cases e : anyB n p with
    | false => rfl
    | true =>
      obtain ⟨i, hi, e2⟩ := anyB_iff.mp e
      rw [h i hi] at e2; cases e2
theorem sumJ_congr {f g : Nat → Int64} {n : Nat} (h : ∀ i, i < n → f i = g i) : sumJ n f = sumJ n g := by
  induction n with
  | zero => rfl
  | succ n ih => unfold sumJ; rw [ih (fun i hi => h i (by omega)), h n (by omega)]
def bBelow (a : Int32) (n : Nat) (x : Nat → Int32) : Bool := decide (a < 0) || anyB n (fun i => decide (x i < 0))
def bSum (n : Nat) (x : Nat → Int32) : Int64 := sumJ n (fun i => (x i).toInt64)
def bCutBad (a b : Int32) (n : Nat) (x : Nat → Int32) : Bool := decide (b < 0) || anyB n (fun i => decide (x i < 1) || decide (a < x i))
def bGap (n : Nat) (x : Nat → Int32) (i : Nat) : Int64 := if i + 1 < n then (x (i + 1)).toInt64 - (x i).toInt64 else 0
def bGapBad (a : Int32) (n : Nat) (x : Nat → Int32) (i : Nat) : Bool := decide (i % 2 = 0) && (decide (bGap n x i < 0) || decide (a.toInt64 < bGap n x i))
def bPairBad (a : Int32) (n : Nat) (x : Nat → Int32) : Bool := anyB n (bGapBad a n x)
def bFault (k a b : Int32) (n : Nat) (x : Nat → Int32) : Int32 :=
  if k = 0 then 0 else if n = 0 then 13 else if k = 1 then (if bCutBad a b n x = true then 20 else 0) else if k = 2 ∨ k = 3 then (if bBelow a n x = true then 21 else if bSum n x = 0 then 11 else if k = 3 ∧ (b < 0 ∨ nI n ≤ b) then 12 else 0) else if k = 4 then (if bPairBad a n x = true then 22 else 0) else (if bBelow a n x = true then 21 else 0)
def isRc (S : Hp) (r w : Nat) (k a b : Int32) (n : Nat) (x : Nat → Int32) : Prop := hK S r = 9 ∧ hR S r 3 = some w ∧ hK S w = 15 ∧ hN S w = 30 ∧ hI S r 0 = k ∧ hI S r 1 = a ∧ hI S r 2 = b ∧ hI S r 4 = nI n ∧ n ≤ 30 ∧ ∀ i, i < n → hI S w i = x i
theorem i_nle {a b : Int32} : ¬ a ≤ b ↔ b < a := by rw [Int32.le_iff_toInt_le, Int32.lt_iff_toInt_lt]; omega
theorem i_nlt {a b : Int32} : ¬ a < b ↔ b ≤ a := by rw [Int32.le_iff_toInt_le, Int32.lt_iff_toInt_lt]; omega
theorem j_nle {a b : Int64} : ¬ a ≤ b ↔ b < a := by rw [Int64.le_iff_toInt_le, Int64.lt_iff_toInt_lt]; omega
theorem j_nlt {a b : Int64} : ¬ a < b ↔ b ≤ a := by rw [Int64.le_iff_toInt_le, Int64.lt_iff_toInt_lt]; omega
section FT
variable {S : Hp} {r w n : Nat} {k a b : Int32} {x : Nat → Int32} {Q : Int32 → Hp → Prop}
theorem p_cutBad_L (h : isRc S r w k a b n x) (h1 : anyB n (fun i => decide (x i < 1) || decide (a < x i)) = true → Q 20 S) (h0 : anyB n (fun i => decide (x i < 1) || decide (a < x i)) = false → Q 0 S) :
    ∀ (m i f : Nat), i + m = n → m < f → anyB i (fun i => decide (x i < 1) || decide (a < x i)) = false → wp_X7_faultOfCut_L12 S r Q f (nI i) := by
  obtain ⟨k1, k2, k3, k4, k5, k6, k7, k8, k9, k10⟩ := h
  intro m
  induction m with
  | zero =>
    intro i f hi hf hz
    obtain ⟨f, rfl⟩ : ∃ m, f = m + 1 := ⟨f - 1, by omega⟩
    obtain rfl : i = n := by omega
    rw [wp_X7_faultOfCut_L12, k8]
    exact ⟨k1, fun _ => h0 hz, fun g => absurd (nI_le (Nat.le_refl _) (by omega)) g⟩
  | succ m ih =>
    intro i f hi hf hz
    obtain ⟨f, rfl⟩ : ∃ m, f = m + 1 := ⟨f - 1, by omega⟩
    rw [wp_X7_faultOfCut_L12, k8, k6]
    have hin : vp_in (nI i) (hN S w) := by rw [k4]; exact nI_in (by omega) (by decide)
    refine ⟨k1, fun g => absurd g (nI_ge (by omega) (by omega)), fun _ => ⟨w, k2, k3, hin, ?_⟩⟩
    rw [nI_clamp (by omega), k10 i (by omega), nI_1]
    refine ⟨fun g => h1 (anyB_of (k := i) (by omega) (by simp [g])), fun g => ⟨hin, fun g2 => ih (i + 1) f (by omega) (by omega) ?_, fun g2 => h1 (anyB_of (k := i) (by omega) (by simp [i_nle.mp g2]))⟩⟩
    unfold anyB
    rw [hz, Bool.false_or]
    simp only [g, decide_false, Bool.false_or, decide_eq_false_iff_not]
    exact i_nlt.mpr g2
theorem p_below_L (h : isRc S r w k a b n x) (h1 : anyB n (fun i => decide (x i < 0)) = true → Q 1 S) (h0 : anyB n (fun i => decide (x i < 0)) = false → Q 0 S) :
    ∀ (m i f : Nat), i + m = n → m < f → anyB i (fun i => decide (x i < 0)) = false → wp_X7_isBelowZero_L11 S r Q f (nI i) := by
  obtain ⟨k1, k2, k3, k4, k5, k6, k7, k8, k9, k10⟩ := h
  intro m
  induction m with
  | zero =>
    intro i f hi hf hz
    obtain ⟨f, rfl⟩ : ∃ m, f = m + 1 := ⟨f - 1, by omega⟩
    obtain rfl : i = n := by omega
    rw [wp_X7_isBelowZero_L11, k8]
    exact ⟨k1, fun _ => h0 hz, fun g => absurd (nI_le (Nat.le_refl _) (by omega)) g⟩
  | succ m ih =>
    intro i f hi hf hz
    obtain ⟨f, rfl⟩ : ∃ m, f = m + 1 := ⟨f - 1, by omega⟩
    rw [wp_X7_isBelowZero_L11, k8]
    have hin : vp_in (nI i) (hN S w) := by rw [k4]; exact nI_in (by omega) (by decide)
    refine ⟨k1, fun g => absurd g (nI_ge (by omega) (by omega)), fun _ => ⟨w, k2, k3, hin, ?_⟩⟩
    rw [nI_clamp (by omega), k10 i (by omega), nI_1]
    refine ⟨fun g => ih (i + 1) f (by omega) (by omega) ?_, fun g => h1 (anyB_of (k := i) (by omega) (by simp [i_nle.mp g]))⟩
    unfold anyB
    rw [hz, Bool.false_or]
    simp only [decide_eq_false_iff_not]
    exact i_nlt.mpr g
theorem p_below (h : isRc S r w k a b n x) (hq : Q (if bBelow a n x = true then 1 else 0) S) : wp_X7_isBelowZero S r Q := by
  have h' := h
  obtain ⟨k1, k2, k3, k4, k5, k6, k7, k8, k9, k10⟩ := h
  unfold wp_X7_isBelowZero
  rw [k6]
  unfold bBelow at hq
  refine ⟨k1, fun g => p_below_L h' (fun e => ?_) (fun e => ?_) n 0 FU (by omega) (fu_pos (by omega)) rfl, fun g => ?_⟩
  · simpa [e] using hq
  · have : ¬ a < 0 := i_nlt.mpr g
    simpa [e, this] using hq
  · have := i_nle.mp g
    simpa [this] using hq
theorem p_sum_L {Q : Int64 → Hp → Prop} (h : isRc S r w k a b n x) (hq : Q (bSum n x) S) : ∀ (m i f : Nat), i + m = n → m < f → wp_X7_sum_L4 S r Q f (bSum i x) (nI i) := by
  obtain ⟨k1, k2, k3, k4, k5, k6, k7, k8, k9, k10⟩ := h
  intro m
  induction m with
  | zero =>
    intro i f hi hf
    obtain ⟨f, rfl⟩ : ∃ m, f = m + 1 := ⟨f - 1, by omega⟩
    obtain rfl : i = n := by omega
    rw [wp_X7_sum_L4, k8]
    exact ⟨k1, fun _ => hq, fun g => absurd (nI_le (Nat.le_refl _) (by omega)) g⟩
  | succ m ih =>
    intro i f hi hf
    obtain ⟨f, rfl⟩ : ∃ m, f = m + 1 := ⟨f - 1, by omega⟩
    rw [wp_X7_sum_L4, k8]
    have hin : vp_in (nI i) (hN S w) := by rw [k4]; exact nI_in (by omega) (by decide)
    refine ⟨k1, fun g => absurd g (nI_ge (by omega) (by omega)), fun _ => ⟨w, k2, k3, hin, fun z hz => ?_⟩⟩
    rw [nI_clamp (by omega), k10 i (by omega)] at hz
    rw [nI_1, hz]
    exact ih (i + 1) f (by omega) (by omega)
theorem p_sum {Q : Int64 → Hp → Prop} (h : isRc S r w k a b n x) (hq : Q (bSum n x) S) : wp_X7_sum S r Q := p_sum_L h hq n 0 FU (by omega) (fu_pos (by have := h.2.2.2.2.2.2.2.2.1; omega))
theorem p_pairs_L (h : isRc S r w k a b n x) (h1 : anyB n (bGapBad a n x) = true → Q 22 S) (h0 : anyB n (bGapBad a n x) = false → Q 0 S) :
    ∀ (f i : Nat), i % 2 = 0 → i ≤ n + 1 → n + 1 < i + f → (∀ j, j < i → j < n → bGapBad a n x j = false) → wp_X7_faultOfPairs_L2 S r Q f (nI i) := by
  obtain ⟨k1, k2, k3, k4, k5, k6, k7, k8, k9, k10⟩ := h
  intro f
  induction f with
  | zero =>
    intro i he hi hf hz
    omega
  | succ f ih =>
    intro i he hi hf hz
    rw [wp_X7_faultOfPairs_L2, k8, k6]
    refine ⟨k1, fun g => ?_, fun g => ?_⟩
    · have hni : n ≤ i := by
        by_cases z : n ≤ i
        · exact z
        · exact absurd g (nI_ge (by omega) (by omega))
      exact h0 (anyB_no.mpr (fun j hj => hz j (by omega) hj))
    · have hni : i < n := by
        by_cases z : i < n
        · exact z
        · exact absurd (nI_le (by omega) (by omega)) g
      have hin : vp_in (nI i) (hN S w) := by rw [k4]; exact nI_in (by omega) (by decide)
      have key : ∀ z11 : Int64, z11 - (x i).toInt64 = bGap n x i → ∃ b12 : Nat, (hR S r 3) = some b12 ∧ hK S b12 = 15 ∧ vp_in (nI i) (hN S b12) ∧ ∀ z15 : Int64, z15 = (z11 - (((hI S b12 (nI i : Int32).toNatClampNeg) : Int32).toInt64)) → (z15 < 0 → Q 22 S) ∧ (¬ (z15 < 0) → (z15 ≤ ((a : Int32).toInt64) → wp_X7_faultOfPairs_L2 S r Q f (nI i + 2)) ∧ (¬ (z15 ≤ ((a : Int32).toInt64)) → Q 22 S)) := by
        intro z11 hz11
        refine ⟨w, k2, k3, hin, fun z15 hz15 => ?_⟩
        rw [nI_clamp (by omega), k10 i hni, hz11] at hz15
        subst hz15
        refine ⟨fun g1 => h1 (anyB_of hni ?_), fun g1 => ⟨fun g2 => ?_, fun g2 => h1 (anyB_of hni ?_)⟩⟩
        · unfold bGapBad; simp [he, g1]
        · rw [show (2 : Int32) = nI 2 from rfl, nI_add]
          refine ih (i + 2) (by omega) (by omega) (by omega) (fun j hj hjn => ?_)
          by_cases e : j < i
          · exact hz j e hjn
          · unfold bGapBad
            by_cases e2 : j = i
            · subst e2
              simp only [g1, j_nlt.mpr g2, decide_false, Bool.or_false, Bool.and_false]
            · have : ¬ j % 2 = 0 := by omega
              simp [this]
        · unfold bGapBad; simp [he, j_nle.mp g2]
      refine ⟨_, rfl, fun g2 => ?_, fun g2 => ?_⟩
      · rw [nI_1] at g2
        have hn1 : n ≤ i + 1 := by
          by_cases z : n ≤ i + 1
          · exact z
          · exact absurd g2 (nI_ge (by omega) (by omega))
        refine ⟨w, k2, k3, hin, key _ ?_⟩
        rw [nI_clamp (by omega), k10 i hni]
        unfold bGap
        rw [if_neg (by omega)]
        exact Int64.sub_self _
      · rw [nI_1] at g2 ⊢
        have hn1 : i + 1 < n := by
          by_cases z : i + 1 < n
          · exact z
          · exact absurd (nI_le (by omega) (by omega)) g2
        refine ⟨w, k2, k3, by rw [k4]; exact nI_in (by omega) (by decide), key _ ?_⟩
        rw [nI_clamp (by omega), k10 (i + 1) hn1]
        unfold bGap
        rw [if_pos hn1]
theorem nI_zero {n : Nat} (hn : n < 2 ^ 31) : nI n = 0 ↔ n = 0 := nI_eq (b := 0) hn (by decide)
theorem p_shares (h : isRc S r w k a b n x) (hq : Q (if bBelow a n x = true then 21 else if bSum n x = 0 then 11 else if k = 3 ∧ (b < 0 ∨ nI n ≤ b) then 12 else 0) S) : wp_X7_faultOfShares S r Q := by
  have h' := h
  obtain ⟨k1, k2, k3, k4, k5, k6, k7, k8, k9, k10⟩ := h
  unfold wp_X7_faultOfShares
  refine ⟨k1, p_below h' ?_⟩
  by_cases e : bBelow a n x = true
  · simp only [e, if_true] at hq ⊢
    exact ⟨fun z => absurd z (by decide), fun _ => hq⟩
  · simp only [e, if_false] at hq ⊢
    refine ⟨fun _ => ⟨k1, p_sum h' ?_⟩, fun z => absurd rfl z⟩
    refine ⟨fun e2 => by simpa [e2] using hq, fun e2 => ⟨k1, fun e3 => ?_, fun e3 => ?_⟩⟩
    · rw [k5] at e3
      rw [k7, k8]
      refine ⟨fun g => by simpa [e2, e3, g] using hq, fun g => ⟨fun g2 => ?_, fun g2 => ?_⟩⟩
      · simpa [e2, e3, g, i_nle.mpr g2] using hq
      · have := i_nlt.mp g2
        simpa [e2, e3, g, this] using hq
    · rw [k5] at e3
      simpa [e2, e3] using hq
theorem p_fault (h : isRc S r w k a b n x) (hk : k = 0 ∨ k = 1 ∨ k = 2 ∨ k = 3 ∨ k = 4 ∨ k = 5) (hq : Q (bFault k a b n x) S) : wp_X7_fault S r Q := by
  have h' := h
  obtain ⟨k1, k2, k3, k4, k5, k6, k7, k8, k9, k10⟩ := h
  unfold wp_X7_fault
  rw [k5, k8, nI_zero (by omega)]
  unfold bFault at hq
  have d01 : ¬ (1 : Int32) = 0 := by decide
  have d02 : ¬ (2 : Int32) = 0 := by decide
  have d03 : ¬ (3 : Int32) = 0 := by decide
  have d04 : ¬ (4 : Int32) = 0 := by decide
  have d05 : ¬ (5 : Int32) = 0 := by decide
  have d12 : ¬ (2 : Int32) = 1 := by decide
  have d13 : ¬ (3 : Int32) = 1 := by decide
  have d14 : ¬ (4 : Int32) = 1 := by decide
  have d15 : ¬ (5 : Int32) = 1 := by decide
  have d23 : ¬ (3 : Int32) = 2 := by decide
  have d24 : ¬ (4 : Int32) = 2 := by decide
  have d25 : ¬ (5 : Int32) = 2 := by decide
  have d34 : ¬ (4 : Int32) = 3 := by decide
  have d35 : ¬ (5 : Int32) = 3 := by decide
  have d45 : ¬ (5 : Int32) = 4 := by decide
  refine ⟨k1, fun e => by simpa [e] using hq, fun e => ⟨fun e2 => by simpa [e, e2] using hq, fun e2 => ?_⟩⟩
  rcases hk with rfl | rfl | rfl | rfl | rfl | rfl
  · exact absurd rfl e
  · refine ⟨fun _ => ?_, fun z => absurd rfl z⟩
    simp only [d01, e2, if_false, if_true] at hq
    unfold wp_X7_faultOfCut
    rw [k7]
    unfold bCutBad at hq
    refine ⟨k1, fun g => p_cutBad_L h' (fun e => ?_) (fun e => ?_) n 0 FU (by omega) (fu_pos (by omega)) rfl, fun g => ?_⟩
    · simpa [e] using hq
    · have : ¬ b < 0 := i_nlt.mpr g
      simpa [e, this] using hq
    · have := i_nle.mp g
      simpa [this] using hq
  · refine ⟨fun z => absurd z d12, fun _ => ⟨fun _ => p_shares h' ?_, fun z => absurd rfl z⟩⟩
    simpa only [d02, d12, e2, if_false, if_true, true_or] using hq
  · refine ⟨fun z => absurd z d13, fun _ => ⟨fun z => absurd z d23, fun _ => ⟨fun _ => p_shares h' ?_, fun z => absurd rfl z⟩⟩⟩
    simpa only [d03, d13, e2, if_false, if_true, or_true] using hq
  · refine ⟨fun z => absurd z d14, fun _ => ⟨fun z => absurd z d24, fun _ => ⟨fun z => absurd z d34, fun _ => ⟨fun _ => ?_, fun z => absurd rfl z⟩⟩⟩⟩
    simp only [d04, d14, d24, d34, e2, if_false, if_true, or_self] at hq
    unfold bPairBad at hq
    refine p_pairs_L h' (fun e => by simpa [e] using hq) (fun e => by simpa [e] using hq) FU 0 rfl (by omega) (by have := fu_pos (r := n + 1) (by omega); omega) (fun j hj => absurd hj (Nat.not_lt_zero j))
  · refine ⟨fun z => absurd z d15, fun _ => ⟨fun z => absurd z d25, fun _ => ⟨fun z => absurd z d35, fun _ => ⟨fun z => absurd z d45, fun _ => ⟨fun _ => p_below h' ?_, fun z => absurd rfl z⟩⟩⟩⟩⟩
    simp only [d05, d15, d25, d35, d45, e2, if_false, or_self] at hq
    by_cases e : bBelow a n x = true
    · simp only [e, if_true] at hq ⊢
      exact ⟨fun z => absurd z (by decide), fun _ => hq⟩
    · simp only [e, if_false] at hq ⊢
      exact ⟨fun _ => hq, fun z => absurd rfl z⟩
end FT
