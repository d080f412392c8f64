/-! the class computes what bRes and bPart say -/
theorem nf_mix {a b : Int32} {n : Nat} {x : Nat → Int32} (h : bFault 2 a b n x = 0) : 0 < n ∧ bBelow a n x = false ∧ ¬ bSum n x = 0 := by
  unfold bFault at h
  have d02 : ¬ (2 : Int32) = 0 := by decide
  have d12 : ¬ (2 : Int32) = 1 := by decide
  have d23 : ¬ (2 : Int32) = 3 := by decide
  simp only [d02, d12, d23, if_false, if_true, true_or, false_and] at h
  by_cases e1 : n = 0
  · simp only [e1, if_true] at h; exact absurd h (by decide)
  · simp only [e1, if_false] at h
    cases e2 : bBelow a n x with
    | true => rw [if_pos e2] at h; exact absurd h (by decide)
    | false =>
      rw [if_neg (by rw [e2]; decide)] at h
      by_cases e3 : bSum n x = 0
      · rw [if_pos e3] at h; exact absurd h (by decide)
      · exact ⟨by omega, rfl, e3⟩
theorem nf_load {a b : Int32} {n : Nat} {x : Nat → Int32} (h : bFault 3 a b n x = 0) : 0 < n ∧ bBelow a n x = false ∧ ¬ bSum n x = 0 ∧ ¬ b < 0 ∧ ¬ nI n ≤ b := by
  unfold bFault at h
  have d02 : ¬ (3 : Int32) = 0 := by decide
  have d12 : ¬ (3 : Int32) = 1 := by decide
  simp only [d02, d12, if_false, if_true, or_true, true_and] at h
  by_cases e1 : n = 0
  · simp only [e1, if_true] at h; exact absurd h (by decide)
  · simp only [e1, if_false] at h
    cases e2 : bBelow a n x with
    | true => rw [if_pos e2] at h; exact absurd h (by decide)
    | false =>
      rw [if_neg (by rw [e2]; decide)] at h
      by_cases e3 : bSum n x = 0
      · rw [if_pos e3] at h; exact absurd h (by decide)
      · rw [if_neg e3] at h
        by_cases e4 : b < 0 ∨ nI n ≤ b
        · rw [if_pos e4] at h; exact absurd h (by decide)
        · exact ⟨by omega, rfl, e3, fun z => e4 (Or.inl z), fun z => e4 (Or.inr z)⟩
theorem cntI_congr {p q : Nat → Bool} {n : Nat} (h : ∀ i, i < n → p i = q i) : cntI n p = cntI n q := by
  induction n with
  | zero => rfl
  | succ n ih => rw [cntI, cntI, ih (fun i hi => h i (by omega)), h n (by omega)]
section CM
variable {S : Hp} {e p d r w n : Nat} {k a b : Int32} {x : Nat → Int32} {Q : Hp → Prop}
theorem nI0 : nI 0 = 0 := rfl
theorem p_cutBoards {f0 g0 : Nat → Int64} (h : isBn S e p d) (hr : isRc S r w k a b n x) (hq : ∀ g', Q (bn S e p d (ctF a b n x f0 n) g' (nI (cutS a b n x n).1))) : wp_X1_cutBoards (bn S e p d f0 g0 0) e (some r) Q := by
  have hn := hr.2.2.2.2.2.2.2.2.1
  unfold wp_X1_cutBoards
  have h0 : bn S e p d f0 g0 0 = bn S e p d (fun j => if j < 0 then -1 else f0 j) g0 0 := by
    congr 1
  have h1 := p_cut_L (f := f0) (Q := Q) h hr hq n 0 FU g0 (by omega) (fu_pos (by omega)) (fun i hi => absurd hi (Nat.not_lt_zero i))
  have e1 : ctF a b n x f0 0 = (fun j => if j < n then -1 else f0 j) := by
    funext j
    unfold ctF
    rw [gn]
    simp
  have e2 : nI (cutS a b n x 0).1 = 0 := by rw [cutS]; exact nI0
  rw [e1, e2, nI0] at h1
  have h2 := p_cut0_L (f := f0) (g := g0) (v := 0) (Q := Q) (K := fun S8 => wp_X1_cutBoards_L27 e (some r) Q FU S8 0) h hr h1 n 0 FU (by omega) (fu_pos (by omega))
  rw [nI0, ← h0] at h2
  exact h2
theorem p_mixParts {f0 g0 : Nat → Int64} {o : Nat} (h : isBn S e p d) (hr : isRc S r w k a b n x) (hb : bBelow a n x = false) (hs : ¬ bSum n x = 0) (ho : o < n) (he : ovr a n x n = lN o) (hq : Q (bn S e p d (mxF a n x f0 o) (mxG a n x g0 o) (cntI n (fun i => decide (0 < mxF a n x f0 o i))))) : wp_X1_mixParts (bn S e p d f0 g0 0) e (some r) Q := by
  have hn := hr.2.2.2.2.2.2.2.2.1
  unfold wp_X1_mixParts
  refine ⟨h.1, p_share h hr hb hs ?_⟩
  rw [he]
  have h1 := p_pos_L (f := mxF a n x f0 o) (g := mxG a n x g0 o) (Q := Q) h hr hq n 0 FU (by omega) (fu_pos (by omega))
  have e0 : cntI 0 (fun i => decide (0 < mxF a n x f0 o i)) = 0 := rfl
  rw [e0, nI0] at h1
  have h2 := p_mix_L (f := f0) (g := g0) (v := 0) (Q := Q) (K := fun S19 => wp_X1_mixParts_L66 e (some r) Q FU S19 0) h hr hb hs ho h1 o 0 FU (by omega) (fu_pos (by omega))
  have e1 : mxF a n x f0 0 = (fun j => if j < n then qt a n x j else f0 j) := by
    funext j; unfold mxF; rw [gn]; simp
  have e2 : mxG a n x g0 0 = (fun j => if j < n then rm a n x j else g0 j) := by
    funext j; unfold mxG; rw [gn]; simp
  rw [e1, e2, nI0] at h2
  exact h2
theorem p_countUp {f0 g0 : Nat → Int64} (h : isBn S e p d) (hr : isRc S r w k a b n x) (hq : Q (bn S e p d (fun j => if j < n then cP a x j else f0 j) g0 (sumJ n (cP a x)).toInt32)) : wp_X1_countUp (bn S e p d f0 g0 0) e (some r) Q := by
  have hn := hr.2.2.2.2.2.2.2.2.1
  have hr' := hr.bn (f := f0) (g := g0) (v := 0) h
  unfold wp_X1_countUp
  refine ⟨r, rfl, hr'.1, fun z3 hz3 => ?_⟩
  rw [hr'.2.2.2.2.2.1] at hz3
  rw [hz3]
  have h1 := p_count_L (f := f0) (g := g0) (v := 0) (Q := Q) h hr hq n 0 FU (by omega) (fu_pos (by omega))
  have e1 : (fun j => if j < 0 then cP a x j else f0 j) = f0 := by funext j; simp
  have e2 : sumJ 0 (cP a x) = 0 := rfl
  rw [e1, e2, nI0] at h1
  exact h1
theorem p_loadPoints {f0 g0 : Nat → Int64} {o bv : Nat} (h : isBn S e p d) (hr : isRc S r w k a (nI bv) n x) (hbv : bv < n) (hb : bBelow a n x = false) (hs : ¬ bSum n x = 0) (ho : o < n) (he : ovr a n x n = lN o) (hq : Q (bn S e p d (fun j => if j < o then (if j < n then qt a n x j else f0 j) + 1 else if j < n then qt a n x j else f0 j) (fun j => if j < n then rm a n x j else g0 j) (ldP a n x o bv).toInt32)) : wp_X1_loadPoints (bn S e p d f0 g0 0) e (some r) Q := by
  have hn := hr.2.2.2.2.2.2.2.2.1
  unfold wp_X1_loadPoints
  refine ⟨h.1, p_share h hr hb hs ?_⟩
  rw [he]
  have key := p_load_L (f := fun j => if j < n then qt a n x j else f0 j) (g := fun j => if j < n then rm a n x j else g0 j) (v := 0) (Q := Q) (K := fun (S13 : Hp) => ∃ b14 : Nat, (some r) = some b14 ∧ hK S13 b14 = 9 ∧ ((hI S13 b14 2) < 0 → Q S13) ∧ (¬ ((hI S13 b14 2) < 0) → ((hI S13 b14 4) ≤ (hI S13 b14 2) → Q S13) ∧ (¬ ((hI S13 b14 4) ≤ (hI S13 b14 2)) → hK S13 e = 3 ∧ ∃ b19 : Nat, (hR S13 e 0) = some b19 ∧ hK S13 b19 = 16 ∧ vp_in (hI S13 b14 2) (hN S13 b19) ∧ Q (sI S13 e 2 (((hJ S13 b19 ((hI S13 b14 2) : Int32).toNatClampNeg) : Int64).toInt32))))) h hr ho ?_ o 0 FU (by omega) (fu_pos (by omega))
  · have e1 : (fun j => if j < 0 then (if j < n then qt a n x j else f0 j) + 1 else if j < n then qt a n x j else f0 j) = (fun j => if j < n then qt a n x j else f0 j) := by
      funext j; simp
    rw [e1, nI0] at key
    exact key
  · have hr2 := hr.bn (f := fun j => if j < o then (if j < n then qt a n x j else f0 j) + 1 else if j < n then qt a n x j else f0 j) (g := fun j => if j < n then rm a n x j else g0 j) (v := 0) h
    have hc : (if bv < o then (if bv < n then qt a n x bv else f0 bv) + 1 else if bv < n then qt a n x bv else f0 bv) = ldP a n x o bv := by
      unfold ldP
      rw [if_pos hbv]
    refine ⟨r, rfl, hr2.1, ?_⟩
    rw [hr2.2.2.2.2.2.2.1, hr2.2.2.2.2.2.2.2.1]
    refine ⟨fun z => absurd z (nI_pos (by omega)), fun _ => ⟨fun z => absurd z (nI_ge hbv (by omega)), fun _ => ⟨h.1, p, h.2.1, h.2.2.2.1, (bn_in h (by omega)).1, ?_⟩⟩⟩
    rw [bn_se, nI_clamp (by omega), bn_p h, hc]
    exact hq
theorem p_comp {ro : Option Nat} {K : Hp → Prop} (h : isBn S e p d) (hk : ∀ f0, (∀ j, j < 30 → f0 j = 0) → K (bn S e p d f0 (hJ S d) (hI S e 2))) : wp_X1_compute_L2 e ro K Q FU S 0 := by
  have h1 := p_comp_L (f := hJ S p) (g := hJ S d) (v := hI S e 2) (ro := ro) (K := K) (Q := Q) h (hk _ (fun j hj => if_pos hj)) 30 0 FU rfl (fu_pos (by decide))
  have e1 : (fun j => if j < 0 then 0 else hJ S p j) = hJ S p := by funext j; simp
  rw [nI0, e1, bn_self S h] at h1
  exact h1
theorem p_compute (h : isBn S e p d) (hr : isRc S r w k a b n x) (hk : k = 0 ∨ k = 1 ∨ k = 2 ∨ k = 3 ∨ k = 4 ∨ k = 5) (hq : ∀ f g', (∀ i, i < 30 → f i = bPart k a b n x i) → Q (bn S e p d f g' (bRes k a b n x))) : wp_X1_compute S e (some r) Q := by
  have hn := hr.2.2.2.2.2.2.2.2.1
  have d10 : ¬ (1 : Int32) = 0 := by decide
  have d20 : ¬ (2 : Int32) = 0 := by decide
  have d30 : ¬ (3 : Int32) = 0 := by decide
  have d40 : ¬ (4 : Int32) = 0 := by decide
  have d50 : ¬ (5 : Int32) = 0 := by decide
  have d01 : ¬ (0 : Int32) = 1 := by decide
  have d02 : ¬ (0 : Int32) = 2 := by decide
  have d03 : ¬ (0 : Int32) = 3 := by decide
  have d04 : ¬ (0 : Int32) = 4 := by decide
  have d05 : ¬ (0 : Int32) = 5 := by decide
  have d21 : ¬ (2 : Int32) = 1 := by decide
  have d31 : ¬ (3 : Int32) = 1 := by decide
  have d41 : ¬ (4 : Int32) = 1 := by decide
  have d51 : ¬ (5 : Int32) = 1 := by decide
  have d32 : ¬ (3 : Int32) = 2 := by decide
  have d42 : ¬ (4 : Int32) = 2 := by decide
  have d52 : ¬ (5 : Int32) = 2 := by decide
  have d43 : ¬ (4 : Int32) = 3 := by decide
  have d53 : ¬ (5 : Int32) = 3 := by decide
  have d45 : ¬ (4 : Int32) = 5 := by decide
  have d54 : ¬ (5 : Int32) = 4 := by decide
  unfold wp_X1_compute
  refine p_comp h (fun f0 hf0 => ?_)
  rw [bn_se]
  generalize hJ S d = g0
  have hr' := hr.bn (f := f0) (g := g0) (v := 0) h
  refine ⟨h.1, r, rfl, hr'.1, p_fault hr' hk ⟨fun hz => ⟨hr'.1, ?_⟩, fun hz => ?_⟩⟩
  · rw [hr'.2.2.2.2.1]
    rcases hk with rfl | rfl | rfl | rfl | rfl | rfl
    · refine ⟨fun z => absurd z d01, fun _ => ⟨fun z => absurd z d02, fun _ => ⟨fun z => absurd z d03, fun _ => ⟨fun z => absurd z d04, fun _ => ⟨fun z => absurd z d05, fun _ => ?_⟩⟩⟩⟩⟩
      have := hq f0 g0 (fun i hi => by rw [hf0 i hi]; unfold bPart; simp only [d01, d02, d03, d05, if_false, ite_self])
      unfold bRes at this
      simp only [hz, ne_eq, not_true_eq_false, d01, d02, d03, d04, d05, if_false] at this
      exact this
    · refine ⟨fun _ => ⟨h.1, ?_⟩, fun z => absurd rfl z⟩
      refine p_cutBoards h hr (fun g' => ?_)
      · have := hq (ctF a b n x f0 n) g' (fun i hi => by
          unfold ctF bPart
          by_cases z : i < n
          · rw [if_pos z, gn_all z, if_pos rfl, if_neg (by rw [hz]; simp only [ne_eq, not_true_eq_false, false_or]; omega), if_pos rfl]
          · rw [if_neg z, if_pos (Or.inr (by omega)), hf0 i hi])
        unfold bRes at this
        simp only [hz, ne_eq, not_true_eq_false, if_false, if_true] at this
        exact this
    · refine ⟨fun z => absurd z d21, fun _ => ⟨fun _ => ⟨h.1, ?_⟩, fun z => absurd rfl z⟩⟩
      obtain ⟨n0, hb, hs⟩ := nf_mix hz
      obtain ⟨o, ho, he, ho2⟩ := ovr_lt hn n0 hb hs
      refine p_mixParts h hr hb hs ho he ?_
      · have hc : ∀ i, i < n → mxF a n x f0 o i = mxP a n x o i := fun i hi => by
          unfold mxF mxP
          rw [if_pos hi]
        have := hq (mxF a n x f0 o) (mxG a n x g0 o) (fun i hi => by
          unfold bPart
          by_cases z : i < n
          · rw [hc i z, if_neg (by rw [hz]; simp only [ne_eq, not_true_eq_false, false_or]; omega), if_neg d21, if_pos rfl, ho2]
          · unfold mxF; rw [if_neg z, if_pos (Or.inr (by omega)), hf0 i hi])
        unfold bRes at this
        simp only [hz, ne_eq, not_true_eq_false, d21, if_false, if_true, ho2] at this
        rw [cntI_congr (q := fun i => decide (0 < mxP a n x o i)) (fun i hi => by rw [hc i hi])]
        exact this
    · refine ⟨fun z => absurd z d31, fun _ => ⟨fun z => absurd z d32, fun _ => ⟨fun _ => ⟨h.1, ?_⟩, fun z => absurd rfl z⟩⟩⟩
      obtain ⟨n0, hb, hs, hb0, hb1⟩ := nf_load hz
      obtain ⟨o, ho, he, ho2⟩ := ovr_lt hn n0 hb hs
      obtain ⟨bv, hbv, rfl⟩ : ∃ bv : Nat, bv < n ∧ b = nI bv := by
        obtain ⟨j, hj, rfl⟩ := nI_of hb0
        refine ⟨j, ?_, rfl⟩
        by_cases z : j < n
        · exact z
        · exact absurd (nI_le (by omega) (by omega)) hb1
      refine p_loadPoints h hr hbv hb hs ho he ?_
      have hc : ∀ i, i < n → (if i < o then (if i < n then qt a n x i else f0 i) + 1 else if i < n then qt a n x i else f0 i) = ldP a n x o i := fun i hi => by
        unfold ldP
        rw [if_pos hi]
      have := hq (fun j => if j < o then (if j < n then qt a n x j else f0 j) + 1 else if j < n then qt a n x j else f0 j) (fun j => if j < n then rm a n x j else g0 j) (fun i hi => by
        unfold bPart
        by_cases z : i < n
        · rw [hc i z, if_neg (by rw [hz]; simp only [ne_eq, not_true_eq_false, false_or]; omega), if_neg d31, if_neg d32, if_pos rfl, ho2]
        · rw [if_neg (by omega), if_neg z, if_pos (Or.inr (by omega)), hf0 i hi])
      unfold bRes at this
      simp only [hz, ne_eq, not_true_eq_false, d31, d32, if_false, if_true, ho2, nI_clamp (show bv < 2 ^ 31 by omega)] at this
      exact this
    · refine ⟨fun z => absurd z d41, fun _ => ⟨fun z => absurd z d42, fun _ => ⟨fun z => absurd z d43, fun _ => ⟨fun _ => ⟨h.1, ?_⟩, fun z => absurd rfl z⟩⟩⟩⟩
      have := hq f0 g0 (fun i hi => by rw [hf0 i hi]; unfold bPart; simp only [d41, d42, d43, d45, if_false, ite_self])
      unfold bRes at this
      simp only [hz, ne_eq, not_true_eq_false, d41, d42, d43, if_false, if_true] at this
      rw [bn_se, hr'.2.2.2.2.2.2.2.1]
      exact this
    · refine ⟨fun z => absurd z d51, fun _ => ⟨fun z => absurd z d52, fun _ => ⟨fun z => absurd z d53, fun _ => ⟨fun z => absurd z d54, fun _ => ⟨fun _ => ⟨h.1, ?_⟩, fun z => absurd rfl z⟩⟩⟩⟩⟩
      refine p_countUp h hr ?_
      · have := hq (fun j => if j < n then cP a x j else f0 j) g0 (fun i hi => by
          unfold bPart
          by_cases z : i < n
          · rw [if_pos z, if_neg (by rw [hz]; simp only [ne_eq, not_true_eq_false, false_or]; omega), if_neg d51, if_neg d52, if_neg d53, if_pos rfl]
          · rw [if_neg z, if_pos (Or.inr (by omega)), hf0 i hi])
        unfold bRes at this
        simp only [hz, ne_eq, not_true_eq_false, d51, d52, d53, d54, if_false, if_true] at this
        exact this
  · have := hq f0 g0 (fun i hi => by rw [hf0 i hi]; unfold bPart; rw [if_pos (Or.inl hz)])
    unfold bRes at this
    rw [if_pos hz] at this
    exact this
end CM
