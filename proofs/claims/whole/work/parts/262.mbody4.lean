section ME
variable {A : Nat → Nat → Nat} {B : Nat → Nat × Nat} {S : Hp} {nc nw nm nj : Nat} {cw jc : Nat → Nat} {I : FI} {J : FJ} {R : FR} {xs : Nat → Int32} {L : Nat} {l4 : Int32}
variable {j n : Nat} {a b v : Int32} {x g : Nat → Int32} {f u : Nat → Int64} {Q : Int32 → Hp → Prop}
theorem p_c27 {K : Hp → Prop} (h : Sh A B S nj nc) (hm : mB I j n a b x) (h1 : anyB n (fun i => decide (x i < 1) || decide (a < x i)) = true → Q 20 (hq A B S (bI I v g) (bJ J f u) R)) (h0 : anyB n (fun i => decide (x i < 1) || decide (a < x i)) = false → K (hq A B S (bI I v g) (bJ J f u) R)) : ∀ (r k m : Nat), k + r = n → r < m → (∀ i, i < k → (decide (x i < 1) || decide (a < x i)) = false) → wp_X12_cuts_L27 (A 0 23) (nI j) (nI n) a.toInt64 b.toInt64 K Q m (hq A B S (bI I v g) (bJ J f u) R) (nI k) := by
  obtain ⟨hj, hn, hn0, e19, e16, e17, ex⟩ := id hm
  intro r
  induction r with
  | zero =>
    intro k m e hr hz
    obtain ⟨m, rfl⟩ : ∃ q, m = q + 1 := ⟨m - 1, by omega⟩
    obtain rfl : k = n := by omega
    rw [wp_X12_cuts_L27]
    exact ⟨fun _ => h0 (anyB_no.mpr hz), fun z => absurd (nI_le (Nat.le_refl _) (by omega)) z⟩
  | succ r ih =>
    intro k m e hr hz
    obtain ⟨m, rfl⟩ : ∃ q, m = q + 1 := ⟨m - 1, by omega⟩
    rw [wp_X12_cuts_L27]
    refine ⟨fun z => absurd z (nI_ge (by omega) (by omega)), fun _ => ⟨fr_23 h _ _ _, p_num h hm (show k < 30 by omega) ⟨fun q => h1 (anyB_of (k := k) (by omega) (by simp [q])), fun q => ⟨fr_23 h _ _ _, p_num h hm (show k < 30 by omega) ⟨fun q2 => ?_, fun q2 => h1 (anyB_of (k := k) (by omega) ?_)⟩⟩⟩⟩⟩
    · rw [show nI k + 1 = nI (k + 1) from (nI_succ k).symm]
      refine ih (k + 1) m (by omega) (by omega) (fun i hi => ?_)
      by_cases z : i = k
      · subst z
        have : ¬ a < x i := by rw [← wide_lt]; exact j_nlt.mpr q2
        simp [q, this]
      · exact hz i (by omega)
    · have : a < x k := by rw [← wide_lt]; exact j_nle.mp q2
      simp [this]
theorem p_c79 {K : Hp → Prop} {w1 : Int32} {w2 w3 : Int64} (h : Sh A B S nj nc) (hk : K (hq A B S (bI I v (fun p => if p < 30 then 0 else g p)) (bJ J f (fun p => if p < 30 then 0 else u p)) R)) : ∀ (r k m : Nat), k + r = 30 → r < m → wp_X12_cuts_L79 (A 0 23) (nI j) w1 w2 w3 K Q m (hq A B S (bI I v (fun p => if p < k then 0 else g p)) (bJ J f (fun p => if p < k then 0 else u p)) R) (nI k) := by
  intro r
  induction r with
  | zero =>
    intro k m e hr
    obtain ⟨m, rfl⟩ : ∃ q, m = q + 1 := ⟨m - 1, by omega⟩
    obtain rfl : k = 30 := by omega
    rw [wp_X12_cuts_L79]
    exact ⟨fun _ => hk, fun z => absurd (nI_le (a := 30) (b := 30) (Nat.le_refl _) (by decide)) z⟩
  | succ r ih =>
    intro k m e hr
    obtain ⟨m, rfl⟩ : ∃ q, m = q + 1 := ⟨m - 1, by omega⟩
    have e1 : (fun p => if p = k then (0 : Int32) else if p < k then 0 else g p) = (fun p => if p < k + 1 then 0 else g p) := by
      funext p
      by_cases q : p = k
      · subst q; simp
      · have : p < k + 1 ↔ p < k := by omega
        simp only [q, if_false, this]
    have e2 : (fun p => if p = k then (0 : Int64) else if p < k then 0 else u p) = (fun p => if p < k + 1 then 0 else u p) := by
      funext p
      by_cases q : p = k
      · subst q; simp
      · have : p < k + 1 ↔ p < k := by omega
        simp only [q, if_false, this]
    rw [wp_X12_cuts_L79]
    simp only [fr_23 h, fm_42 h, fm_43 h, hi_q h, hj_q h, si_q h, sj_q h, vv_5 h, vs_5 h, vv_7 h, vs_7 h, vv_8 h, vs_8 h, vv_9 h, vs_9 h, vv_11 h, vs_11 h, vv_17 h, vs_17 h, vv_18 h, vs_18 h, vj_3 h, vj_4 h, vj_5 h, ex_some, ex_def, all_def, true_and, and_true, Nat.reduceLT, nI_clamp (show k < 2 ^ 31 by omega), vin (show k < 30 by omega) (show 30 < 2 ^ 31 by decide), bI_g, bJ_u, e1, e2]
    rw [show nI k + 1 = nI (k + 1) from (nI_succ k).symm]
    exact ⟨fun z => absurd z (nI_ge (b := 30) (by omega) (by decide)), fun _ => ih (k + 1) m (by omega) (by omega)⟩
theorem p_c126 {K : Hp → Int32 → Prop} {w7 w8 : Int32} (h : Sh A B S nj nc) (hm : mB I j n a b x) (hk : K (hq A B S (bI I v g) (bJ J f u) R) (enc (bst (fun i => decide (g i = 0)) (xl x) n))) : ∀ (r k m : Nat), k + r = n → r < m → wp_X12_cuts_L126 (A 0 23) (nI j) (nI n) a.toInt64 b.toInt64 w7 w8 K Q m (hq A B S (bI I v g) (bJ J f u) R) (enc (bst (fun i => decide (g i = 0)) (xl x) k)) (nI k) := by
  obtain ⟨hj, hn, h0, e19, e16, e17, ex⟩ := id hm
  intro r
  induction r with
  | zero =>
    intro k m e hr
    obtain ⟨m, rfl⟩ : ∃ q, m = q + 1 := ⟨m - 1, by omega⟩
    obtain rfl : k = n := by omega
    rw [wp_X12_cuts_L126]
    exact ⟨fun _ => hk, fun z => absurd (nI_le (Nat.le_refl _) (by omega)) z⟩
  | succ r ih =>
    intro k m e hr
    obtain ⟨m, rfl⟩ : ∃ q, m = q + 1 := ⟨m - 1, by omega⟩
    have w := ih (k + 1) m (by omega) (by omega)
    rw [bst] at w
    rw [wp_X12_cuts_L126]
    simp only [fr_23 h, fm_42 h, hi_q h, hj_q h, si_q h, sj_q h, vv_5 h, vs_5 h, vv_7 h, vs_7 h, vv_8 h, vs_8 h, vv_9 h, vs_9 h, vv_11 h, vs_11 h, vv_17 h, vs_17 h, vv_18 h, vs_18 h, vj_3 h, vj_4 h, vj_5 h, ex_some, ex_def, all_def, true_and, and_true, Nat.reduceLT, nI_clamp (show k < 2 ^ 31 by omega), vin (show k < 30 by omega) (show 30 < 2 ^ 31 by decide), bI_42]
    rw [show nI k + 1 = nI (k + 1) from (nI_succ k).symm]
    refine ⟨fun z => absurd z (nI_ge (by omega) (by omega)), fun _ => ⟨fun z => ?_, fun z => ?_⟩⟩
    · simp only [z, decide_true, true_and, if_true] at w
      cases hb : bst (fun i => decide (g i = 0)) (xl x) k with
      | none =>
        rw [hb] at w
        exact ⟨fun _ => w, fun q => absurd rfl q⟩
      | some c =>
        have hc := (bst_ok hb).1
        rw [hb] at w
        refine ⟨fun q => absurd q (nI_nm1 (by omega)), fun _ => p_num h hm (show k < 30 by omega) ⟨fr_23 h _ _ _, p_num h hm (show c < 30 by omega) ⟨fun q => ?_, fun q => ?_⟩⟩⟩
        · have q2 : ¬ xl x c < xl x k := by unfold xl; rw [wide_lt]; exact i_nlt.mpr q
          simp only [q2, if_false] at w
          exact w
        · have q2 : xl x c < xl x k := by unfold xl; rw [wide_lt]; exact i_nle.mp q
          simp only [q2, if_true] at w
          exact w
    · simp only [z, decide_false, Bool.false_eq_true, false_and, if_false] at w
      cases hb : bst (fun i => decide (g i = 0)) (xl x) k with
      | none => rw [hb] at w; exact w
      | some c => rw [hb] at w; exact w
theorem p_c186 {K : Hp → Int32 → Prop} {w8 : Int32} {c q : Nat} (h : Sh A B S nj nc) (hm : mB I j n a b x) (hc : c < 30) (hq30 : q ≤ 30) (hk : K (hq A B S (bI I v g) (bJ J f u) R) (nI (fstB u a b (xl x c) q 0))) : ∀ (r k m : Nat), k + r = q → r < m → fstB u a b (xl x c) q 0 = fstB u a b (xl x c) r k → wp_X12_cuts_L186 (A 0 23) (nI j) (nI n) a.toInt64 b.toInt64 (nI q) w8 (nI c) K Q m (hq A B S (bI I v g) (bJ J f u) R) (nI k) := by
  intro r
  induction r with
  | zero =>
    intro k m e hr he
    obtain ⟨m, rfl⟩ : ∃ q, m = q + 1 := ⟨m - 1, by omega⟩
    obtain rfl : k = q := by omega
    rw [wp_X12_cuts_L186]
    rw [he] at hk
    exact ⟨fun _ => hk, fun z => absurd (nI_le (Nat.le_refl _) (by omega)) z⟩
  | succ r ih =>
    intro k m e hr he
    obtain ⟨m, rfl⟩ : ∃ q, m = q + 1 := ⟨m - 1, by omega⟩
    rw [wp_X12_cuts_L186]
    simp only [fr_23 h, fm_43 h, hi_q h, hj_q h, si_q h, sj_q h, vv_5 h, vs_5 h, vv_7 h, vs_7 h, vv_8 h, vs_8 h, vv_9 h, vs_9 h, vv_11 h, vs_11 h, vv_17 h, vs_17 h, vv_18 h, vs_18 h, vj_3 h, vj_4 h, vj_5 h, ex_some, ex_def, all_def, true_and, and_true, Nat.reduceLT, nI_clamp (show k < 2 ^ 31 by omega), vin (show k < 30 by omega) (show 30 < 2 ^ 31 by decide), bJ_43]
    rw [show nI k + 1 = nI (k + 1) from (nI_succ k).symm]
    rw [fstB] at he
    refine ⟨fun z => absurd z (nI_ge (by omega) (by omega)), fun _ => p_num h hm hc ⟨fun z => ?_, fun z => ?_⟩⟩
    · rw [if_neg (show ¬ a.toInt64 < u k + b.toInt64 + xl x c from j_nlt.mpr z)] at he
      rw [he] at hk; exact hk
    · rw [if_pos (show a.toInt64 < u k + b.toInt64 + xl x c from j_nle.mp z)] at he
      exact ih (k + 1) m (by omega) (by omega) he
theorem cut_0 : ∀ t i, (cutS a b n x t).1 ≤ i → (cutS a b n x t).2.1 i = 0 := by
  intro t
  induction t with
  | zero => intro i _; rfl
  | succ t ih =>
    intro i hi
    rw [cutS] at hi ⊢
    cases hb : bst (fun j => !gn (xl x) n t j) (xl x) n with
    | none => rw [hb] at hi; simp only [hb] at hi ⊢; exact ih i hi
    | some p =>
      simp only [hb] at hi ⊢
      have hf := (fstB_le (cutS a b n x t).2.1 a b (xl x p) (cutS a b n x t).1 0).2
      by_cases e : fstB (cutS a b n x t).2.1 a b (xl x p) (cutS a b n x t).1 0 = (cutS a b n x t).1
      · simp only [e, if_true] at hi ⊢
        rw [if_neg (by omega)]
        exact ih i (by omega)
      · simp only [e, if_false] at hi ⊢
        rw [if_neg (by omega)]
        exact ih i hi
theorem j_add3 (y z w : Int64) : y + (z + w) = y + w + z := by grind
theorem p_c114 (h : Sh A B S nj nc) (hm : mB I j n a b x) (hk : ∀ f' g' u', (∀ p, p < 30 → f' p = if p < n then (cutS a b n x n).2.2 p else 0) → Q 0 (hq A B S (bI I (nI (cutS a b n x n).1) g') (bJ J f' u') R)) : ∀ (r t m : Nat) (f' u' : Nat → Int64) (g' : Nat → Int32), t + r = n → r < m → (∀ p, p < 30 → f' p = if p < n then (cutS a b n x t).2.2 p else 0) → (∀ p, p < n → g' p = if gn (xl x) n t p = true then 1 else 0) → (∀ p, p < 30 → u' p = (cutS a b n x t).2.1 p) → wp_X12_cuts_L114 (A 0 23) (nI j) (nI n) a.toInt64 b.toInt64 Q m (hq A B S (bI I v g') (bJ J f' u') R) (nI (cutS a b n x t).1) (nI t) := by
  obtain ⟨hj, hn, h0, e19, e16, e17, ex⟩ := id hm
  intro r
  induction r with
  | zero =>
    intro t m f' u' g' e hr hf hg hu
    obtain ⟨m, rfl⟩ : ∃ q, m = q + 1 := ⟨m - 1, by omega⟩
    obtain rfl : t = n := by omega
    rw [wp_X12_cuts_L114]
    simp only [fr_23 h, hi_q h, hj_q h, si_q h, sj_q h, vv_5 h, vs_5 h, vv_7 h, vs_7 h, vv_8 h, vs_8 h, vv_9 h, vs_9 h, vv_11 h, vs_11 h, vv_17 h, vs_17 h, vv_18 h, vs_18 h, vj_3 h, vj_4 h, vj_5 h, ex_some, ex_def, all_def, true_and, and_true, Nat.reduceLT, bI_v]
    exact ⟨fun _ => hk f' g' u' hf, fun z => absurd (nI_le (Nat.le_refl _) (by omega)) z⟩
  | succ r ih =>
    intro t m f' u' g' e hr hf hg hu
    obtain ⟨m, rfl⟩ : ∃ q, m = q + 1 := ⟨m - 1, by omega⟩
    rw [wp_X12_cuts_L114]
    refine ⟨fun z => absurd z (nI_ge (by omega) (by omega)), fun _ => ?_⟩
    obtain ⟨c, hc, hcn, hcg⟩ := gn_best (v := xl x) (show t < n by omega)
    have eb : bst (fun i => decide (g' i = 0)) (xl x) n = some c := by
      rw [← hc]
      refine bst_congr (fun i hi => ⟨?_, rfl⟩)
      rw [hg i hi]
      cases gn (xl x) n t i <;> decide
    have ew : enc (bst (fun i => decide (g' i = 0)) (xl x) n) = nI c := by rw [eb]; rfl
    have ct := cut_n (a := a) (b := b) (n := n) (x := x) t
    refine p_c126 h hm ?_ n 0 FU (by omega) (fu_pos (by omega))
    rw [ew]
    simp only [fr_23 h, fm_42 h, hi_q h, hj_q h, si_q h, sj_q h, vv_5 h, vs_5 h, vv_7 h, vs_7 h, vv_8 h, vs_8 h, vv_9 h, vs_9 h, vv_11 h, vs_11 h, vv_17 h, vs_17 h, vv_18 h, vs_18 h, vj_3 h, vj_4 h, vj_5 h, ex_some, ex_def, all_def, true_and, and_true, Nat.reduceLT, nI_clamp (show c < 2 ^ 31 by omega), vin (show c < 30 by omega) (show 30 < 2 ^ 31 by decide), bI_g]
    have efb : fstB u' a b (xl x c) (cutS a b n x t).1 0 = fstB (cutS a b n x t).2.1 a b (xl x c) (cutS a b n x t).1 0 := fstB_congr _ _ (fun i _ hi => hu i (by omega))
    refine p_c186 h hm (show c < 30 by omega) (by omega) ?_ (cutS a b n x t).1 0 FU (by omega) (fu_pos (by omega)) rfl
    rw [efb]
    have hkb := (fstB_le (cutS a b n x t).2.1 a b (xl x c) (cutS a b n x t).1 0).2
    generalize hK : fstB (cutS a b n x t).2.1 a b (xl x c) (cutS a b n x t).1 0 = k at hkb
    simp only [fr_23 h, fm_43 h, fm_40 h, hi_q h, hj_q h, si_q h, sj_q h, vv_5 h, vs_5 h, vv_7 h, vs_7 h, vv_8 h, vs_8 h, vv_9 h, vs_9 h, vv_11 h, vs_11 h, vv_17 h, vs_17 h, vv_18 h, vs_18 h, vj_3 h, vj_4 h, vj_5 h, ex_some, ex_def, all_def, true_and, and_true, Nat.reduceLT, nI_clamp (show c < 2 ^ 31 by omega), nI_clamp (show k < 2 ^ 31 by omega), vin (show c < 30 by omega) (show 30 < 2 ^ 31 by decide), vin (show k < 30 by omega) (show 30 < 2 ^ 31 by decide), bJ_43]
    refine p_num h hm (show c < 30 by omega) ?_
    simp only [fr_23 h, fm_43 h, fm_40 h, hi_q h, hj_q h, si_q h, sj_q h, vv_5 h, vs_5 h, vv_7 h, vs_7 h, vv_8 h, vs_8 h, vv_9 h, vs_9 h, vv_11 h, vs_11 h, vv_17 h, vs_17 h, vv_18 h, vs_18 h, vj_3 h, vj_4 h, vj_5 h, ex_some, ex_def, all_def, true_and, and_true, Nat.reduceLT, nI_clamp (show c < 2 ^ 31 by omega), nI_clamp (show k < 2 ^ 31 by omega), vin (show c < 30 by omega) (show 30 < 2 ^ 31 by decide), vin (show k < 30 by omega) (show 30 < 2 ^ 31 by decide), bJ_43, bJ_u, bJ_f, nI_eq (show k < 2 ^ 31 by omega) (show (cutS a b n x t).1 < 2 ^ 31 by omega)]
    rw [show nI t + 1 = nI (t + 1) from (nI_succ t).symm]
    have cs : cutS a b n x (t + 1) = (if k = (cutS a b n x t).1 then (cutS a b n x t).1 + 1 else (cutS a b n x t).1, fun i => if i = k then (if k = (cutS a b n x t).1 then xl x c else (cutS a b n x t).2.1 k + b.toInt64 + xl x c) else (cutS a b n x t).2.1 i, fun i => if i = c then (nI k).toInt64 else (cutS a b n x t).2.2 i) := by
      rw [cutS]
      simp only [hc, hK]
    have hgn : ∀ p, p < n → (if p = c then (1 : Int32) else g' p) = if gn (xl x) n (t + 1) p = true then 1 else 0 := fun p hp => by
      rw [gn]
      by_cases q : p = c
      · subst q; simp [hc]
      · simp [q, hc, hg p hp, Ne.symm q]
    have hfn : ∀ p, p < 30 → (if p = c then (nI k).toInt64 else f' p) = if p < n then (cutS a b n x (t + 1)).2.2 p else 0 := fun p hp => by
      rw [cs]
      by_cases q : p = c
      · subst q; simp [hcn]
      · simp only [q, if_false]; exact hf p hp
    refine ⟨fun z => ⟨fun _ => ?_, fun q => absurd z q⟩, fun z => ⟨fun q => absurd q z, fun _ => ?_⟩⟩
    · have w := ih (t + 1) m (fun p => if p = c then (nI k).toInt64 else f' p) (fun p => if p = k then u' k + (xl x c + 0) else u' p) (fun p => if p = c then 1 else g' p) (by omega) (by omega) hfn hgn (fun p hp => ?_)
      · rw [show (cutS a b n x (t + 1)).1 = (cutS a b n x t).1 + 1 by rw [cs]; simp [z], nI_succ] at w
        exact w
      · rw [cs]
        by_cases q : p = k
        · subst q
          simp only [if_true, z]
          rw [hu _ (by omega), cut_0 t _ (Nat.le_refl _)]
          grind
        · simp only [q, if_false]; exact hu p hp
    · have w := ih (t + 1) m (fun p => if p = c then (nI k).toInt64 else f' p) (fun p => if p = k then u' k + (xl x c + b.toInt64) else u' p) (fun p => if p = c then 1 else g' p) (by omega) (by omega) hfn hgn (fun p hp => ?_)
      · rw [show (cutS a b n x (t + 1)).1 = (cutS a b n x t).1 by rw [cs]; simp [z]] at w
        exact w
      · rw [cs]
        by_cases q : p = k
        · subst q
          simp only [if_true, z, if_false]
          rw [hu p hp, j_add3]
        · simp only [q, if_false]; exact hu p hp
theorem p_cuts (h : Sh A B S nj nc) (hm : mB I j n a b x) (hf0 : ∀ p, p < 30 → f p = 0) (hk : ∀ v' f' g' u', (bFault 1 a b n x = 0 → v' = bRes 1 a b n x) → (bFault 1 a b n x ≠ 0 → v' = 0) → (∀ p, p < 30 → f' p = bPart 1 a b n x p) → Q (bFault 1 a b n x) (hq A B S (bI I v' g') (bJ J f' u') R)) : wp_X12_cuts (hq A B S (bI I 0 g) (bJ J f u) R) (A 0 23) (nI j) Q := by
  obtain ⟨hj, hn, h0, e19, e16, e17, ex⟩ := id hm
  have bf : bFault 1 a b n x = if bCutBad a b n x = true then 20 else 0 := by
    unfold bFault
    simp [show ¬ ((1 : Int32) = 0) by decide, show ¬ n = 0 by omega]
  have bad : bCutBad a b n x = true → Q 20 (hq A B S (bI I 0 g) (bJ J f u) R) := fun q => by
    have b1 : bFault 1 a b n x = 20 := by rw [bf, q]; rfl
    have := hk 0 f g u (fun z => absurd (b1.symm.trans z) (by decide)) (fun _ => rfl) (fun p hp => by
      unfold bPart; rw [if_pos (Or.inl (by rw [b1]; decide))]; exact hf0 p hp)
    rw [b1] at this; exact this
  unfold wp_X12_cuts
  simp only [fr_23 h, fm_19 h, fm_16 h, fm_17 h, hi_q h, hj_q h, si_q h, sj_q h, vv_5 h, vs_5 h, vv_7 h, vs_7 h, vv_8 h, vs_8 h, vv_9 h, vs_9 h, vv_11 h, vs_11 h, vv_17 h, vs_17 h, vv_18 h, vs_18 h, vj_3 h, vj_4 h, vj_5 h, ex_some, ex_def, all_def, true_and, and_true, Nat.reduceLT, nI_clamp (show j < 2 ^ 31 by omega), vin hj (show 200 < 2 ^ 31 by decide), bI_o I _ g (show 19 ≠ 42 by decide), bI_o I _ g (show 16 ≠ 42 by decide), bI_o I _ g (show 17 ≠ 42 by decide), e19, e16, e17]
  have b64 : (0 : Int64) ≤ b.toInt64 ↔ ¬ b < 0 := by
    rw [i_nlt, Int64.le_iff_toInt_le, Int32.le_iff_toInt_le, Int32.toInt_toInt64]; exact Iff.rfl
  refine p_c27 h hm (fun q => bad (by unfold bCutBad; rw [q, Bool.or_true])) (fun q => ⟨fun w => ?_, fun w => bad ?_⟩) n 0 FU (by omega) (fu_pos (by omega)) (fun i hi => absurd hi (Nat.not_lt_zero i))
  · have b1 : bFault 1 a b n x = 0 := by
      rw [bf]; unfold bCutBad; rw [q, decide_eq_false (b64.mp w)]; rfl
    have z0 : g = (fun p => if p < 0 then 0 else g p) := by funext p; simp
    have z1 : u = (fun p => if p < 0 then 0 else u p) := by funext p; simp
    have w := p_c79 (K := fun (S33 : Hp) => wp_X12_cuts_L114 (A 0 23) (nI j) (nI n) a.toInt64 b.toInt64 Q FU S33 0 0) (Q := Q) (v := 0) (g := g) (f := f) (u := u) (I := I) (J := J) (R := R) (j := j) (w1 := nI n) (w2 := a.toInt64) (w3 := b.toInt64) h ?_ 30 0 FU (by omega) (fu_pos (by omega))
    · rw [← z0, ← z1] at w; exact w
    · refine p_c114 h hm (fun f' g' u' hf => ?_) n 0 FU _ _ _ (by omega) (fu_pos (by omega)) (fun p hp => ?_) (fun p hp => ?_) (fun p hp => ?_)
      · have := hk (nI (cutS a b n x n).1) f' g' u' (fun _ => ?_) (fun z => absurd b1 z) (fun p hp => ?_)
        · rw [b1] at this; exact this
        · unfold bRes; simp [b1]
        · unfold bPart
          simp only [b1, ne_eq, not_true_eq_false, false_or, if_true]
          rw [hf p hp]
          by_cases q : n ≤ p
          · rw [if_pos q, if_neg (by omega)]
          · rw [if_neg q, if_pos (by omega)]
      · rw [hf0 p hp]; by_cases q : p < n <;> simp [q, cutS]
      · simp [show p < 30 by omega, gn]
      · simp [hp, cutS]
  · unfold bCutBad
    have : b < 0 := by
      by_cases z : b < 0
      · exact z
      · exact absurd (b64.mpr z) w
    simp [this]
theorem p_b7 {K : Hp → Prop} (h : Sh A B S nj nc) (hk : K (hq A B S (bI I v g) (bJ J (fun p => if p < 30 then 0 else f p) u) R)) : ∀ (r k m : Nat), k + r = 30 → r < m → wp_X12_bodyOf_L7 (A 0 23) (nI j) K Q m (hq A B S (bI I v g) (bJ J (fun p => if p < k then 0 else f p) u) R) (nI k) := by
  intro r
  induction r with
  | zero =>
    intro k m e hr
    obtain ⟨m, rfl⟩ : ∃ q, m = q + 1 := ⟨m - 1, by omega⟩
    obtain rfl : k = 30 := by omega
    rw [wp_X12_bodyOf_L7]
    exact ⟨fun _ => hk, fun z => absurd (nI_le (a := 30) (b := 30) (Nat.le_refl _) (by decide)) z⟩
  | succ r ih =>
    intro k m e hr
    obtain ⟨m, rfl⟩ : ∃ q, m = q + 1 := ⟨m - 1, by omega⟩
    have e2 : (fun p => if p = k then (0 : Int64) else if p < k then 0 else f p) = (fun p => if p < k + 1 then 0 else f p) := by
      funext p
      by_cases q : p = k
      · subst q; simp
      · have : p < k + 1 ↔ p < k := by omega
        simp only [q, if_false, this]
    rw [wp_X12_bodyOf_L7]
    simp only [fr_23 h, fm_40 h, hi_q h, hj_q h, si_q h, sj_q h, vv_5 h, vs_5 h, vv_7 h, vs_7 h, vv_8 h, vs_8 h, vv_9 h, vs_9 h, vv_11 h, vs_11 h, vv_17 h, vs_17 h, vv_18 h, vs_18 h, vj_3 h, vj_4 h, vj_5 h, ex_some, ex_def, all_def, true_and, and_true, Nat.reduceLT, nI_clamp (show k < 2 ^ 31 by omega), vin (show k < 30 by omega) (show 30 < 2 ^ 31 by decide), bJ_f, e2]
    rw [show nI k + 1 = nI (k + 1) from (nI_succ k).symm]
    exact ⟨fun z => absurd z (nI_ge (b := 30) (by omega) (by decide)), fun _ => ih (k + 1) m (by omega) (by omega)⟩
/-- the reference's body: its fault, its parts, its result -/
theorem p_body (h : Sh A B S nj nc) (hj : j < 200) (hn : n ≤ 30) (e19 : I 1 19 j = if n = 0 then -1 else nI n) (hkd : I 1 15 j = 0 ∨ I 1 15 j = 1 ∨ I 1 15 j = 2 ∨ I 1 15 j = 3 ∨ I 1 15 j = 4 ∨ I 1 15 j = 5) (hk : ∀ v g f u, v = bRes (I 1 15 j) (I 1 16 j) (I 1 17 j) n (fun i => I 1 18 (30 * j + i)) → (∀ p, p < 30 → f p = bPart (I 1 15 j) (I 1 16 j) (I 1 17 j) n (fun i => I 1 18 (30 * j + i)) p) → Q (bFault (I 1 15 j) (I 1 16 j) (I 1 17 j) n (fun i => I 1 18 (30 * j + i))) (hq A B S (bI I v g) (bJ J f u) R)) : wp_X12_bodyOf (hq A B S I J R) (A 0 23) (nI j) Q := by
  unfold wp_X12_bodyOf
  refine ⟨fr_23 h _ _ _, ?_⟩
  have zI : up3 I 0 23 41 0 = bI I 0 (I 1 42) := by
    have := bI_v I (I 0 23 41) 0 (I 1 42)
    rw [bI_self] at this; exact this
  have zJ : J = bJ J (fun p => if p < 0 then 0 else J 1 40 p) (J 1 43) := by
    have := bJ_self J
    simp only [Nat.not_lt_zero, if_false]; exact this.symm
  simp only [si_q h, Nat.reduceLT]
  rw [zI]
  conv => arg 6; rw [zJ]
  refine p_b7 h ?_ 30 0 FU (by omega) (fu_pos (by omega))
  simp only [fr_23 h, fm_15 h, fm_19 h, hi_q h, hj_q h, si_q h, sj_q h, vv_5 h, vs_5 h, vv_7 h, vs_7 h, vv_8 h, vs_8 h, vv_9 h, vs_9 h, vv_11 h, vs_11 h, vv_17 h, vs_17 h, vv_18 h, vs_18 h, vj_3 h, vj_4 h, vj_5 h, ex_some, ex_def, all_def, true_and, and_true, Nat.reduceLT, nI_clamp (show j < 2 ^ 31 by omega), vin hj (show 200 < 2 ^ 31 by decide), bI_o I _ _ (show 15 ≠ 42 by decide), bI_o I _ _ (show 19 ≠ 42 by decide)]
  have hf0 : ∀ p, p < 30 → (fun p => if p < 30 then (0 : Int64) else J 1 40 p) p = 0 := fun p hp => by simp [hp]
  generalize (fun p => if p < 30 then (0 : Int64) else J 1 40 p) = f0 at hf0
  have r0 : ∀ w : Int32, bFault (I 1 15 j) (I 1 16 j) (I 1 17 j) n (fun i => I 1 18 (30 * j + i)) = w → (w = 0 → I 1 15 j = 0) → Q w (hq A B S (bI I 0 (I 1 42)) (bJ J f0 (J 1 43)) R) := fun w ew hw => by
    have := hk 0 (I 1 42) f0 (J 1 43) ?_ (fun p hp => ?_)
    · rw [ew] at this; exact this
    · unfold bRes
      rw [ew]
      by_cases z : w = 0
      · simp [z, hw z, show ¬ ((0 : Int32) = 1) by decide, show ¬ ((0 : Int32) = 2) by decide, show ¬ ((0 : Int32) = 3) by decide, show ¬ ((0 : Int32) = 4) by decide, show ¬ ((0 : Int32) = 5) by decide]
      · simp [z]
    · rw [hf0 p hp]
      unfold bPart
      rw [ew]
      by_cases z : w = 0
      · simp [z, hw z, show ¬ ((0 : Int32) = 1) by decide, show ¬ ((0 : Int32) = 2) by decide, show ¬ ((0 : Int32) = 3) by decide, show ¬ ((0 : Int32) = 4) by decide, show ¬ ((0 : Int32) = 5) by decide]
      · simp [z]
  refine ⟨fun z => r0 0 (by unfold bFault; rw [if_pos z]) (fun _ => z), fun z => ⟨fun z1 => ?_, fun z1 => ?_⟩⟩
  · have n0 : n = 0 := by
      by_cases q : n = 0
      · exact q
      · rw [if_neg q] at e19; rw [e19] at z1; exact absurd z1 (nI_nm1 (by omega))
    exact r0 13 (by unfold bFault; rw [if_neg z, if_pos n0]) (fun q => absurd q (by decide))
  · have n0 : ¬ n = 0 := fun q => by rw [if_pos q] at e19; exact z1 e19
    rw [if_neg n0] at e19
    have hm : mB I j n (I 1 16 j) (I 1 17 j) (fun i => I 1 18 (30 * j + i)) := ⟨hj, hn, by omega, e19, rfl, rfl, fun i => rfl⟩
    have nz : ∀ w : Int32, (w ≠ 0 → bRes (I 1 15 j) (I 1 16 j) (I 1 17 j) n (fun i => I 1 18 (30 * j + i)) = 0) → True := fun _ _ => trivial
    refine ⟨fun q => ?_, fun q1 => ⟨fun q => ?_, fun q2 => ⟨fun q => ?_, fun q3 => ⟨fun q => ?_, fun q4 => ?_⟩⟩⟩⟩
    · rw [q] at hk
      refine p_cuts h hm hf0 (fun v' f' g' u' a1 a2 a3 => hk v' g' f' u' ?_ a3)
      by_cases w : bFault 1 (I 1 16 j) (I 1 17 j) n (fun i => I 1 18 (30 * j + i)) = 0
      · exact a1 w
      · rw [a2 w]; unfold bRes; rw [if_pos w]
    · rw [q] at hk
      refine p_mixes h hm hf0 (fun v' f' g' a1 a2 a3 => hk v' g' f' _ ?_ a3)
      by_cases w : bFault 2 (I 1 16 j) (I 1 17 j) n (fun i => I 1 18 (30 * j + i)) = 0
      · exact a1 w
      · rw [a2 w]; unfold bRes; rw [if_pos w]
    · rw [q] at hk
      refine p_loads h hm hf0 (fun v' f' g' a1 a2 a3 => hk v' g' f' _ ?_ a3)
      by_cases w : bFault 3 (I 1 16 j) (I 1 17 j) n (fun i => I 1 18 (30 * j + i)) = 0
      · exact a1 w
      · rw [a2 w]; unfold bRes; rw [if_pos w]
    · rw [q] at hk
      refine p_checks h hm hf0 (fun v' f' g' a1 a2 a3 => hk v' g' f' _ ?_ a3)
      by_cases w : bFault 4 (I 1 16 j) (I 1 17 j) n (fun i => I 1 18 (30 * j + i)) = 0
      · exact a1 w
      · rw [a2 w]; unfold bRes; rw [if_pos w]
    · have q : I 1 15 j = 5 := by
        rcases hkd with w | w | w | w | w | w
        · exact absurd w z
        · exact absurd w q1
        · exact absurd w q2
        · exact absurd w q3
        · exact absurd w q4
        · exact w
      rw [q] at hk
      refine p_counts h hm hf0 (fun v' f' g' a1 a2 a3 => hk v' g' f' _ ?_ a3)
      by_cases w : bFault 5 (I 1 16 j) (I 1 17 j) n (fun i => I 1 18 (30 * j + i)) = 0
      · exact a1 w
      · rw [a2 w]; unfold bRes; rw [if_pos w]
end ME
