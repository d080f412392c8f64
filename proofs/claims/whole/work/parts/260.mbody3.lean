section MD
variable {A : Nat → Nat → Nat} {B : Nat → Nat × Nat} {S : Hp} {nc nw nm nj : Nat} {cw jc : Nat → Nat} {I : FI} {J : FJ} {R : FR} {xs : Nat → Int32} {L : Nat} {l4 : Int32}
variable {j n : Nat} {a b v : Int32} {x g : Nat → Int32} {f u : Nat → Int64} {Q : Int32 → Hp → Prop}
theorem i_div {k m : Nat} (hk : k < 2 ^ 31) (hm : m < 2 ^ 31) : nI k / nI m = nI (k / m) := by
  apply Int32.toInt_inj.mp
  have hd : k / m < 2 ^ 31 := Nat.lt_of_le_of_lt (Nat.div_le_self k m) hk
  rw [Int32.toInt_div, nI_toInt hk, nI_toInt hm, nI_toInt hd, Int.tdiv_eq_ediv_of_nonneg (by omega)]
  rw [← Int.natCast_ediv]
  generalize k / m = q at hd ⊢
  apply Int.bmod_eq_of_le <;> omega
theorem i_rem {k m : Nat} (hk : k < m) (hm : m < 2 ^ 31) : nI k - nI k / nI m * nI m = nI k := by
  rw [i_div (by omega) hm, Nat.div_eq_of_lt hk, nI_mul, Nat.zero_mul, nI_0, Int32.sub_zero]
theorem p_l64 {K : Hp → Prop} {o : Nat} (h : Sh A B S nj nc) (hm : mB I j n a b x) (ho : o < n) (hk : K (hq A B S (bI I v g) (bJ J (fun p => if p < o then f p + 1 else f p) u) R)) : ∀ (r t m : Nat), t + r = o → r < m → wp_X12_loads_L64 (A 0 23) (nI j) K Q m (hq A B S (bI I v g) (bJ J (fun p => if p < t then f p + 1 else f p) u) R) (lN (o - t)) (nI t) := by
  obtain ⟨hj, hn, h0, e19, e16, e17, ex⟩ := id hm
  intro r
  induction r with
  | zero =>
    intro t m e hr
    obtain ⟨m, rfl⟩ : ∃ q, m = q + 1 := ⟨m - 1, by omega⟩
    obtain rfl : t = o := by omega
    rw [wp_X12_loads_L64]
    refine ⟨fun _ => hk, fun z => absurd ?_ z⟩
    rw [Nat.sub_self]; decide
  | succ r ih =>
    intro t m e hr
    obtain ⟨m, rfl⟩ : ∃ q, m = q + 1 := ⟨m - 1, by omega⟩
    have e1 : (fun p => if p = t then f t + 1 else if p < t then f p + 1 else f p) = (fun p => if p < t + 1 then f p + 1 else f p) := by
      funext p
      by_cases q : p = t
      · subst q; simp
      · have : p < t + 1 ↔ p < t := by omega
        simp only [q, if_false, this]
    rw [wp_X12_loads_L64]
    refine ⟨fun z => absurd ((lN_le (b := 0) (by omega) (by decide)).mp z) (by omega), fun _ => ?_⟩
    simp only [fr_23 h, fm_40 h, fm_19 h, hi_q h, hj_q h, si_q h, sj_q h, vv_5 h, vs_5 h, vv_7 h, vs_7 h, vv_8 h, vs_8 h, vv_9 h, vs_9 h, vv_11 h, vs_11 h, vv_17 h, vs_17 h, vv_18 h, vs_18 h, vj_3 h, vj_4 h, vj_5 h, ex_some, ex_def, all_def, true_and, and_true, Nat.reduceLT, nI_clamp (show t < 2 ^ 31 by omega), nI_clamp (show j < 2 ^ 31 by omega), vin hj (show 200 < 2 ^ 31 by decide), vin (show t < 30 by omega) (show 30 < 2 ^ 31 by decide), bI_o I v g (show 19 ≠ 42 by decide), bJ_40, bJ_f, e19, Nat.lt_irrefl, if_false, e1]
    rw [show nI t + 1 = nI (t + 1) from (nI_succ t).symm, i_rem (by omega) (by omega), show (1 : Int64) = lN 1 from rfl, lN_sub (show 1 ≤ o - t by omega), show o - t - 1 = o - (t + 1) by omega]
    exact ⟨nI_ne0 h0 (by omega), ih (t + 1) m (by omega) (by omega)⟩
theorem p_loads (h : Sh A B S nj nc) (hm : mB I j n a b x) (hf0 : ∀ p, p < 30 → f p = 0) (hk : ∀ v' f' g', (bFault 3 a b n x = 0 → v' = bRes 3 a b n x) → (bFault 3 a b n x ≠ 0 → v' = 0) → (∀ p, p < 30 → f' p = bPart 3 a b n x p) → Q (bFault 3 a b n x) (hq A B S (bI I v' g') (bJ J f' u) R)) : wp_X12_loads (hq A B S (bI I 0 g) (bJ J f u) R) (A 0 23) (nI j) Q := by
  obtain ⟨hj, hn, h0, e19, e16, e17, ex⟩ := id hm
  have bf : bFault 3 a b n x = if bBelow a n x = true then 21 else if bSum n x = 0 then 11 else if b < 0 ∨ nI n ≤ b then 12 else 0 := by
    unfold bFault
    simp [show ¬ ((3 : Int32) = 0) by decide, show ¬ ((3 : Int32) = 1) by decide, show ¬ n = 0 by omega]
  have bad : ∀ w : Int32, w ≠ 0 → bFault 3 a b n x = w → Q w (hq A B S (bI I 0 g) (bJ J f u) R) := fun w hw e => by
    have := hk 0 f g (fun z => absurd (e.symm.trans z) hw) (fun _ => rfl) (fun p hp => by
      unfold bPart; rw [if_pos (Or.inl (by rw [e]; exact hw))]; exact hf0 p hp)
    rw [e] at this; exact this
  unfold wp_X12_loads
  refine ⟨fr_23 h _ _ _, p_mbel h hm ?_ n 0 FU (by omega) (fu_pos (by omega)) (fun i hi => absurd hi (Nat.not_lt_zero i))⟩
  cases hb : bBelow a n x with
  | true =>
    rw [if_pos rfl]
    refine ⟨fun z => absurd z (by decide), fun _ => bad 21 (by decide) (by rw [bf, hb]; rfl)⟩
  | false =>
    rw [if_neg (by decide)]
    refine ⟨fun _ => ⟨fr_23 h _ _ _, p_msum h hm ?_ n 0 FU (by omega) (fu_pos (by omega))⟩, fun z => absurd rfl z⟩
    refine ⟨fun hs => bad 11 (by decide) (by rw [bf, hb]; simp [hs]), fun hs => ?_⟩
    simp only [fr_23 h, fm_17 h, fm_19 h, hi_q h, hj_q h, si_q h, sj_q h, vv_5 h, vs_5 h, vv_7 h, vs_7 h, vv_8 h, vs_8 h, vv_9 h, vs_9 h, vv_11 h, vs_11 h, vv_17 h, vs_17 h, vv_18 h, vs_18 h, vj_3 h, vj_4 h, vj_5 h, ex_some, ex_def, all_def, true_and, and_true, Nat.reduceLT, nI_clamp (show j < 2 ^ 31 by omega), vin hj (show 200 < 2 ^ 31 by decide), bI_o I _ g (show 17 ≠ 42 by decide), bI_o I _ g (show 19 ≠ 42 by decide), e17, e19]
    refine ⟨fun z => bad 12 (by decide) (by rw [bf, hb]; simp [hs, z]), fun zb => ⟨fun zn => ?_, fun z => bad 12 (by decide) (by rw [bf, hb]; simp [hs, i_nlt.mp z])⟩⟩
    have bf0 : bFault 3 a b n x = 0 := by
      rw [bf, hb]
      simp only [Bool.false_eq_true, if_false, hs]
      rw [if_neg]
      rintro (q | q)
      · exact zb q
      · exact i_nle.mpr zn q
    obtain ⟨bv, hbv, rfl⟩ : ∃ bv, bv < n ∧ b = nI bv := by
      rcases i32c b with q | ⟨q, q1, q2⟩
      · exact absurd q zb
      · exact ⟨q, by rw [q2] at zn; exact (nI_lti q1 (by omega)).mp zn, q2⟩
    obtain ⟨o, ho, eo, eo2⟩ := ovr_lt hn h0 hb hs
    unfold wp_X12_shares
    simp only [fr_23 h, fm_16 h, hi_q h, hj_q h, si_q h, sj_q h, vv_5 h, vs_5 h, vv_7 h, vs_7 h, vv_8 h, vs_8 h, vv_9 h, vs_9 h, vv_11 h, vs_11 h, vv_17 h, vs_17 h, vv_18 h, vs_18 h, vj_3 h, vj_4 h, vj_5 h, ex_some, ex_def, all_def, true_and, and_true, Nat.reduceLT, nI_clamp (show j < 2 ^ 31 by omega), vin hj (show 200 < 2 ^ 31 by decide), bI_o I _ g (show 16 ≠ 42 by decide), e16]
    have z0 : f = (fun p => if p < 0 then qt a n x p else f p) := by funext p; simp
    have w := p_mshr (Q := fun r20 S19 => wp_X12_loads_L64 (A 0 23) (nI j) (fun (S33 : Hp) => hK S33 (A 0 23) = 14 ∧ ∃ b35 : Nat, (hR S33 (A 0 23) 17) = some b35 ∧ hK S33 b35 = 15 ∧ vp_in (nI j) (hN S33 b35) ∧ ∃ b38 : Nat, (hR S33 (A 0 23) 40) = some b38 ∧ hK S33 b38 = 16 ∧ vp_in (hI S33 b35 (nI j).toNatClampNeg) (hN S33 b38) ∧ Q 0 (sI S33 (A 0 23) 41 ((hJ S33 b38 (hI S33 b35 (nI j).toNatClampNeg).toNatClampNeg).toInt32))) Q FU S19 r20 0) (v := 0) (g := g) (f := f) (u := u) (J := J) (R := R) h hm hs ?_ n 0 FU (by omega) (fu_pos (by omega))
    · rw [← z0] at w
      simp only [nI_clamp (show j < 2 ^ 31 by omega)] at w
      exact w
    · rw [eo]
      have z1 : (fun p => if p < n then qt a n x p else f p) = (fun p => if p < 0 then (if p < n then qt a n x p else f p) + 1 else (if p < n then qt a n x p else f p)) := by funext p; simp
      have w := p_l64 (K := fun (S33 : Hp) => hK S33 (A 0 23) = 14 ∧ ∃ b35 : Nat, (hR S33 (A 0 23) 17) = some b35 ∧ hK S33 b35 = 15 ∧ vp_in (nI j) (hN S33 b35) ∧ ∃ b38 : Nat, (hR S33 (A 0 23) 40) = some b38 ∧ hK S33 b38 = 16 ∧ vp_in (hI S33 b35 (nI j).toNatClampNeg) (hN S33 b38) ∧ Q 0 (sI S33 (A 0 23) 41 ((hJ S33 b38 (hI S33 b35 (nI j).toNatClampNeg).toNatClampNeg).toInt32))) (Q := Q) (v := 0) (g := g) (f := fun p => if p < n then qt a n x p else f p) (u := u) (J := J) (R := R) h hm ho ?_ o 0 FU (by omega) (fu_pos (by omega))
      · rw [← z1] at w; exact w
      · simp only [fr_23 h, fm_17 h, fm_40 h, hi_q h, hj_q h, si_q h, sj_q h, vv_5 h, vs_5 h, vv_7 h, vs_7 h, vv_8 h, vs_8 h, vv_9 h, vs_9 h, vv_11 h, vs_11 h, vv_17 h, vs_17 h, vv_18 h, vs_18 h, vj_3 h, vj_4 h, vj_5 h, ex_some, ex_def, all_def, true_and, and_true, Nat.reduceLT, nI_clamp (show j < 2 ^ 31 by omega), nI_clamp (show bv < 2 ^ 31 by omega), vin hj (show 200 < 2 ^ 31 by decide), vin (show bv < 30 by omega) (show 30 < 2 ^ 31 by decide), bI_o I _ g (show 17 ≠ 42 by decide), e17, bJ_40, bI_v]
        have := hk (if bv < o then (if bv < n then qt a n x bv else f bv) + 1 else if bv < n then qt a n x bv else f bv).toInt32 (fun p => if p < o then (if p < n then qt a n x p else f p) + 1 else if p < n then qt a n x p else f p) g (fun _ => ?_) (fun z => absurd bf0 z) (fun p hp => ?_)
        · rw [bf0] at this; exact this
        · unfold bRes
          simp only [bf0, ne_eq, not_true_eq_false, if_false, show ¬ ((3 : Int32) = 1) by decide, show ¬ ((3 : Int32) = 2) by decide, if_true, eo2, nI_clamp (show bv < 2 ^ 31 by omega), ldP, hbv]
        · unfold bPart
          simp only [bf0, ne_eq, not_true_eq_false, false_or, show ¬ ((3 : Int32) = 1) by decide, show ¬ ((3 : Int32) = 2) by decide, if_true, if_false, eo2]
          by_cases q : n ≤ p
          · have q1 : ¬ p < o := by omega
            have q2 : ¬ p < n := by omega
            simp only [q, q1, q2, if_true, if_false]; exact hf0 p hp
          · have q2 : p < n := by omega
            simp only [q, q2, if_true, if_false, ldP]
theorem p_mchk (h : Sh A B S nj nc) (hm : mB I j n a b x) (h1 : anyB n (bGapBad a n x) = true → Q 22 (hq A B S (bI I v g) (bJ J f u) R)) (h0 : anyB n (bGapBad a n x) = false → Q 0 (hq A B S (bI I ((nI n + 1) / 2) g) (bJ J f u) R)) :
    ∀ (m i : Nat), i % 2 = 0 → i ≤ n + 1 → n + 1 < i + m → (∀ k, k < i → k < n → bGapBad a n x k = false) → wp_X12_checks_L9 (A 0 23) (nI j) (nI n) Q m (hq A B S (bI I v g) (bJ J f u) R) (nI i) := by
  obtain ⟨hj, hn, hn0, e19, e16, e17, ex⟩ := id hm
  intro m
  induction m with
  | zero => intro i he hi hf hz; omega
  | succ m ih =>
    intro i he hi hf hz
    rw [wp_X12_checks_L9]
    simp only [fr_23 h, fm_16 h, hi_q h, hj_q h, si_q h, sj_q h, vv_5 h, vs_5 h, vv_7 h, vs_7 h, vv_8 h, vs_8 h, vv_9 h, vs_9 h, vv_11 h, vs_11 h, vv_17 h, vs_17 h, vv_18 h, vs_18 h, vj_3 h, vj_4 h, vj_5 h, ex_some, ex_def, all_def, true_and, and_true, Nat.reduceLT, bI_v]
    refine ⟨fun q => h0 (anyB_no.mpr (fun k hk => hz k ?_ hk)), fun q => ?_⟩
    · have := (nI_leI (by omega) (by omega)).mp q; omega
    · have hin : i < n := Nat.lt_of_not_le (fun z => q (nI_le z (by omega)))
      have key : ∀ z17 : Int64, z17 = bGap n x i → (z17 < 0 → Q 22 (hq A B S (bI I v g) (bJ J f u) R)) ∧ (¬ z17 < 0 → hK (hq A B S (bI I v g) (bJ J f u) R) (A 0 23) = 14 ∧ ∃ b20 : Nat, hR (hq A B S (bI I v g) (bJ J f u) R) (A 0 23) 16 = some b20 ∧ hK (hq A B S (bI I v g) (bJ J f u) R) b20 = 15 ∧ vp_in (nI j) (hN (hq A B S (bI I v g) (bJ J f u) R) b20) ∧ (z17 ≤ (hI (hq A B S (bI I v g) (bJ J f u) R) b20 (nI j).toNatClampNeg).toInt64 → wp_X12_checks_L9 (A 0 23) (nI j) (nI n) Q m (hq A B S (bI I v g) (bJ J f u) R) (nI i + 2)) ∧ (¬ z17 ≤ (hI (hq A B S (bI I v g) (bJ J f u) R) b20 (nI j).toNatClampNeg).toInt64 → Q 22 (hq A B S (bI I v g) (bJ J f u) R))) := by
        intro z17 ez
        simp only [fr_23 h, fm_16 h, hi_q h, hj_q h, si_q h, sj_q h, vv_5 h, vs_5 h, vv_7 h, vs_7 h, vv_8 h, vs_8 h, vv_9 h, vs_9 h, vv_11 h, vs_11 h, vv_17 h, vs_17 h, vv_18 h, vs_18 h, vj_3 h, vj_4 h, vj_5 h, ex_some, ex_def, all_def, true_and, and_true, Nat.reduceLT, nI_clamp (show j < 2 ^ 31 by omega), vin hj (show 200 < 2 ^ 31 by decide), bI_o I v g (show 16 ≠ 42 by decide), e16]
        refine ⟨fun w => h1 (anyB_of hin ?_), fun w => ⟨fun w2 => ?_, fun w2 => h1 (anyB_of hin ?_)⟩⟩
        · unfold bGapBad; rw [← ez]; simp [he, w]
        · rw [show nI i + 2 = nI (i + 2) from nI_add i 2]
          refine ih (i + 2) (by omega) (by omega) (by omega) (fun k hk1 hk2 => ?_)
          by_cases q2 : k < i
          · exact hz k q2 hk2
          · by_cases q3 : k = i
            · subst q3
              unfold bGapBad; rw [← ez]; simp [w, j_nlt.mpr w2]
            · unfold bGapBad; simp [show ¬ k % 2 = 0 by omega]
        · unfold bGapBad; rw [← ez]; simp [he, j_nle.mp w2]
      refine ⟨fun w => ?_, fun w => ?_⟩
      · have w2 : n ≤ i + 1 := by
          rw [show nI i + 1 = nI (i + 1) from (nI_succ i).symm] at w
          exact (nI_leI (by omega) (by omega)).mp w
        have := key 0 (by unfold bGap; rw [if_neg (by omega)])
        simpa only [fr_23 h, fm_16 h, hi_q h, hj_q h, si_q h, sj_q h, vv_5 h, vs_5 h, vv_7 h, vs_7 h, vv_8 h, vs_8 h, vv_9 h, vs_9 h, vv_11 h, vs_11 h, vv_17 h, vs_17 h, vv_18 h, vs_18 h, vj_3 h, vj_4 h, vj_5 h, ex_some, ex_def, all_def, true_and, and_true, Nat.reduceLT] using this
      · have w2 : i + 1 < n := by
          rw [show nI i + 1 = nI (i + 1) from (nI_succ i).symm] at w
          exact Nat.lt_of_not_le (fun z => w (nI_le z (by omega)))
        rw [show nI i + 1 = nI (i + 1) from (nI_succ i).symm]
        refine p_num h hm (show i + 1 < 30 by omega) ⟨fr_23 h _ _ _, p_num h hm (show i < 30 by omega) ?_⟩
        have := key ((x (i + 1)).toInt64 - (x i).toInt64) (by unfold bGap; rw [if_pos w2])
        simpa only [fr_23 h, fm_16 h, hi_q h, hj_q h, si_q h, sj_q h, vv_5 h, vs_5 h, vv_7 h, vs_7 h, vv_8 h, vs_8 h, vv_9 h, vs_9 h, vv_11 h, vs_11 h, vv_17 h, vs_17 h, vv_18 h, vs_18 h, vj_3 h, vj_4 h, vj_5 h, ex_some, ex_def, all_def, true_and, and_true, Nat.reduceLT] using this
theorem p_checks (h : Sh A B S nj nc) (hm : mB I j n a b x) (hf0 : ∀ p, p < 30 → f p = 0) (hk : ∀ v' f' g', (bFault 4 a b n x = 0 → v' = bRes 4 a b n x) → (bFault 4 a b n x ≠ 0 → v' = 0) → (∀ p, p < 30 → f' p = bPart 4 a b n x p) → Q (bFault 4 a b n x) (hq A B S (bI I v' g') (bJ J f' u) R)) : wp_X12_checks (hq A B S (bI I 0 g) (bJ J f u) R) (A 0 23) (nI j) Q := by
  obtain ⟨hj, hn, h0, e19, e16, e17, ex⟩ := id hm
  have bf : bFault 4 a b n x = if bPairBad a n x = true then 22 else 0 := by
    unfold bFault
    simp [show ¬ ((4 : Int32) = 0) by decide, show ¬ ((4 : Int32) = 1) by decide, show ¬ ((4 : Int32) = 2) by decide, show ¬ ((4 : Int32) = 3) by decide, show ¬ n = 0 by omega]
  have bp : ∀ p, bPart 4 a b n x p = 0 := fun p => by
    unfold bPart
    simp [show ¬ ((4 : Int32) = 0) by decide, show ¬ ((4 : Int32) = 1) by decide, show ¬ ((4 : Int32) = 2) by decide, show ¬ ((4 : Int32) = 3) by decide, show ¬ ((4 : Int32) = 5) by decide]
  unfold wp_X12_checks
  simp only [fr_23 h, fm_19 h, hi_q h, hj_q h, si_q h, sj_q h, vv_5 h, vs_5 h, vv_7 h, vs_7 h, vv_8 h, vs_8 h, vv_9 h, vs_9 h, vv_11 h, vs_11 h, vv_17 h, vs_17 h, vv_18 h, vs_18 h, vj_3 h, vj_4 h, vj_5 h, ex_some, ex_def, all_def, true_and, and_true, Nat.reduceLT, nI_clamp (show j < 2 ^ 31 by omega), vin hj (show 200 < 2 ^ 31 by decide), bI_o I _ g (show 19 ≠ 42 by decide), e19]
  refine p_mchk h hm (fun q => ?_) (fun q => ?_) FU 0 (by omega) (by omega) (by have := fu_pos (r := 100) (by decide); omega) (fun k hk _ => absurd hk (Nat.not_lt_zero k))
  · have b1 : bFault 4 a b n x = 22 := by rw [bf]; unfold bPairBad; rw [q]; rfl
    have := hk 0 f g (fun z => absurd (b1.symm.trans z) (by decide)) (fun _ => rfl) (fun p hp => by rw [bp]; exact hf0 p hp)
    rw [b1] at this; exact this
  · have b1 : bFault 4 a b n x = 0 := by rw [bf]; unfold bPairBad; rw [q]; rfl
    have := hk ((nI n + 1) / 2) f g (fun _ => ?_) (fun z => absurd b1 z) (fun p hp => by rw [bp]; exact hf0 p hp)
    · rw [b1] at this; exact this
    · unfold bRes
      simp [b1, show ¬ ((4 : Int32) = 1) by decide, show ¬ ((4 : Int32) = 2) by decide, show ¬ ((4 : Int32) = 3) by decide]
theorem p_mcnt (h : Sh A B S nj nc) (hm : mB I j n a b x) (hk : Q 0 (hq A B S (bI I (sumJ n (cP a x)).toInt32 g) (bJ J (fun p => if p < n then cP a x p else f p) u) R)) : ∀ (r k m : Nat), k + r = n → r < m → wp_X12_counts_L16 (A 0 23) (nI j) Q m (hq A B S (bI I v g) (bJ J (fun p => if p < k then cP a x p else f p) u) R) (sumJ k (cP a x)) (nI k) := by
  obtain ⟨hj, hn, h0, e19, e16, e17, ex⟩ := id hm
  intro r
  induction r with
  | zero =>
    intro k m e hr
    obtain ⟨m, rfl⟩ : ∃ q, m = q + 1 := ⟨m - 1, by omega⟩
    obtain rfl : k = n := by omega
    rw [wp_X12_counts_L16]
    simp only [fr_23 h, fm_19 h, hi_q h, hj_q h, si_q h, sj_q h, vv_5 h, vs_5 h, vv_7 h, vs_7 h, vv_8 h, vs_8 h, vv_9 h, vs_9 h, vv_11 h, vs_11 h, vv_17 h, vs_17 h, vv_18 h, vs_18 h, vj_3 h, vj_4 h, vj_5 h, ex_some, ex_def, all_def, true_and, and_true, Nat.reduceLT, nI_clamp (show j < 2 ^ 31 by omega), vin hj (show 200 < 2 ^ 31 by decide), bI_o I v g (show 19 ≠ 42 by decide), e19, bI_v]
    exact ⟨fun _ => hk, fun z => absurd (nI_le (Nat.le_refl _) (by omega)) z⟩
  | succ r ih =>
    intro k m e hr
    obtain ⟨m, rfl⟩ : ∃ q, m = q + 1 := ⟨m - 1, by omega⟩
    have e1 : (fun p => if p = k then cP a x k else if p < k then cP a x p else f p) = (fun p => if p < k + 1 then cP a x p else f p) := by
      funext p
      by_cases q : p = k
      · subst q; simp
      · have : p < k + 1 ↔ p < k := by omega
        simp only [q, if_false, this]
    rw [wp_X12_counts_L16]
    simp only [fr_23 h, fm_19 h, hi_q h, hj_q h, si_q h, sj_q h, vv_5 h, vs_5 h, vv_7 h, vs_7 h, vv_8 h, vs_8 h, vv_9 h, vs_9 h, vv_11 h, vs_11 h, vv_17 h, vs_17 h, vv_18 h, vs_18 h, vj_3 h, vj_4 h, vj_5 h, ex_some, ex_def, all_def, true_and, and_true, Nat.reduceLT, nI_clamp (show j < 2 ^ 31 by omega), vin hj (show 200 < 2 ^ 31 by decide), bI_o I v g (show 19 ≠ 42 by decide), e19]
    refine ⟨fun z => absurd z (nI_ge (by omega) (by omega)), fun _ => p_num h hm (by omega) ?_⟩
    simp only [fr_23 h, fm_16 h, fm_40 h, hi_q h, hj_q h, si_q h, sj_q h, vv_5 h, vs_5 h, vv_7 h, vs_7 h, vv_8 h, vs_8 h, vv_9 h, vs_9 h, vv_11 h, vs_11 h, vv_17 h, vs_17 h, vv_18 h, vs_18 h, vj_3 h, vj_4 h, vj_5 h, ex_some, ex_def, all_def, true_and, and_true, Nat.reduceLT, nI_clamp (show j < 2 ^ 31 by omega), vin hj (show 200 < 2 ^ 31 by decide), nI_clamp (show k < 2 ^ 31 by omega), vin (show k < 30 by omega) (show 30 < 2 ^ 31 by decide), bI_o I v g (show 16 ≠ 42 by decide), e16, bJ_f, bJ_40]
    rw [show nI k + 1 = nI (k + 1) from (nI_succ k).symm]
    rw [show ((x k).toInt64 * (100 + a.toInt64) + 99) / 100 = cP a x k from rfl, e1]
    have := ih (k + 1) m (by omega) (by omega)
    simp only [if_true]
    exact this
theorem p_counts (h : Sh A B S nj nc) (hm : mB I j n a b x) (hf0 : ∀ p, p < 30 → f p = 0) (hk : ∀ v' f' g', (bFault 5 a b n x = 0 → v' = bRes 5 a b n x) → (bFault 5 a b n x ≠ 0 → v' = 0) → (∀ p, p < 30 → f' p = bPart 5 a b n x p) → Q (bFault 5 a b n x) (hq A B S (bI I v' g') (bJ J f' u) R)) : wp_X12_counts (hq A B S (bI I 0 g) (bJ J f u) R) (A 0 23) (nI j) Q := by
  obtain ⟨hj, hn, h0, e19, e16, e17, ex⟩ := id hm
  have bf : bFault 5 a b n x = if bBelow a n x = true then 21 else 0 := by
    unfold bFault
    simp [show ¬ ((5 : Int32) = 0) by decide, show ¬ ((5 : Int32) = 1) by decide, show ¬ ((5 : Int32) = 2) by decide, show ¬ ((5 : Int32) = 3) by decide, show ¬ ((5 : Int32) = 4) by decide, show ¬ n = 0 by omega]
  unfold wp_X12_counts
  refine ⟨fr_23 h _ _ _, p_mbel h hm ?_ n 0 FU (by omega) (fu_pos (by omega)) (fun i hi => absurd hi (Nat.not_lt_zero i))⟩
  cases hb : bBelow a n x with
  | true =>
    have b1 : bFault 5 a b n x = 21 := by rw [bf, hb]; rfl
    rw [if_pos rfl]
    refine ⟨fun z => absurd z (by decide), fun _ => ?_⟩
    have := hk 0 f g (fun z => absurd (b1.symm.trans z) (by decide)) (fun _ => rfl) (fun p hp => by
      unfold bPart; rw [if_pos (Or.inl (by rw [b1]; decide))]; exact hf0 p hp)
    rw [b1] at this; exact this
  | false =>
    have b1 : bFault 5 a b n x = 0 := by rw [bf, hb]; rfl
    rw [if_neg (by decide)]
    refine ⟨fun _ => ?_, fun z => absurd rfl z⟩
    have z0 : f = (fun p => if p < 0 then cP a x p else f p) := by funext p; simp
    have w := p_mcnt (Q := Q) (v := 0) (g := g) (f := f) (u := u) (J := J) (R := R) h hm ?_ n 0 FU (by omega) (fu_pos (by omega))
    · rw [← z0] at w; exact w
    · have := hk (sumJ n (cP a x)).toInt32 (fun p => if p < n then cP a x p else f p) g (fun _ => ?_) (fun z => absurd b1 z) (fun p hp => ?_)
      · rw [b1] at this; exact this
      · unfold bRes
        simp [b1, show ¬ ((5 : Int32) = 1) by decide, show ¬ ((5 : Int32) = 2) by decide, show ¬ ((5 : Int32) = 3) by decide, show ¬ ((5 : Int32) = 4) by decide]
      · unfold bPart
        simp only [b1, ne_eq, not_true_eq_false, false_or, show ¬ ((5 : Int32) = 1) by decide, show ¬ ((5 : Int32) = 2) by decide, show ¬ ((5 : Int32) = 3) by decide, if_true, if_false]
        by_cases q : n ≤ p
        · have q2 : ¬ p < n := by omega
          simp only [q, q2, if_true, if_false]; exact hf0 p hp
        · have q2 : p < n := by omega
          simp only [q, q2, if_true, if_false]
end MD
