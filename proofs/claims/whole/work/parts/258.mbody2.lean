section MC
variable {A : Nat → Nat → Nat} {B : Nat → Nat × Nat} {S : Hp} {nc nw nm nj : Nat} {cw jc : Nat → Nat} {I : FI} {J : FJ} {R : FR} {xs : Nat → Int32} {L : Nat} {l4 : Int32}
variable {j n : Nat} {a b v : Int32} {x g : Nat → Int32} {f u : Nat → Int64} {Q : Int32 → Hp → Prop}
theorem p_m37 {K : Hp → Prop} {s o : Int64} (h : Sh A B S nj nc) (hk : K (hq A B S (bI I v (fun p => if p < 30 then 0 else g p)) (bJ J f u) R)) : ∀ (r k m : Nat), k + r = 30 → r < m → wp_X12_mixes_L37 (A 0 23) (nI j) s o K Q m (hq A B S (bI I v (fun p => if p < k then 0 else g p)) (bJ J f u) R) (nI k) := by
  intro r
  induction r with
  | zero =>
    intro k m e hr
    obtain ⟨m, rfl⟩ : ∃ q, m = q + 1 := ⟨m - 1, by omega⟩
    obtain rfl : k = 30 := by omega
    rw [wp_X12_mixes_L37]
    exact ⟨fun _ => hk, fun z => absurd (nI_le (a := 30) (b := 30) (Nat.le_refl _) (by decide)) z⟩
  | succ r ih =>
    intro k m e hr
    obtain ⟨m, rfl⟩ : ∃ q, m = q + 1 := ⟨m - 1, by omega⟩
    have e1 : (fun p => if p = k then (0 : Int32) else if p < k then 0 else g p) = (fun p => if p < k + 1 then 0 else g p) := by
      funext p
      by_cases q : p = k
      · subst q; simp
      · have : p < k + 1 ↔ p < k := by omega
        simp only [q, if_false, this]
    rw [wp_X12_mixes_L37]
    simp only [fr_23 h, fm_42 h, hi_q h, hj_q h, si_q h, sj_q h, vv_5 h, vs_5 h, vv_7 h, vs_7 h, vv_8 h, vs_8 h, vv_9 h, vs_9 h, vv_11 h, vs_11 h, vv_17 h, vs_17 h, vv_18 h, vs_18 h, vj_3 h, vj_4 h, vj_5 h, ex_some, ex_def, all_def, true_and, and_true, Nat.reduceLT, nI_clamp (show k < 2 ^ 31 by omega), vin (show k < 30 by omega) (show 30 < 2 ^ 31 by decide), bI_g, e1]
    rw [show nI k + 1 = nI (k + 1) from (nI_succ k).symm]
    exact ⟨fun z => absurd z (nI_ge (b := 30) (by omega) (by decide)), fun _ => ih (k + 1) m (by omega) (by omega)⟩
theorem enc_ne {o : Option Nat} {m : Nat} (h : o = some m) (hm : m < 2 ^ 31) : ¬ enc o = -1 := by
  rw [h]; exact nI_nm1 hm
theorem p_m71 {K : Hp → Int32 → Prop} {o : Int64} (h : Sh A B S nj nc) (hm : mB I j n a b x) (hs : ¬ bSum n x = 0) (hg : ∀ i, i < n → g i = 0 ∨ g i = 1) (hk : K (hq A B S (bI I v g) (bJ J f u) R) (enc (bst (fun i => decide (g i = 0)) (rm a n x) n))) : ∀ (r k m : Nat), k + r = n → r < m → wp_X12_mixes_L71 (A 0 23) (nI j) (bSum n x) o K Q m (hq A B S (bI I v g) (bJ J f u) R) (enc (bst (fun i => decide (g i = 0)) (rm a n x) k)) (nI k) := by
  obtain ⟨hj, hn, h0, e19, e16, e17, ex⟩ := id hm
  intro r
  induction r with
  | zero =>
    intro k m e hr
    obtain ⟨m, rfl⟩ : ∃ q, m = q + 1 := ⟨m - 1, by omega⟩
    obtain rfl : k = n := by omega
    rw [wp_X12_mixes_L71]
    simp only [fr_23 h, fm_19 h, hi_q h, hj_q h, si_q h, sj_q h, vv_5 h, vs_5 h, vv_7 h, vs_7 h, vv_8 h, vs_8 h, vv_9 h, vs_9 h, vv_11 h, vs_11 h, vv_17 h, vs_17 h, vv_18 h, vs_18 h, vj_3 h, vj_4 h, vj_5 h, ex_some, ex_def, all_def, true_and, and_true, Nat.reduceLT, nI_clamp (show j < 2 ^ 31 by omega), vin hj (show 200 < 2 ^ 31 by decide), bI_o I v g (show 19 ≠ 42 by decide), e19]
    exact ⟨fun _ => hk, fun z => absurd (nI_le (Nat.le_refl _) (by omega)) z⟩
  | succ r ih =>
    intro k m e hr
    obtain ⟨m, rfl⟩ : ∃ q, m = q + 1 := ⟨m - 1, by omega⟩
    have w := ih (k + 1) m (by omega) (by omega)
    rw [bst] at w
    rw [wp_X12_mixes_L71]
    simp only [fr_23 h, fm_19 h, fm_16 h, fm_42 h, hi_q h, hj_q h, si_q h, sj_q h, vv_5 h, vs_5 h, vv_7 h, vs_7 h, vv_8 h, vs_8 h, vv_9 h, vs_9 h, vv_11 h, vs_11 h, vv_17 h, vs_17 h, vv_18 h, vs_18 h, vj_3 h, vj_4 h, vj_5 h, ex_some, ex_def, all_def, true_and, and_true, Nat.reduceLT, nI_clamp (show j < 2 ^ 31 by omega), nI_clamp (show k < 2 ^ 31 by omega), vin hj (show 200 < 2 ^ 31 by decide), vin (show k < 30 by omega) (show 30 < 2 ^ 31 by decide), bI_o I v g (show 19 ≠ 42 by decide), bI_o I v g (show 16 ≠ 42 by decide), bI_42, e19, e16]
    rw [show nI k + 1 = nI (k + 1) from (nI_succ k).symm]
    refine ⟨fun z => absurd z (nI_ge (by omega) (by omega)), fun _ => ⟨fun z => ?_, fun z => ?_⟩⟩
    · simp only [z, decide_true, true_and, if_true] at w
      cases hb : bst (fun i => decide (g i = 0)) (rm a n x) k with
      | none =>
        rw [hb] at w
        exact ⟨fun _ => w, fun q => absurd rfl q⟩
      | some c =>
        have hc := (bst_ok hb).1
        rw [hb] at w
        refine ⟨fun q => absurd q (nI_nm1 (by omega)), fun _ => p_num h hm (by omega) ⟨hs, ?_⟩⟩
        simp only [fr_23 h, fm_16 h, hi_q h, hj_q h, si_q h, sj_q h, vv_5 h, vs_5 h, vv_7 h, vs_7 h, vv_8 h, vs_8 h, vv_9 h, vs_9 h, vv_11 h, vs_11 h, vv_17 h, vs_17 h, vv_18 h, vs_18 h, vj_3 h, vj_4 h, vj_5 h, ex_some, ex_def, all_def, true_and, and_true, Nat.reduceLT, nI_clamp (show j < 2 ^ 31 by omega), vin hj (show 200 < 2 ^ 31 by decide), bI_o I v g (show 16 ≠ 42 by decide), e16]
        refine p_num h hm (show c < 30 by omega) ⟨hs, fun q => ?_, fun q => ?_⟩
        · have q2 : ¬ rm a n x c < rm a n x k := j_nlt.mpr q
          simp only [q2, if_false] at w
          exact w
        · have q2 : rm a n x c < rm a n x k := j_nle.mp q
          simp only [q2, if_true] at w
          exact w
    · simp only [z, decide_false, Bool.false_eq_true, false_and, if_false] at w
      cases hb : bst (fun i => decide (g i = 0)) (rm a n x) k with
      | none => rw [hb] at w; exact w
      | some c => rw [hb] at w; exact w
theorem p_m179 (h : Sh A B S nj nc) (hm : mB I j n a b x) (hk : Q 0 (hq A B S (bI I (cntI n (fun i => decide (0 < f i))) g) (bJ J f u) R)) : ∀ (r k m : Nat), k + r = n → r < m → wp_X12_mixes_L179 (A 0 23) (nI j) Q m (hq A B S (bI I (cntI k (fun i => decide (0 < f i))) g) (bJ J f u) R) (nI k) := by
  obtain ⟨hj, hn, h0, e19, e16, e17, ex⟩ := id hm
  intro r
  induction r with
  | zero =>
    intro k m e hr
    obtain ⟨m, rfl⟩ : ∃ q, m = q + 1 := ⟨m - 1, by omega⟩
    obtain rfl : k = n := by omega
    rw [wp_X12_mixes_L179]
    simp only [fr_23 h, fm_19 h, hi_q h, hj_q h, si_q h, sj_q h, vv_5 h, vs_5 h, vv_7 h, vs_7 h, vv_8 h, vs_8 h, vv_9 h, vs_9 h, vv_11 h, vs_11 h, vv_17 h, vs_17 h, vv_18 h, vs_18 h, vj_3 h, vj_4 h, vj_5 h, ex_some, ex_def, all_def, true_and, and_true, Nat.reduceLT, nI_clamp (show j < 2 ^ 31 by omega), vin hj (show 200 < 2 ^ 31 by decide), bI_o I _ g (show 19 ≠ 42 by decide), e19]
    exact ⟨fun _ => hk, fun z => absurd (nI_le (Nat.le_refl _) (by omega)) z⟩
  | succ r ih =>
    intro k m e hr
    obtain ⟨m, rfl⟩ : ∃ q, m = q + 1 := ⟨m - 1, by omega⟩
    have w := ih (k + 1) m (by omega) (by omega)
    rw [cntI] at w
    rw [wp_X12_mixes_L179]
    simp only [fr_23 h, fm_19 h, fm_40 h, hi_q h, hj_q h, si_q h, sj_q h, vv_5 h, vs_5 h, vv_7 h, vs_7 h, vv_8 h, vs_8 h, vv_9 h, vs_9 h, vv_11 h, vs_11 h, vv_17 h, vs_17 h, vv_18 h, vs_18 h, vj_3 h, vj_4 h, vj_5 h, ex_some, ex_def, all_def, true_and, and_true, Nat.reduceLT, nI_clamp (show j < 2 ^ 31 by omega), nI_clamp (show k < 2 ^ 31 by omega), vin hj (show 200 < 2 ^ 31 by decide), vin (show k < 30 by omega) (show 30 < 2 ^ 31 by decide), bI_o I _ g (show 19 ≠ 42 by decide), bI_41, bI_v, bJ_40, e19]
    rw [show nI k + 1 = nI (k + 1) from (nI_succ k).symm]
    refine ⟨fun z => absurd z (nI_ge (by omega) (by omega)), fun _ => ⟨fun z => ?_, fun z => ?_⟩⟩
    · rw [if_neg (by rw [decide_eq_false (j_nlt.mpr z)]; decide)] at w
      rw [Int32.add_zero]; exact w
    · rw [if_pos (decide_eq_true (j_nle.mp z))] at w
      exact w
def mxG2 (a : Int32) (n : Nat) (x : Nat → Int32) (t i : Nat) : Int32 := if gn (rm a n x) n t i = true then 1 else 0
theorem p_m58 {K : Hp → Prop} {o : Nat} (h : Sh A B S nj nc) (hm : mB I j n a b x) (hs : ¬ bSum n x = 0) (ho : o < n) (hk : ∀ f' g', (∀ p, p < n → f' p = mxP a n x o p) → (∀ p, n ≤ p → f' p = f p) → K (hq A B S (bI I v g') (bJ J f' u) R)) : ∀ (r t m : Nat) (f' : Nat → Int64) (g' : Nat → Int32), t + r = o → r < m → (∀ p, p < n → f' p = mxP a n x t p) → (∀ p, n ≤ p → f' p = f p) → (∀ p, p < n → g' p = mxG2 a n x t p) → wp_X12_mixes_L58 (A 0 23) (nI j) (bSum n x) K Q m (hq A B S (bI I v g') (bJ J f' u) R) (lN (o - t)) := by
  obtain ⟨hj, hn, h0, e19, e16, e17, ex⟩ := id hm
  intro r
  induction r with
  | zero =>
    intro t m f' g' e hr hf hf2 hg
    obtain ⟨m, rfl⟩ : ∃ q, m = q + 1 := ⟨m - 1, by omega⟩
    obtain rfl : t = o := by omega
    rw [wp_X12_mixes_L58]
    refine ⟨fun _ => hk f' g' hf hf2, fun z => absurd ?_ z⟩
    rw [Nat.sub_self]; decide
  | succ r ih =>
    intro t m f' g' e hr hf hf2 hg
    obtain ⟨m, rfl⟩ : ∃ q, m = q + 1 := ⟨m - 1, by omega⟩
    rw [wp_X12_mixes_L58]
    refine ⟨fun z => absurd ((lN_le (b := 0) (by omega) (by decide)).mp z) (by omega), fun _ => ?_⟩
    obtain ⟨c, hc, hcn, hcg⟩ := gn_best (v := rm a n x) (show t < n by omega)
    have eb : bst (fun i => decide (g' i = 0)) (rm a n x) n = some c := by
      rw [← hc]
      refine bst_congr (fun i hi => ⟨?_, rfl⟩)
      rw [hg i hi]
      unfold mxG2
      cases gn (rm a n x) n t i <;> decide
    have ew : enc (bst (fun i => decide (g' i = 0)) (rm a n x) n) = nI c := by rw [eb]; rfl
    refine p_m71 h hm hs (fun i hi => ?_) ?_ n 0 FU (by omega) (fu_pos (by omega))
    · rw [hg i hi]; unfold mxG2; cases gn (rm a n x) n t i <;> simp
    · rw [ew]
      simp only [fr_23 h, fm_42 h, fm_40 h, hi_q h, hj_q h, si_q h, sj_q h, vv_5 h, vs_5 h, vv_7 h, vs_7 h, vv_8 h, vs_8 h, vv_9 h, vs_9 h, vv_11 h, vs_11 h, vv_17 h, vs_17 h, vv_18 h, vs_18 h, vj_3 h, vj_4 h, vj_5 h, ex_some, ex_def, all_def, true_and, and_true, Nat.reduceLT, nI_clamp (show c < 2 ^ 31 by omega), vin (show c < 30 by omega) (show 30 < 2 ^ 31 by decide), bI_g, bJ_40, bJ_f]
      rw [show (1 : Int64) = lN 1 from rfl, lN_sub (show 1 ≤ o - t by omega), show o - t - 1 = o - (t + 1) by omega]
      refine ih (t + 1) m _ _ (by omega) (by omega) (fun p hp => ?_) (fun p hp => ?_) (fun p hp => ?_)
      · unfold mxP at hf ⊢
        rw [gn]
        by_cases q : p = c
        · subst q
          rw [hf p hp, hcg]
          simp [hc, lN]
        · have q2 : ¬ (some c = some p) := fun z => q (Option.some.inj z).symm
          simp [q, hc, q2, hf p hp, Ne.symm q]
      · have q : ¬ p = c := by omega
        simp only [q, if_false]; exact hf2 p hp
      · unfold mxG2 at hg ⊢
        rw [gn]
        by_cases q : p = c
        · subst q; simp [hc]
        · simp [q, hc, hg p hp, Ne.symm q]
theorem p_mixes (h : Sh A B S nj nc) (hm : mB I j n a b x) (hf0 : ∀ p, p < 30 → f p = 0) (hk : ∀ v' f' g', (bFault 2 a b n x = 0 → v' = bRes 2 a b n x) → (bFault 2 a b n x ≠ 0 → v' = 0) → (∀ p, p < 30 → f' p = bPart 2 a b n x p) → Q (bFault 2 a b n x) (hq A B S (bI I v' g') (bJ J f' u) R)) : wp_X12_mixes (hq A B S (bI I 0 g) (bJ J f u) R) (A 0 23) (nI j) Q := by
  obtain ⟨hj, hn, h0, e19, e16, e17, ex⟩ := id hm
  have bf : bFault 2 a b n x = if bBelow a n x = true then 21 else if bSum n x = 0 then 11 else 0 := by
    unfold bFault
    simp [show ¬ ((2 : Int32) = 0) by decide, show ¬ ((2 : Int32) = 1) by decide, show ¬ ((2 : Int32) = 3) by decide, show ¬ n = 0 by omega]
  have bad : ∀ w : Int32, w ≠ 0 → bFault 2 a b n x = w → Q w (hq A B S (bI I 0 g) (bJ J f u) R) := fun w hw e => by
    have := hk 0 f g (fun z => absurd (e.symm.trans z) hw) (fun _ => rfl) (fun p hp => by
      unfold bPart; rw [if_pos (Or.inl (by rw [e]; exact hw))]; exact hf0 p hp)
    rw [e] at this; exact this
  unfold wp_X12_mixes
  refine ⟨fr_23 h _ _ _, p_mbel h hm ?_ n 0 FU (by omega) (fu_pos (by omega)) (fun i hi => absurd hi (Nat.not_lt_zero i))⟩
  cases hb : bBelow a n x with
  | true =>
    rw [if_pos rfl]
    refine ⟨fun z => absurd z (by decide), fun _ => bad 21 (by decide) (by rw [bf, hb]; rfl)⟩
  | false =>
    rw [if_neg (by decide)]
    refine ⟨fun _ => ⟨fr_23 h _ _ _, p_msum h hm ?_ n 0 FU (by omega) (fu_pos (by omega))⟩, fun z => absurd rfl z⟩
    refine ⟨fun hs => bad 11 (by decide) (by rw [bf, hb]; simp [hs]), fun hs => ⟨fr_23 h _ _ _, ?_⟩⟩
    have bf0 : bFault 2 a b n x = 0 := by rw [bf, hb]; simp [hs]
    obtain ⟨o, ho, eo, eo2⟩ := ovr_lt hn h0 hb hs
    unfold wp_X12_shares
    simp only [fr_23 h, fm_16 h, hi_q h, hj_q h, si_q h, sj_q h, vv_5 h, vs_5 h, vv_7 h, vs_7 h, vv_8 h, vs_8 h, vv_9 h, vs_9 h, vv_11 h, vs_11 h, vv_17 h, vs_17 h, vv_18 h, vs_18 h, vj_3 h, vj_4 h, vj_5 h, ex_some, ex_def, all_def, true_and, and_true, Nat.reduceLT, nI_clamp (show j < 2 ^ 31 by omega), vin hj (show 200 < 2 ^ 31 by decide), bI_o I _ g (show 16 ≠ 42 by decide), e16]
    have z0 : f = (fun p => if p < 0 then qt a n x p else f p) := by funext p; simp
    have w := p_mshr (Q := fun r11 S10 => wp_X12_mixes_L37 (A 0 23) (nI j) (bSum n x) r11 (fun (S17 : Hp) => wp_X12_mixes_L58 (A 0 23) (nI j) (bSum n x) (fun (S54 : Hp) => wp_X12_mixes_L179 (A 0 23) (nI j) Q FU S54 0) Q FU S17 r11) Q FU S10 0) (v := 0) (g := g) (f := f) (u := u) (J := J) (R := R) h hm hs ?_ n 0 FU (by omega) (fu_pos (by omega))
    · rw [← z0] at w; exact w
    · have z1 : g = (fun p => if p < 0 then 0 else g p) := by funext p; simp
      rw [eo]
      have w := p_m37 (K := fun (S17 : Hp) => wp_X12_mixes_L58 (A 0 23) (nI j) (bSum n x) (fun (S54 : Hp) => wp_X12_mixes_L179 (A 0 23) (nI j) Q FU S54 0) Q FU S17 (lN o)) (Q := Q) (v := 0) (g := g) (f := fun p => if p < n then qt a n x p else f p) (u := u) (I := I) (J := J) (R := R) (j := j) (s := bSum n x) (o := lN o) h ?_ 30 0 FU (by omega) (fu_pos (by omega))
      · rw [← z1] at w; exact w
      · refine p_m58 (f := f) (v := 0) (u := u) h hm hs ho (fun f' g' hf hf2 => ?_) o 0 FU _ _ (by omega) (fu_pos (by omega)) (fun p hp => ?_) (fun p hp => ?_) (fun p hp => ?_)
        · refine p_m179 h hm ?_ n 0 FU (by omega) (fu_pos (by omega))
          have := hk (cntI n (fun i => decide (0 < f' i))) f' g' (fun _ => ?_) (fun z => absurd bf0 z) (fun p hp => ?_)
          · rw [bf0] at this; exact this
          · unfold bRes
            simp only [bf0, ne_eq, not_true_eq_false, if_false, show ¬ ((2 : Int32) = 1) by decide, if_true, eo2]
            exact cntI_congr (fun i hi => by rw [hf i hi])
          · unfold bPart
            simp only [bf0, ne_eq, not_true_eq_false, false_or, show ¬ ((2 : Int32) = 1) by decide, if_true, if_false, eo2]
            by_cases q : n ≤ p
            · rw [if_pos q, hf2 p q]; exact hf0 p hp
            · rw [if_neg q]; exact hf p (by omega)
        · unfold mxP; simp [hp, gn]
        · have : ¬ p < n := by omega
          simp [this]
        · unfold mxG2; simp [show p < 30 by omega, gn]
end MC
