section RT
variable {E : FI} {nc nw nj : Nat} {cw jc od : Nat → Nat} {s : Rs} {j x : Nat}
theorem ekey_in {m k j m' k' j' : Nat} (h1 : k < 8) (h2 : j < 256) (h3 : k' < 8) (h4 : j' < 256) (e : ekey m k j = ekey m' k' j') : m = m' ∧ k = k' ∧ j = j' := by
  unfold ekey at e; omega
theorem mv_s (s : Rs) (j x : Nat) : oS (mv s j x) j = x := u1_s _ _ _
theorem mv_o {i : Nat} (h : ¬ i = j) : oS (mv s j x) i = oS s i := u1_o h
theorem mv_e (s : Rs) (j x : Nat) : oE (mv s j x) j = oM s := u1_s _ _ _
theorem mv_eo {i : Nat} (h : ¬ i = j) : oE (mv s j x) i = oE s i := u1_o h
theorem fwk_ge {c : Nat} (n : Nat) (h : c < n) : fwk cw c + cw c ≤ fwk cw n := fwk_mono cw (a := c + 1) (b := n) h
theorem fre_mv (hw : wf E nj nw cw jc s) (hj : j < nj) (h6 : oS s j = 6) (hx : x ≠ 6) (w : Nat) : fre nj (mv s j x) w = (fre nj s w || decide (w = oW s j)) := by
  rw [Bool.eq_iff_iff, Bool.or_eq_true, fre_t, fre_t, decide_eq_true_eq]
  constructor
  · intro h
    by_cases e : w = oW s j
    · exact Or.inr e
    · refine Or.inl (fun k hk h6k z => ?_)
      by_cases e2 : k = j
      · rw [e2] at z; exact e z.symm
      · exact h k hk (by rw [mv_o e2]; exact h6k) z
  · intro h k hk h6k z
    by_cases e2 : k = j
    · rw [e2, mv_s] at h6k; exact hx h6k
    · rw [mv_o e2] at h6k
      rcases h with h | h
      · exact h k hk h6k z
      · exact e2 (hw.2.2.1 k j hk hj h6k h6 (z.trans h))
theorem cfr_mv (hw : wf E nj nw cw jc s) (hj : j < nj) (h6 : oS s j = 6) (hx : x ≠ 6) {c : Nat} : cntN (cw c) (fun i => fre nj (mv s j x) (fwk cw c + i)) = cntN (cw c) (fun i => fre nj s (fwk cw c + i)) + (if c = jc j then 1 else 0) := by
  obtain ⟨w1, w2, w3⟩ := hw.2.1 j hj h6
  by_cases e : c = jc j
  · rw [if_pos e]
    subst e
    refine cntN_up (j := oW s j - fwk cw (jc j)) (by omega) (fun i hi z => ?_) ?_ ?_
    · show fre nj (mv s j x) (fwk cw (jc j) + i) = _
      rw [fre_mv hw hj h6 hx, show decide (fwk cw (jc j) + i = oW s j) = false from decide_eq_false (by omega), Bool.or_false]
    · show fre nj s (fwk cw (jc j) + (oW s j - fwk cw (jc j))) = false
      rw [show fwk cw (jc j) + (oW s j - fwk cw (jc j)) = oW s j by omega]
      cases z : fre nj s (oW s j) with
      | false => rfl
      | true => exact absurd rfl (fre_t.mp z j hj h6)
    · show fre nj (mv s j x) (fwk cw (jc j) + (oW s j - fwk cw (jc j))) = true
      rw [fre_mv hw hj h6 hx, show decide (fwk cw (jc j) + (oW s j - fwk cw (jc j)) = oW s j) = true from decide_eq_true (by omega), Bool.or_true]
  · rw [if_neg e, Nat.add_zero]
    refine cntN_cg (fun i hi => ?_)
    rw [fre_mv hw hj h6 hx]
    have : ¬ fwk cw c + i = oW s j := fun z => by
      rcases Nat.lt_or_ge c (jc j) with q | q
      · have := fwk_ge (cw := cw) (jc j) q; omega
      · have := fwk_ge (cw := cw) (c := jc j) c (by omega); omega
    rw [decide_eq_false this, Bool.or_false]
theorem bsy_mv (hw : wf E nj nw cw jc s) (hj : j < nj) (h6 : oS s j = 6) (hx : x ≠ 6) (m : Nat) : bsy E nj (mv s j x) m ↔ bsy E nj s m ∧ ¬ (m < 40 ∧ E 1 12 (40 * j + m) = 1) := by
  constructor
  · rintro ⟨k, hk, h6k, hm, he⟩
    by_cases e : k = j
    · rw [e, mv_s] at h6k; exact absurd h6k hx
    · rw [mv_o e] at h6k
      exact ⟨⟨k, hk, h6k, hm, he⟩, fun z => e (hw.2.2.2.1 k j m hk hj hm h6k h6 he z.2)⟩
  · rintro ⟨⟨k, hk, h6k, hm, he⟩, z⟩
    refine ⟨k, hk, ?_, hm, he⟩
    rw [mv_o (fun q => z ⟨hm, by rw [← q]; exact he⟩)]; exact h6k
theorem ev_mv (hj : j < nj) (h0 : oS s j = 0 ∨ oS s j = 6) (hb : bgn x = bgn (oS s j)) (hx : x ≠ 0 ∧ x ≠ 6) (z : Nat) : EVs nj (mv s j x) z ↔ z = ekey (oM s) (evk x) j ∨ EVs nj s z := by
  constructor
  · rintro ⟨k, hk, h⟩
    by_cases e : k = j
    · subst e
      rw [mv_s, mv_e] at h
      rcases h with ⟨a, b⟩ | ⟨a, b⟩
      · exact Or.inr ⟨k, hk, Or.inl ⟨by rw [← hb]; exact a, b⟩⟩
      · exact Or.inl b
    · rw [mv_o e, mv_eo e] at h
      exact Or.inr ⟨k, hk, h⟩
  · rintro (h | ⟨k, hk, h⟩)
    · refine ⟨j, hj, Or.inr ?_⟩
      rw [mv_s, mv_e]; exact ⟨hx, h⟩
    · refine ⟨k, hk, ?_⟩
      by_cases e : k = j
      · subst e
        rw [mv_s]
        rcases h with ⟨a, b⟩ | ⟨a, -⟩
        · exact Or.inl ⟨by rw [hb]; exact a, b⟩
        · omega
      · rw [mv_o e, mv_eo e]; exact h
theorem evk_lt {x : Nat} (h : x ≤ 6) : evk x < 8 := by unfold evk; split <;> omega
theorem ev_new (hn : nj ≤ 200) (hw : ∀ j, j < nj → oS s j ≤ 6) (hj : j < nj) (h0 : oS s j = 0 ∨ oS s j = 6) {m k : Nat} (hk : k < 8) (h5 : oS s j = 6 → k ≠ 5) : ¬ EVs nj s (ekey m k j) := by
  rintro ⟨i, hi, ⟨a, b⟩ | ⟨a, b⟩⟩
  · obtain ⟨-, e2, e3⟩ := ekey_in hk (by omega) (by decide) (by omega) b
    subst e3
    rcases h0 with h0 | h0
    · rw [h0] at a; exact absurd a (by decide)
    · exact h5 h0 e2
  · obtain ⟨-, -, e3⟩ := ekey_in hk (by omega) (evk_lt (hw i hi)) (by omega) b
    subst e3
    omega
theorem evs_mv (hj : j < nj) {b : Nat} (h : evn x = evn (oS s j) + b) : sumN nj (fun i => evn (oS (mv s j x) i)) = sumN nj (fun i => evn (oS s i)) + b := by
  have := sumN_up (f := fun i => evn (oS s i)) (g := fun i => evn (oS (mv s j x) i)) (j := j) (n := nj) hj (fun i hi z => by show evn (oS (mv s j x) i) = _; rw [mv_o z])
  simp only [mv_s] at this
  omega
theorem evs_lt (hn : nj ≤ 200) (hj : j < nj) (h : evn (oS s j) < 2) : sumN nj (fun i => evn (oS s i)) < 400 := by
  have h1 := sumN_up (f := fun i => evn (oS s i)) (g := fun i => if i = j then 2 else evn (oS s i)) (j := j) (n := nj) hj (fun i hi z => by simp [z])
  have h2 := sumN_le (f := fun i => if i = j then 2 else evn (oS s i)) (b := 2) (n := nj) (fun i hi => by
    by_cases e : i = j
    · simp [e]
    · simp only [e, if_false]; exact evn_le _)
  simp only [if_true] at h1
  omega
theorem cnt_mv (hj : j < nj) (p : Nat → Bool) : cntN nj (fun i => p (oS (mv s j x) i)) + (if p (oS s j) = true then 1 else 0) = cntN nj (fun i => p (oS s i)) + (if p x = true then 1 else 0) := by
  by_cases a : p (oS s j) = true
  · by_cases b : p x = true
    · rw [if_pos a, if_pos b, cntN_cg (q := fun i => p (oS s i))]
      intro i hi
      by_cases e : i = j
      · rw [e, mv_s, a, b]
      · rw [mv_o e]
    · rw [if_pos a, if_neg b, cntN_up (p := fun i => p (oS (mv s j x) i)) (q := fun i => p (oS s i)) hj]
      · intro i hi z; show p (oS s i) = p (oS (mv s j x) i); rw [mv_o z]
      · show p (oS (mv s j x) j) = false; rw [mv_s]; simpa using b
      · exact a
  · by_cases b : p x = true
    · rw [if_neg a, if_pos b, cntN_up (p := fun i => p (oS s i)) (q := fun i => p (oS (mv s j x) i)) hj]
      · intro i hi z; show p (oS (mv s j x) i) = p (oS s i); rw [mv_o z]
      · simpa using a
      · show p (oS (mv s j x) j) = true; rw [mv_s]; exact b
    · rw [if_neg a, if_neg b, cntN_cg (q := fun i => p (oS s i))]
      intro i hi
      by_cases e : i = j
      · rw [e, mv_s]; simp at a b; rw [a, b]
      · rw [mv_o e]
theorem wts_mv1 (hj : j < nj) (h1 : oS s j ≠ 1) {k : Nat} (he : E 1 10 (200 * k + j) = 1) : wts E nj s k = wts E nj (mv s j 1) k + 1 := by
  unfold wts
  refine cntN_up hj (fun i hi z => ?_) ?_ ?_
  · show (E 1 10 (200 * k + i) == 1 && !(oS s i == 1)) = (E 1 10 (200 * k + i) == 1 && !(oS (mv s j 1) i == 1))
    rw [mv_o z]
  · show (E 1 10 (200 * k + j) == 1 && !(oS (mv s j 1) j == 1)) = false
    rw [mv_s]; simp
  · show (E 1 10 (200 * k + j) == 1 && !(oS s j == 1)) = true
    simp [he, h1]
theorem wts_mv {k : Nat} (h : x ≠ 1 ∧ oS s j ≠ 1 ∨ ¬ E 1 10 (200 * k + j) = 1) : wts E nj (mv s j x) k = wts E nj s k := by
  unfold wts
  refine cntN_cg (fun i hi => ?_)
  by_cases e : i = j
  · rcases h with ⟨a, b⟩ | h
    · show (E 1 10 (200 * k + i) == 1 && !(oS (mv s j x) i == 1)) = (E 1 10 (200 * k + i) == 1 && !(oS s i == 1))
      rw [e, mv_s, beq_eq_false_iff_ne.mpr a, beq_eq_false_iff_ne.mpr b]
    · show (E 1 10 (200 * k + i) == 1 && !(oS (mv s j x) i == 1)) = (E 1 10 (200 * k + i) == 1 && !(oS s i == 1))
      rw [e, beq_eq_false_iff_ne.mpr h]; rfl
  · rw [mv_o e]
theorem dlt_mv {i y : Nat} (h : ¬ i = j) : dlt E (mv s j x) y i = dlt E s y i := by
  unfold dlt rst faI; rw [mv_o h, mv_eo h]; rfl
theorem lft_mv (hj : j < nj) (y : Nat) : lft E nj (mv s j x) y = lft E nj s y + (dlt E (mv s j x) y j - dlt E s y j) := by
  unfold lft
  rw [sumJ_up (f := dlt E s y) (g := dlt E (mv s j x) y) hj (fun i hi z => dlt_mv z)]; grind
theorem wf_mv (hw : wf E nj nw cw jc s) (hx : x ≤ 5) (hb : bgn x = true → bgn (oS s j) = true) : wf E nj nw cw jc (mv s j x) := by
  obtain ⟨w1, w2, w3, w4, w5, w6, w7⟩ := hw
  have h6 : ∀ i, oS (mv s j x) i = 6 → oS s i = 6 := fun i h => by
    by_cases e : i = j
    · rw [e, mv_s] at h; omega
    · rw [mv_o e] at h; exact h
  refine ⟨fun i hi => ?_, fun i hi h => w2 i hi (h6 i h), fun i k hi hk a b => w3 i k hi hk (h6 i a) (h6 k b), fun i k m hi hk hm a b => w4 i k m hi hk hm (h6 i a) (h6 k b), fun i hi h => ?_, fun i hi a b => ?_, w7⟩
  · by_cases e : i = j
    · rw [e, mv_s]; omega
    · rw [mv_o e]; exact w1 i hi
  · by_cases e : i = j
    · subst e
      rw [mv_s] at h
      exact w5 i hi (hb h)
    · rw [mv_o e] at h; exact w5 i hi h
  · by_cases e : i = j
    · rw [e, mv_e]; exact Nat.le_refl _
    · rw [mv_o e] at a b; rw [mv_eo e]; exact w6 i hi a b
end RT
