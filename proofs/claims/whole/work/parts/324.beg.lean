def cN (A : Nat → Nat → Nat) (E : FI) (nc nj : Nat) (cw : Nat → Nat) (s : Rs) (I : FI) (J : FJ) (R : FR) : Prop := cTr E nj s I ∧ cLf E nj s J ∧ cAw A nj s R ∧ cFr nc nj cw s I ∧ cBs E nj s J ∧ cCt nj s I ∧ cEv nj s I J ∧ cMi s I
section BG
variable {E : FI} {nj nw : Nat} {cw jc : Nat → Nat} {s : Rs} {j w : Nat}
theorem bg_s (E : FI) (s : Rs) (j w : Nat) : oS (beg E s j w) j = 6 := u1_s _ _ _
theorem bg_o {i : Nat} (h : ¬ i = j) : oS (beg E s j w) i = oS s i := u1_o h
theorem bg_b (E : FI) (s : Rs) (j w : Nat) : oB (beg E s j w) j = oM s := u1_s _ _ _
theorem bg_bo {i : Nat} (h : ¬ i = j) : oB (beg E s j w) i = oB s i := u1_o h
theorem bg_w (E : FI) (s : Rs) (j w : Nat) : oW (beg E s j w) j = w := u1_s _ _ _
theorem bg_wo {i : Nat} (h : ¬ i = j) : oW (beg E s j w) i = oW s i := u1_o h
theorem fre_bg (hj : j < nj) (h0 : oS s j = 0) (w' : Nat) : fre nj (beg E s j w) w' = (fre nj s w' && !decide (w' = w)) := by
  rw [Bool.eq_iff_iff, Bool.and_eq_true, fre_t, fre_t]
  simp only [Bool.not_eq_true', decide_eq_false_iff_not]
  constructor
  · intro h
    refine ⟨fun k hk h6 => ?_, fun e => ?_⟩
    · have e : ¬ k = j := fun z => by rw [z, h0] at h6; omega
      have := h k hk (by rw [bg_o e]; exact h6)
      rwa [bg_wo e] at this
    · exact h j hj (bg_s _ _ _ _) (by rw [bg_w]; exact e.symm)
  · rintro ⟨h1, h2⟩ k hk h6
    by_cases e : k = j
    · rw [e, bg_w]; exact fun z => h2 z.symm
    · rw [bg_o e] at h6; rw [bg_wo e]; exact h1 k hk h6
theorem lfw_in {c : Nat} (h : lfw nj cw s c w) : fwk cw c ≤ w ∧ w < fwk cw c + cw c ∧ fre nj s w = true := by
  obtain ⟨i, a, b, c', d⟩ := h
  exact ⟨by omega, by omega, c'⟩
theorem cfr_bg (hj : j < nj) (h0 : oS s j = 0) (hl : lfw nj cw s (jc j) w) {c : Nat} : cntN (cw c) (fun i => fre nj s (fwk cw c + i)) = cntN (cw c) (fun i => fre nj (beg E s j w) (fwk cw c + i)) + (if c = jc j then 1 else 0) := by
  obtain ⟨w1, w2, w3⟩ := lfw_in hl
  by_cases e : c = jc j
  · rw [if_pos e]
    subst e
    refine cntN_up (j := w - fwk cw (jc j)) (by omega) (fun i hi z => ?_) ?_ ?_
    · show fre nj s (fwk cw (jc j) + i) = fre nj (beg E s j w) (fwk cw (jc j) + i)
      rw [fre_bg hj h0, show decide (fwk cw (jc j) + i = w) = false from decide_eq_false (by omega)]; simp
    · show fre nj (beg E s j w) (fwk cw (jc j) + (w - fwk cw (jc j))) = false
      rw [fre_bg hj h0, show decide (fwk cw (jc j) + (w - fwk cw (jc j)) = w) = true from decide_eq_true (by omega)]; simp
    · show fre nj s (fwk cw (jc j) + (w - fwk cw (jc j))) = true
      rw [show fwk cw (jc j) + (w - fwk cw (jc j)) = w by omega]; exact w3
  · rw [if_neg e, Nat.add_zero]
    refine cntN_cg (fun i hi => ?_)
    rw [fre_bg hj h0]
    have : ¬ fwk cw c + i = w := fun z => by
      rcases Nat.lt_or_ge c (jc j) with q | q
      · have := fwk_ge (cw := cw) (jc j) q; omega
      · have := fwk_ge (cw := cw) (c := jc j) c (by omega); omega
    rw [decide_eq_false this]; simp
theorem bsy_bg (hj : j < nj) (h0 : oS s j = 0) (m : Nat) : bsy E nj (beg E s j w) m ↔ bsy E nj s m ∨ (m < 40 ∧ E 1 12 (40 * j + m) = 1) := by
  constructor
  · rintro ⟨k, hk, h6, hm, he⟩
    by_cases e : k = j
    · rw [e] at he; exact Or.inr ⟨hm, he⟩
    · rw [bg_o e] at h6; exact Or.inl ⟨k, hk, h6, hm, he⟩
  · rintro (⟨k, hk, h6, hm, he⟩ | ⟨hm, he⟩)
    · have e : ¬ k = j := fun z => by rw [z, h0] at h6; omega
      exact ⟨k, hk, by rw [bg_o e]; exact h6, hm, he⟩
    · exact ⟨j, hj, bg_s _ _ _ _, hm, he⟩
theorem ev_bg (hj : j < nj) (h0 : oS s j = 0) (z : Nat) : EVs nj (beg E s j w) z ↔ z = ekey (oM s) 5 j ∨ EVs nj s z := by
  constructor
  · rintro ⟨k, hk, h⟩
    by_cases e : k = j
    · subst e
      rw [bg_s, bg_b] at h
      rcases h with ⟨a, b⟩ | ⟨a, b⟩
      · exact Or.inl b
      · exact absurd rfl a.2
    · rw [bg_o e, bg_bo e] at h
      exact Or.inr ⟨k, hk, h⟩
  · rintro (h | ⟨k, hk, h⟩)
    · refine ⟨j, hj, Or.inl ?_⟩
      rw [bg_s, bg_b]; exact ⟨rfl, h⟩
    · refine ⟨k, hk, ?_⟩
      by_cases e : k = j
      · subst e
        rw [h0] at h
        rcases h with ⟨a, b⟩ | ⟨a, -⟩
        · exact absurd a (by decide)
        · exact absurd rfl a.1
      · rw [bg_o e, bg_bo e]; exact h
theorem dlt_bo {i y : Nat} (h : ¬ i = j) : dlt E (beg E s j w) y i = dlt E s y i := by
  unfold dlt rst faI; rw [bg_o h, bg_bo h]; rfl
theorem lft_bg (hj : j < nj) (h0 : oS s j = 0) (y : Nat) : lft E nj (beg E s j w) y = lft E nj s y - (E 1 13 (60 * j + y)).toInt64 := by
  unfold lft
  rw [sumJ_up (f := dlt E s y) (g := dlt E (beg E s j w) y) hj (fun i hi z => dlt_bo z)]
  have d1 : dlt E s y j = 0 := by unfold dlt; rw [h0]; simp
  have d2 : dlt E (beg E s j w) y j = - (E 1 13 (60 * j + y)).toInt64 := by unfold dlt; rw [bg_s]; simp
  rw [d1, d2]; grind
theorem wf_bg (hw : wf E nj nw cw jc s) (hj : j < nj) (hc : can E nj cw jc s j) (hl : lfw nj cw s (jc j) w) (hnw : w < nw) : wf E nj nw cw jc (beg E s j w) := by
  obtain ⟨w1, w2, w3, w4, w5, w6, w7⟩ := hw
  obtain ⟨l1, l2, l3⟩ := lfw_in hl
  have h0 := hc.1.1
  have ne : ∀ k, k < nj → oS s k = 6 → ¬ k = j := fun k _ h6 z => by rw [z, h0] at h6; omega
  refine ⟨fun i hi => ?_, fun i hi h => ?_, fun i k hi hk a b c => ?_, fun i k m hi hk hm a b c d => ?_, fun i hi h => ?_, fun i hi a b => ?_, w7⟩
  · by_cases e : i = j
    · rw [e, bg_s]; omega
    · rw [bg_o e]; exact w1 i hi
  · by_cases e : i = j
    · rw [e, bg_w]; exact ⟨l1, l2, hnw⟩
    · rw [bg_o e] at h; rw [bg_wo e]; exact w2 i hi h
  · by_cases e : i = j
    · by_cases e2 : k = j
      · rw [e, e2]
      · rw [e, bg_w, bg_wo e2] at c
        rw [bg_o e2] at b
        exact absurd c.symm (fre_t.mp l3 k hk b)
    · by_cases e2 : k = j
      · rw [e2, bg_w, bg_wo e] at c
        rw [bg_o e] at a
        exact absurd c (fre_t.mp l3 i hi a)
      · rw [bg_o e] at a; rw [bg_o e2] at b; rw [bg_wo e, bg_wo e2] at c; exact w3 i k hi hk a b c
  · by_cases e : i = j
    · by_cases e2 : k = j
      · rw [e, e2]
      · rw [bg_o e2] at b; rw [e] at c
        exact absurd ⟨k, hk, b, hm, d⟩ (hc.2.2.1 m hm c)
    · by_cases e2 : k = j
      · rw [bg_o e] at a; rw [e2] at d
        exact absurd ⟨i, hi, a, hm, c⟩ (hc.2.2.1 m hm d)
      · rw [bg_o e] at a; rw [bg_o e2] at b; exact w4 i k m hi hk hm a b c d
  · by_cases e : i = j
    · rw [e, bg_b]; exact Nat.le_refl _
    · rw [bg_o e] at h; rw [bg_bo e]; exact w5 i hi h
  · by_cases e : i = j
    · rw [e, bg_s] at b; exact absurd rfl b
    · rw [bg_o e] at a b; exact w6 i hi a b
theorem wg_bg (hw : wg E nj s) (h0 : oS s j = 0) : wg E nj (beg E s j w) := by
  obtain ⟨w1, w2, w3⟩ := hw
  refine ⟨fun i hi h => ?_, fun i hi h => ?_, w3⟩
  · by_cases e : i = j
    · rw [e, bg_b]; exact ⟨Nat.le_refl _, Nat.le_add_right _ _⟩
    · rw [bg_o e] at h; rw [bg_bo e]; exact w1 i hi h
  · by_cases e : i = j
    · rw [e, bg_s] at h; exact absurd h (by decide)
    · rw [bg_o e] at h; rw [bg_bo e]; exact w2 i hi h
theorem nng_bg (hs : sB E nj) (hw : wg E nj s) (hn : nng E nj s) (hj : j < nj) (hc : can E nj cw jc s j) : nng E nj (beg E s j w) := fun x hx => by
  have h1 := hn x hx
  have h2 := (lft_Z hs hw hx).2
  have h3 := hc.2.2.2 x hx
  rw [Int64.le_iff_toInt_le, Int32.toInt_toInt64] at h3
  have h4 := (hs.1 j x hj hx).1
  rw [lft_bg hj hc.1.1, j_sub, Int32.toInt_toInt64] <;> (try rw [Int32.toInt_toInt64]) <;> omega
theorem sh_bit {x : Int64} {m : Nat} (hm : m < 64) : (x >>> ((nI m).toInt64 &&& 63)) &&& 1 = 0 ↔ jb x m = false := by
  have e1 : ∀ m, m < 64 → (((nI m).toInt64 &&& 63).toBitVec.smod 64).toNat = m := by decide +kernel
  have e2 : jb (x >>> ((nI m).toInt64 &&& 63)) 0 = jb x m := by
    unfold jb
    rw [Int64.toBitVec_shiftRight, BitVec.sshiftRight', e1 m hm, BitVec.getLsbD_sshiftRight]
    simp [hm]
  rw [jb_eq0]
  constructor
  · intro h
    have := h 0 (by decide)
    rw [jb_and, e2] at this
    have o : jb 1 0 = true := by decide
    rw [o, Bool.and_true] at this
    exact this
  · intro h i hi
    rw [jb_and]
    by_cases z : i = 0
    · rw [z, e2, h]; rfl
    · have o : ∀ i, i < 64 → i ≠ 0 → jb 1 i = false := by decide +kernel
      rw [o i hi z]; simp
end BG
