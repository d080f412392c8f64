def sB (E : FI) (nj : Nat) : Prop := (∀ j x, j < nj → x < 60 → (0 ≤ (E 1 13 (60 * j + x)).toInt ∧ (E 1 13 (60 * j + x)).toInt ≤ 1000000) ∧ 0 ≤ (E 1 14 (60 * j + x)).toInt ∧ (E 1 14 (60 * j + x)).toInt ≤ 1000000) ∧ (∀ j, j < nj → 1 ≤ (E 1 8 j).toInt ∧ (E 1 8 j).toInt ≤ 10000 ∧ 1 ≤ dur E j ∧ (dur E j : Int) ≤ (E 1 8 j).toInt) ∧ (∀ x, x < 60 → 0 ≤ (E 1 6 x).toInt ∧ (E 1 6 x).toInt ≤ 1000000000) ∧ nj ≤ 200
/-- times are in order -/
def wg (E : FI) (nj : Nat) (s : Rs) : Prop := (∀ j, j < nj → oS s j = 6 → oB s j ≤ oM s ∧ oM s ≤ oB s j + dur E j) ∧ (∀ j, j < nj → edd (oS s j) = true → oB s j ≤ oE s j ∧ oE s j ≤ oB s j + dur E j ∧ oE s j ≤ oM s) ∧ oM s ≤ 1000000
def nng (E : FI) (nj : Nat) (s : Rs) : Prop := ∀ x, x < 60 → 0 ≤ (lft E nj s x).toInt
section BD
variable {E : FI} {nj nw : Nat} {cw jc : Nat → Nat} {s : Rs} {j x : Nat}
theorem j_sub {x a : Int64} (h1 : -9223372036854775808 ≤ x.toInt - a.toInt) (h2 : x.toInt - a.toInt < 9223372036854775808) : (x - a).toInt = x.toInt - a.toInt := by
  rw [Int64.toInt_sub]
  apply Int.bmod_eq_of_le <;> omega
theorem rst_b {U F M : Int32} (hU : 0 ≤ U.toInt ∧ U.toInt ≤ 1000000) (hF : 0 ≤ F.toInt) (hFM : F.toInt ≤ M.toInt) (hM : 1 ≤ M.toInt ∧ M.toInt ≤ 10000) : 0 ≤ (U.toInt64 - U.toInt64 * F.toInt64 / M.toInt64).toInt ∧ (U.toInt64 - U.toInt64 * F.toInt64 / M.toInt64).toInt ≤ U.toInt := by
  have p1 : 0 ≤ U.toInt * F.toInt := Int.mul_nonneg hU.1 hF
  have p2 : U.toInt * F.toInt ≤ U.toInt * M.toInt := Int.mul_le_mul_of_nonneg_left hFM hU.1
  have p3 : U.toInt * M.toInt ≤ 1000000 * 10000 := Int.mul_le_mul hU.2 hM.2 (by omega) (by omega)
  have e1 : (U.toInt64 * F.toInt64).toInt = U.toInt * F.toInt := by
    rw [Int64.toInt_mul, Int32.toInt_toInt64, Int32.toInt_toInt64]
    apply Int.bmod_eq_of_le <;> omega
  have d1 : 0 ≤ U.toInt * F.toInt / M.toInt := Int.ediv_nonneg p1 (by omega)
  have d2 : U.toInt * F.toInt / M.toInt ≤ U.toInt := by
    have := Int.ediv_le_ediv (c := M.toInt) (by omega) p2
    rwa [Int.mul_ediv_cancel _ (by omega)] at this
  have e2 : (U.toInt64 * F.toInt64 / M.toInt64).toInt = U.toInt * F.toInt / M.toInt := by
    rw [Int64.toInt_div, e1, Int32.toInt_toInt64, Int.tdiv_eq_ediv_of_nonneg p1]
    apply Int.bmod_eq_of_le <;> omega
  have e3 : (U.toInt64 - U.toInt64 * F.toInt64 / M.toInt64).toInt = U.toInt - U.toInt * F.toInt / M.toInt := by
    rw [j_sub, e2, Int32.toInt_toInt64] <;> rw [e2, Int32.toInt_toInt64] <;> omega
  omega
theorem fa_b {a b : Nat} (h : b ≤ a) (ha : a ≤ 1000000) : (nI a - nI b).toInt = (a : Int) - b := by
  have : nI a = nI (a - b) + nI b := by rw [nI_add]; congr 1; omega
  rw [this, show nI (a - b) + nI b - nI b = nI (a - b) by grind, nI_toInt (by omega)]; omega
def sumQ : Nat → (Nat → Int) → Int
  | 0, _ => 0
  | n + 1, f => sumQ n f + f n
theorem sumQ_mono {f g : Nat → Int} : ∀ {n : Nat}, (∀ i, i < n → f i ≤ g i) → sumQ n f ≤ sumQ n g := by
  intro n
  induction n with
  | zero => intro _; exact Int.le_refl _
  | succ n ih => intro h; rw [sumQ, sumQ]; have := ih (fun i hi => h i (by omega)); have := h n (by omega); omega
theorem sumJ_b {f : Nat → Int64} : ∀ {n : Nat}, n ≤ 200 → (∀ i, i < n → -1000000 ≤ (f i).toInt ∧ (f i).toInt ≤ 1000000) → (sumJ n f).toInt = sumQ n (fun i => (f i).toInt) ∧ -1000000 * (n : Int) ≤ sumQ n (fun i => (f i).toInt) ∧ sumQ n (fun i => (f i).toInt) ≤ 1000000 * (n : Int) := by
  intro n
  induction n with
  | zero => intro _ _; exact ⟨rfl, by simp [sumQ], by simp [sumQ]⟩
  | succ n ih =>
    intro hn h
    obtain ⟨a, b, c⟩ := ih (by omega) (fun i hi => h i (by omega))
    obtain ⟨d, e⟩ := h n (by omega)
    rw [sumJ, sumQ]
    refine ⟨?_, by omega, by omega⟩
    rw [j_add, a] <;> rw [a] <;> omega
theorem dlt_b (hs : sB E nj) (hw : wg E nj s) (hj : j < nj) (hx : x < 60) : -1000000 ≤ (dlt E s x j).toInt ∧ (dlt E s x j).toInt ≤ 1000000 := by
  obtain ⟨⟨u1, u2⟩, g1, g2⟩ := hs.1 j x hj hx
  obtain ⟨m1, m2, m3, m4⟩ := hs.2.1 j hj
  have n1 : (-(E 1 13 (60 * j + x)).toInt64).toInt = -(E 1 13 (60 * j + x)).toInt := by
    rw [show -(E 1 13 (60 * j + x)).toInt64 = 0 - (E 1 13 (60 * j + x)).toInt64 by grind, j_sub, Int32.toInt_toInt64] <;> (try rw [Int32.toInt_toInt64]) <;> (have : (0 : Int64).toInt = 0 := rfl; omega)
  unfold dlt
  split
  · omega
  split
  · rw [j_sub, Int32.toInt_toInt64, Int32.toInt_toInt64] <;> (try rw [Int32.toInt_toInt64, Int32.toInt_toInt64]) <;> omega
  split
  · rename_i z
    have ed : edd (oS s j) = true := by rcases z with z | z <;> rw [z] <;> rfl
    obtain ⟨t1, t2, t3⟩ := hw.2.1 j hj ed
    have f1 : (faI s j).toInt = (oE s j : Int) - oB s j := by unfold faI; rw [if_pos ed]; exact fa_b t1 (by have := hw.2.2; omega)
    obtain ⟨r1, r2⟩ := rst_b (F := faI s j) ⟨u1, u2⟩ (by omega) (M := E 1 8 j) (by omega) ⟨m1, m2⟩
    unfold rst
    rw [j_sub, Int32.toInt_toInt64] <;> (try rw [Int32.toInt_toInt64]) <;> omega
  · decide
theorem lft_Z (hs : sB E nj) (hw : wg E nj s) (hx : x < 60) : (lft E nj s x).toInt = (E 1 6 x).toInt + sumQ nj (fun j => (dlt E s x j).toInt) ∧ (lft E nj s x).toInt ≤ 1200000000 := by
  obtain ⟨a, b, c⟩ := sumJ_b (f := dlt E s x) hs.2.2.2 (fun i hi => dlt_b hs hw hi hx)
  obtain ⟨d, e⟩ := hs.2.2.1 x hx
  have := hs.2.2.2
  unfold lft
  rw [j_add, Int32.toInt_toInt64, a]
  · exact ⟨rfl, by omega⟩
  · rw [Int32.toInt_toInt64, a]; omega
  · rw [Int32.toInt_toInt64, a]; omega
theorem nng_mono {s' : Rs} (hs : sB E nj) (hw : wg E nj s) (hw' : wg E nj s') (h : ∀ j x, j < nj → x < 60 → (dlt E s x j).toInt ≤ (dlt E s' x j).toInt) (hn : nng E nj s) : nng E nj s' := fun x hx => by
  have h1 := hn x hx
  rw [(lft_Z hs hw hx).1] at h1
  rw [(lft_Z hs hw' hx).1]
  have := sumQ_mono (n := nj) (f := fun j => (dlt E s x j).toInt) (g := fun j => (dlt E s' x j).toInt) (fun i hi => h i x hi hx)
  omega
/-- jobs at work come to their end, jobs that have not begun are put off -/
def pok (nj : Nat) (s : Rs) (P : Nat → Bool) (v : Nat → Nat) : Prop := ∀ j, P j = true → (oS s j = 6 ∧ (v j = 1 ∨ v j = 2 ∨ v j = 4)) ∨ (oS s j = 0 ∧ (v j = 3 ∨ v j = 5))
theorem par_s {P : Nat → Bool} {v : Nat → Nat} (j : Nat) : oS (par s P v) j = if P j = true then v j else oS s j := rfl
theorem par_e {P : Nat → Bool} {v : Nat → Nat} (j : Nat) : oE (par s P v) j = if P j = true then oM s else oE s j := rfl
theorem wg_par {P : Nat → Bool} {v : Nat → Nat} (hp : pok nj s P v) (hw : wg E nj s) : wg E nj (par s P v) := by
  obtain ⟨w1, w2, w3⟩ := hw
  refine ⟨fun j hj h => ?_, fun j hj h => ?_, w3⟩
  · rw [par_s] at h
    by_cases z : P j = true
    · rw [if_pos z] at h; rcases hp j z with ⟨-, q⟩ | ⟨-, q⟩ <;> omega
    · rw [if_neg z] at h; exact w1 j hj h
  · rw [par_s] at h
    rw [par_e]
    by_cases z : P j = true
    · rw [if_pos z] at h ⊢
      rcases hp j z with ⟨q, -⟩ | ⟨-, q⟩
      · obtain ⟨a, b⟩ := w1 j hj q
        exact ⟨a, b, Nat.le_refl _⟩
      · rcases q with q | q <;> rw [q] at h <;> exact absurd h (by decide)
    · rw [if_neg z] at h ⊢; exact w2 j hj h
theorem nng_par {P : Nat → Bool} {v : Nat → Nat} (hs : sB E nj) (hp : pok nj s P v) (hw : wg E nj s) (hn : nng E nj s) : nng E nj (par s P v) := by
  refine nng_mono hs hw (wg_par hp hw) (fun j x hj hx => ?_) hn
  have wp := wg_par hp hw
  by_cases z : P j = true
  · have e : oS (par s P v) j = v j := by rw [par_s, if_pos z]
    obtain ⟨⟨u1, u2⟩, g1, g2⟩ := hs.1 j x hj hx
    obtain ⟨m1, m2, m3, m4⟩ := hs.2.1 j hj
    rcases hp j z with ⟨q, r⟩ | ⟨q, r⟩
    · have d1 : dlt E s x j = 0 - (E 1 13 (60 * j + x)).toInt64 := by unfold dlt; rw [if_pos q]; grind
      have n1 : (dlt E s x j).toInt = -(E 1 13 (60 * j + x)).toInt := by
        rw [d1, j_sub, Int32.toInt_toInt64] <;> (try rw [Int32.toInt_toInt64]) <;> (have : (0 : Int64).toInt = 0 := rfl; omega)
      rw [n1]
      rcases r with r | r | r
      · have d2 : dlt E (par s P v) x j = (E 1 14 (60 * j + x)).toInt64 - (E 1 13 (60 * j + x)).toInt64 := by unfold dlt; rw [e, r]; simp
        rw [d2, j_sub, Int32.toInt_toInt64, Int32.toInt_toInt64] <;> (try rw [Int32.toInt_toInt64, Int32.toInt_toInt64]) <;> omega
      all_goals
        have ed : edd (oS (par s P v) j) = true := by rw [e, r]; rfl
        obtain ⟨t1, t2, t3⟩ := wp.2.1 j hj ed
        have f1 : (faI (par s P v) j).toInt = (oE (par s P v) j : Int) - oB (par s P v) j := by unfold faI; rw [if_pos ed]; exact fa_b t1 (by have := wp.2.2; omega)
        obtain ⟨r1, r2⟩ := rst_b (F := faI (par s P v) j) ⟨u1, u2⟩ (by omega) (M := E 1 8 j) (by omega) ⟨m1, m2⟩
        have d2 : dlt E (par s P v) x j = rst E (par s P v) x j - (E 1 13 (60 * j + x)).toInt64 := by unfold dlt; rw [e, r]; simp
        rw [d2]
        unfold rst
        rw [j_sub, Int32.toInt_toInt64] <;> (try rw [Int32.toInt_toInt64]) <;> omega
    · have d1 : dlt E s x j = 0 := by unfold dlt; rw [q]; simp
      have d2 : dlt E (par s P v) x j = 0 := by unfold dlt; rw [e]; rcases r with r | r <;> rw [r] <;> simp
      rw [d1, d2]; exact Int.le_refl _
  · have e1 : oS (par s P v) j = oS s j := by rw [par_s, if_neg z]
    have e2 : oE (par s P v) j = oE s j := by rw [par_e, if_neg z]
    have : dlt E (par s P v) x j = dlt E s x j := by unfold dlt rst faI; rw [e1, e2]; rfl
    rw [this]; exact Int.le_refl _
end BD
