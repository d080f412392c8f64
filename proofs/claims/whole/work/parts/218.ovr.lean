/-! shares: exact numbers -/
theorem sumZ_mul {f : Nat → Int} (c : Int) : ∀ n : Nat, sumZ n (fun i => c * f i) = c * sumZ n f := by
  intro n
  induction n with
  | zero => unfold sumZ; simp
  | succ n ih => unfold sumZ; rw [ih, Int.mul_add]
theorem sumZ_add {f g : Nat → Int} : ∀ n : Nat, sumZ n (fun i => f i + g i) = sumZ n f + sumZ n g := by
  intro n
  induction n with
  | zero => rfl
  | succ n ih => unfold sumZ; rw [ih]; dsimp only; omega
theorem sumZ_congr {f g : Nat → Int} {n : Nat} (h : ∀ i, i < n → f i = g i) : sumZ n f = sumZ n g := by
  induction n with
  | zero => rfl
  | succ n ih => unfold sumZ; rw [ih (fun i hi => h i (by omega)), h n (by omega)]
theorem sumZ_le {f : Nat → Int} : ∀ {n i : Nat}, (∀ j, j < n → 0 ≤ f j) → i < n → f i ≤ sumZ n f := by
  intro n
  induction n with
  | zero => intro i _ hi; omega
  | succ n ih =>
    intro i h hi
    unfold sumZ
    have h0 : 0 ≤ sumZ n f := by
      have := (sumZ_bd (f := f) (n := n) (lo := 0) (hi := sumZ n f + 1 + 2 ^ 200) (fun j hj => ⟨h j (by omega), by
        have := ih (i := j) (fun z hz => h z (by omega)) hj
        omega⟩)).1
      simpa using this
    by_cases e : i = n
    · subst e; omega
    · have := ih (i := i) (fun j hj => h j (by omega)) (by omega)
      have := h n (by omega)
      omega
theorem i32_lo (x : Int32) : -2147483648 ≤ x.toInt := Int32.le_toInt x
theorem i32_hi (x : Int32) : x.toInt < 2147483648 := Int32.toInt_lt x
theorem below_no {a : Int32} {n : Nat} {x : Nat → Int32} (h : bBelow a n x = false) : 0 ≤ a.toInt ∧ ∀ i, i < n → 0 ≤ (x i).toInt := by
  unfold bBelow at h
  rw [Bool.or_eq_false_iff] at h
  refine ⟨?_, fun i hi => ?_⟩
  · have := of_decide_eq_false h.1
    rw [Int32.lt_iff_toInt_lt] at this
    have z : (0 : Int32).toInt = 0 := by decide
    omega
  · have := of_decide_eq_false (anyB_no.mp h.2 i hi)
    rw [Int32.lt_iff_toInt_lt] at this
    have z : (0 : Int32).toInt = 0 := by decide
    omega
section OV
variable {a : Int32} {n : Nat} {x : Nat → Int32}
theorem bSum_toInt (hn : n ≤ 30) : (bSum n x).toInt = sumZ n (fun i => (x i).toInt) := by
  unfold bSum
  rw [sumJ_toInt (M := 2147483648) (by omega) (by decide) (by decide) (fun i hi => by
    rw [Int32.toInt_toInt64]
    have := i32_lo (x i); have := i32_hi (x i)
    omega)]
  exact sumZ_congr (fun i _ => Int32.toInt_toInt64 _)
theorem bSum_pos (hn : n ≤ 30) (hb : bBelow a n x = false) (hs : ¬ bSum n x = 0) : 0 < (bSum n x).toInt := by
  have h1 := (below_no hb).2
  have h0 : 0 ≤ sumZ n (fun i => (x i).toInt) := by
    have := (sumZ_bd (n := n) (f := fun i => (x i).toInt) (lo := 0) (hi := 2147483648) (fun i hi => ⟨h1 i hi, by have := i32_hi (x i); omega⟩)).1
    simpa using this
  rw [bSum_toInt hn]
  have h2 : sumZ n (fun i => (x i).toInt) ≠ 0 := fun z => hs (by
    rw [← Int64.toInt_inj, bSum_toInt hn, z]; decide)
  omega
theorem wh_toInt (i : Nat) : (wh a x i).toInt = a.toInt * (x i).toInt := by
  unfold wh
  rw [Int64.toInt_mul, Int32.toInt_toInt64, Int32.toInt_toInt64]
  have h1 := i32_lo a; have h2 := i32_hi a; have h3 := i32_lo (x i); have h4 := i32_hi (x i)
  have hb : (a.toInt * (x i).toInt).natAbs ≤ 2147483648 * 2147483648 := by
    rw [Int.natAbs_mul]
    exact Nat.mul_le_mul (by omega) (by omega)
  apply Int.bmod_eq_of_le
  · omega
  · omega
theorem qt_toInt (hn : n ≤ 30) (hb : bBelow a n x = false) (hs : ¬ bSum n x = 0) {i : Nat} (hi : i < n) : (qt a n x i).toInt = a.toInt * (x i).toInt / sumZ n (fun i => (x i).toInt) ∧ 0 ≤ (qt a n x i).toInt ∧ (qt a n x i).toInt ≤ a.toInt := by
  obtain ⟨ha, hx⟩ := below_no hb
  have hp := bSum_pos hn hb hs
  rw [bSum_toInt hn] at hp
  have hxi := hx i hi
  have hle := sumZ_le (f := fun i => (x i).toInt) hx hi
  have hw : 0 ≤ a.toInt * (x i).toInt := Int.mul_nonneg ha hxi
  have hq0 : 0 ≤ a.toInt * (x i).toInt / sumZ n (fun i => (x i).toInt) := Int.ediv_nonneg hw (by omega)
  have hq1 : a.toInt * (x i).toInt / sumZ n (fun i => (x i).toInt) ≤ a.toInt := by
    apply Int.ediv_le_of_le_mul hp
    exact Int.mul_le_mul_of_nonneg_left hle ha
  have h2 := i32_hi a
  have e : (qt a n x i).toInt = a.toInt * (x i).toInt / sumZ n (fun i => (x i).toInt) := by
    unfold qt
    rw [Int64.toInt_div, wh_toInt, bSum_toInt hn, Int.tdiv_eq_ediv_of_nonneg hw]
    apply Int.bmod_eq_of_le
    · omega
    · omega
  exact ⟨e, by rw [e]; exact hq0, by rw [e]; exact hq1⟩
theorem rm_toInt (hn : n ≤ 30) (hb : bBelow a n x = false) (hs : ¬ bSum n x = 0) {i : Nat} (hi : i < n) : (rm a n x i).toInt = a.toInt * (x i).toInt % sumZ n (fun i => (x i).toInt) := by
  obtain ⟨ha, hx⟩ := below_no hb
  have hp := bSum_pos hn hb hs
  rw [bSum_toInt hn] at hp
  have hw : 0 ≤ a.toInt * (x i).toInt := Int.mul_nonneg ha (hx i hi)
  obtain ⟨q1, q2, q3⟩ := qt_toInt hn hb hs hi
  have h2 := i32_hi a
  have hsb : sumZ n (fun i => (x i).toInt) ≤ 30 * 2147483648 := by
    have := (sumZ_bd (n := n) (f := fun i => (x i).toInt) (lo := 0) (hi := 2147483648) (fun i hi => ⟨hx i hi, by have := i32_hi (x i); omega⟩)).2
    have h3 : (n : Int) * 2147483648 ≤ 30 * 2147483648 := Int.mul_le_mul_of_nonneg_right (by omega) (by decide)
    omega
  have hm := Int.emod_nonneg (a.toInt * (x i).toInt) (show sumZ n (fun i => (x i).toInt) ≠ 0 by omega)
  have hm2 := Int.emod_lt_of_pos (a.toInt * (x i).toInt) hp
  have hd := Int.mul_ediv_add_emod (a.toInt * (x i).toInt) (sumZ n (fun i => (x i).toInt))
  have hx2 := i32_hi (x i)
  have hx0 := hx i hi
  have hwb : a.toInt * (x i).toInt ≤ 2147483648 * 2147483648 := Int.mul_le_mul (by omega) (by omega) hx0 (by decide)
  have hprod : (qt a n x i * bSum n x).toInt = sumZ n (fun i => (x i).toInt) * (a.toInt * (x i).toInt / sumZ n (fun i => (x i).toInt)) := by
    rw [Int64.toInt_mul, q1, bSum_toInt hn, Int.mul_comm]
    apply Int.bmod_eq_of_le
    · omega
    · omega
  show (wh a x i - qt a n x i * bSum n x).toInt = _
  rw [Int64.toInt_sub, wh_toInt, hprod]
  have e : a.toInt * (x i).toInt - sumZ n (fun i => (x i).toInt) * (a.toInt * (x i).toInt / sumZ n (fun i => (x i).toInt)) = a.toInt * (x i).toInt % sumZ n (fun i => (x i).toInt) := by omega
  rw [e]
  apply Int.bmod_eq_of_le
  · omega
  · omega
theorem ovr_toInt (hn : n ≤ 30) (hb : bBelow a n x = false) (hs : ¬ bSum n x = 0) : ∀ i, i ≤ n → (ovr a n x i).toInt = a.toInt - sumZ i (fun i => (qt a n x i).toInt) := by
  have h2 := i32_hi a
  have h1 := i32_lo a
  intro i
  induction i with
  | zero => intro _; unfold ovr sumZ; rw [Int32.toInt_toInt64]; omega
  | succ i ih =>
    intro hi
    have e := ih (by omega)
    have hq := qt_toInt hn hb hs (i := i) (by omega)
    have hbd := sumZ_bd (n := i) (f := fun i => (qt a n x i).toInt) (lo := 0) (hi := 2147483648) (fun j hj => by
      have := qt_toInt hn hb hs (i := j) (by omega)
      exact ⟨this.2.1, by omega⟩)
    have hb3 : (i : Int) * 2147483648 ≤ 30 * 2147483648 := Int.mul_le_mul_of_nonneg_right (by omega) (by decide)
    unfold ovr sumZ
    rw [Int64.toInt_sub, e]
    have e2 : a.toInt - sumZ i (fun i => (qt a n x i).toInt) - (qt a n x i).toInt = a.toInt - (sumZ i (fun i => (qt a n x i).toInt) + (qt a n x i).toInt) := by omega
    rw [e2]
    have h00 : (i : Int) * 0 = 0 := by simp
    apply Int.bmod_eq_of_le
    · omega
    · omega
/-- what is over: an o below n -/
theorem ovr_lt (hn : n ≤ 30) (h0 : 0 < n) (hb : bBelow a n x = false) (hs : ¬ bSum n x = 0) : ∃ o : Nat, o < n ∧ ovr a n x n = lN o ∧ (ovr a n x n).toInt.toNat = o := by
  have hp := bSum_pos hn hb hs
  rw [bSum_toInt hn] at hp
  generalize hsv : sumZ n (fun i => (x i).toInt) = s at hp
  have e := ovr_toInt hn hb hs n (Nat.le_refl n)
  have h1 : s * (ovr a n x n).toInt = sumZ n (fun i => a.toInt * (x i).toInt % s) := by
    rw [e, Int.mul_sub, ← sumZ_mul, ← hsv, Int.mul_comm _ a.toInt, ← sumZ_mul]
    have : sumZ n (fun i => a.toInt * (x i).toInt) = sumZ n (fun i => sumZ n (fun i => (x i).toInt) * (qt a n x i).toInt) + sumZ n (fun i => a.toInt * (x i).toInt % sumZ n (fun i => (x i).toInt)) := by
      rw [← sumZ_add]
      refine sumZ_congr (fun i hi => ?_)
      rw [(qt_toInt hn hb hs hi).1]
      exact (Int.mul_ediv_add_emod _ _).symm
    omega
  have h2 := sumZ_bd (n := n) (f := fun i => a.toInt * (x i).toInt % s) (lo := 0) (hi := s - 1) (fun i _ => ⟨Int.emod_nonneg _ (by omega), by have := Int.emod_lt_of_pos (a.toInt * (x i).toInt) hp; omega⟩)
  rw [← h1] at h2
  have h3 : 0 ≤ (ovr a n x n).toInt := by
    by_cases z : 0 ≤ (ovr a n x n).toInt
    · exact z
    · have := Int.mul_neg_of_pos_of_neg hp (show (ovr a n x n).toInt < 0 by omega)
      have h00 : (n : Int) * 0 = 0 := by simp
      omega
  have h4 : (ovr a n x n).toInt < n := by
    apply Int.lt_of_mul_lt_mul_left (a := s) _ (by omega)
    have : (n : Int) * (s - 1) = s * n - n := by rw [Int.mul_sub, Int.mul_comm]; omega
    omega
  refine ⟨(ovr a n x n).toInt.toNat, by omega, ?_, rfl⟩
  rw [← Int64.toInt_inj]
  unfold lN
  rw [lg_ofNat_toInt (by omega)]
  omega
theorem rm_nonneg (hn : n ≤ 30) (hb : bBelow a n x = false) (hs : ¬ bSum n x = 0) {i : Nat} (hi : i < n) : 0 ≤ (rm a n x i).toInt := by
  have hp := bSum_pos hn hb hs
  rw [bSum_toInt hn] at hp
  rw [rm_toInt hn hb hs hi]
  exact Int.emod_nonneg _ (by omega)
end OV
