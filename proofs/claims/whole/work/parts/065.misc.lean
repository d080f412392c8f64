/-- enough for every loop -/
def FU : Nat := 2 ^ 40
theorem q_lt (x y : Int64) : lg_cmp x y < 0 ↔ x < y := by
  unfold lg_cmp
  split
  · rename_i h; constructor
    · intro z; exact absurd z (by decide)
    · intro z; rw [gt_iff_lt, Int64.lt_iff_toInt_lt] at h; rw [Int64.lt_iff_toInt_lt] at z; omega
  · split
    · rename_i h1 h; subst h; constructor
      · intro z; exact absurd z (by decide)
      · intro z; rw [Int64.lt_iff_toInt_lt] at z; omega
    · rename_i h1 h2; constructor
      · intro _; rw [gt_iff_lt, Int64.lt_iff_toInt_lt] at h1; rw [← Int64.toInt_inj] at h2; rw [Int64.lt_iff_toInt_lt]; omega
      · intro _; decide
theorem q_eq (x y : Int64) : lg_cmp x y = 0 ↔ x = y := by
  unfold lg_cmp
  split
  · rename_i h; constructor
    · intro z; exact absurd z (by decide)
    · intro z; subst z; rw [gt_iff_lt, Int64.lt_iff_toInt_lt] at h; omega
  · split
    · rename_i h1 h; exact ⟨fun _ => h, fun _ => rfl⟩
    · rename_i h1 h2; exact ⟨fun z => absurd z (by decide), fun z => absurd z h2⟩
theorem q_ne (x y : Int64) : lg_cmp x y = 0 ↔ x = y := q_eq x y
theorem q_gt (x y : Int64) : 0 < lg_cmp x y ↔ y < x := by
  unfold lg_cmp
  split
  · rename_i h; exact ⟨fun _ => h, fun _ => by decide⟩
  · split
    · rename_i h1 h; exact ⟨fun z => absurd z (by decide), fun z => absurd z h1⟩
    · rename_i h1 h2; exact ⟨fun z => absurd z (by decide), fun z => absurd z h1⟩
theorem q_le (x y : Int64) : lg_cmp x y ≤ 0 ↔ x ≤ y := by
  have h := q_gt x y
  rw [Int32.lt_iff_toInt_lt, Int64.lt_iff_toInt_lt] at h
  rw [Int32.le_iff_toInt_le, Int64.le_iff_toInt_le]
  omega
theorem q_ge (x y : Int64) : 0 ≤ lg_cmp x y ↔ y ≤ x := by
  have h := q_lt x y
  rw [Int32.lt_iff_toInt_lt, Int64.lt_iff_toInt_lt] at h
  rw [Int32.le_iff_toInt_le, Int64.le_iff_toInt_le]
  omega
theorem tsw_out {x : Int32} (lo hi : Int) (h : ∀ v : Int, lo ≤ v → v ≤ hi → x.toInt ≠ v) : x.toInt < lo ∨ hi < x.toInt := by
  by_cases h1 : x.toInt < lo
  · exact Or.inl h1
  · by_cases h2 : hi < x.toInt
    · exact Or.inr h2
    · exact absurd rfl (h _ (by omega) (by omega))
