/-! what a body computes -/
def bst (ok : Nat → Bool) (v : Nat → Int64) : Nat → Option Nat
  | 0 => none
  | i + 1 => match bst ok v i with
    | none => if ok i = true then some i else none
    | some b => if ok i = true ∧ v b < v i then some i else some b
def gn (v : Nat → Int64) (n : Nat) : Nat → Nat → Bool
  | 0, _ => false
  | t + 1, i => gn v n t i || decide (bst (fun j => !gn v n t j) v n = some i)
theorem bst_ok {ok : Nat → Bool} {v : Nat → Int64} : ∀ {n b : Nat}, bst ok v n = some b → b < n ∧ ok b = true := by
  intro n
  induction n with
  | zero => intro b h; cases h
  | succ n ih =>
    intro b h
    rw [bst] at h
    cases e : bst ok v n with
    | none =>
      rw [e] at h
      by_cases z : ok n = true
      · simp only [z, if_true] at h; cases h; exact ⟨by omega, z⟩
      · simp only [z, if_false] at h; cases h
    | some c =>
      rw [e] at h
      by_cases z : ok n = true ∧ v c < v n
      · simp only [if_pos z] at h; cases h; exact ⟨by omega, z.1⟩
      · simp only [if_neg z] at h; cases h
        have := ih e
        exact ⟨by omega, this.2⟩
theorem bst_none {ok : Nat → Bool} {v : Nat → Int64} : ∀ {n : Nat}, bst ok v n = none → ∀ i, i < n → ok i = false := by
  intro n
  induction n with
  | zero => intro _ i hi; omega
  | succ n ih =>
    intro h i hi
    rw [bst] at h
    cases e : bst ok v n with
    | none =>
      rw [e] at h
      by_cases z : ok n = true
      · simp only [z, if_true] at h; cases h
      · by_cases z2 : i = n
        · rw [z2]; simpa using z
        · exact ih e i (by omega)
    | some c =>
      rw [e] at h
      by_cases z : ok n = true ∧ v c < v n
      · simp only [if_pos z] at h; cases h
      · simp only [if_neg z] at h; cases h
theorem bst_congr {ok ok' : Nat → Bool} {v v' : Nat → Int64} : ∀ {n : Nat}, (∀ i, i < n → ok i = ok' i ∧ v i = v' i) → bst ok v n = bst ok' v' n := by
  intro n
  induction n with
  | zero => intro _; rfl
  | succ n ih =>
    intro h
    rw [bst, bst, ← ih (fun i hi => h i (by omega))]
    cases e : bst ok v n with
    | none => simp only [(h n (by omega)).1]
    | some c =>
      have hc := (bst_ok e).1
      simp only [(h n (by omega)).1, (h n (by omega)).2, (h c (by omega)).2]
theorem gn_when {v : Nat → Int64} {n : Nat} : ∀ {t i : Nat}, gn v n t i = true → ∃ s, s < t ∧ bst (fun j => !gn v n s j) v n = some i := by
  intro t
  induction t with
  | zero => intro i h; cases h
  | succ t ih =>
    intro i h
    rw [gn, Bool.or_eq_true] at h
    rcases h with h | h
    · obtain ⟨s, hs, e⟩ := ih h
      exact ⟨s, by omega, e⟩
    · exact ⟨t, by omega, by simpa using h⟩
theorem gn_free {v : Nat → Int64} {n t : Nat} (ht : t < n) : ∃ i, i < n ∧ gn v n t i = false := by
  by_cases h : ∃ i, i < n ∧ gn v n t i = false
  · exact h
  · have h2 : ∀ i, i < n → ∃ s, s < t ∧ bst (fun j => !gn v n s j) v n = some i := fun i hi => gn_when (by
      cases e : gn v n t i with
      | true => rfl
      | false => exact absurd ⟨i, hi, e⟩ h)
    have := pig t n (fun i => if hi : i < n then (h2 i hi).choose else 0) (fun i hi => by
      simp only [hi, dif_pos]
      exact (h2 i hi).choose_spec.1) (fun i j hi hj e => by
      simp only [hi, hj, dif_pos] at e
      have e1 := (h2 i hi).choose_spec.2
      have e2 := (h2 j hj).choose_spec.2
      rw [e, e2] at e1
      exact (Option.some.inj e1).symm)
    omega
theorem gn_best {v : Nat → Int64} {n t : Nat} (ht : t < n) : ∃ b, bst (fun j => !gn v n t j) v n = some b ∧ b < n ∧ gn v n t b = false := by
  obtain ⟨i, hi, e⟩ := gn_free (v := v) ht
  cases z : bst (fun j => !gn v n t j) v n with
  | none => have := bst_none z i hi; simp [e] at this
  | some b =>
    obtain ⟨h1, h2⟩ := bst_ok z
    exact ⟨b, rfl, h1, by simpa using h2⟩
/-! counts, loads, mixes, cuts: n numbers x, and a, b -/
def cP (a : Int32) (x : Nat → Int32) (i : Nat) : Int64 := ((x i).toInt64 * (100 + a.toInt64) + 99) / 100
def wh (a : Int32) (x : Nat → Int32) (i : Nat) : Int64 := a.toInt64 * (x i).toInt64
def qt (a : Int32) (n : Nat) (x : Nat → Int32) (i : Nat) : Int64 := wh a x i / bSum n x
def rm (a : Int32) (n : Nat) (x : Nat → Int32) (i : Nat) : Int64 := wh a x i - wh a x i / bSum n x * bSum n x
def ovr (a : Int32) (n : Nat) (x : Nat → Int32) : Nat → Int64
  | 0 => a.toInt64
  | i + 1 => ovr a n x i - qt a n x i
def cntI : Nat → (Nat → Bool) → Int32
  | 0, _ => 0
  | n + 1, p => if p n = true then cntI n p + 1 else cntI n p
def mxP (a : Int32) (n : Nat) (x : Nat → Int32) (o : Nat) (i : Nat) : Int64 := if gn (rm a n x) n o i = true then qt a n x i + 1 else qt a n x i
def ldP (a : Int32) (n : Nat) (x : Nat → Int32) (o : Nat) (i : Nat) : Int64 := if i < o then qt a n x i + 1 else qt a n x i
def xl (x : Nat → Int32) (i : Nat) : Int64 := (x i).toInt64
/-- the first board of m that takes the length z -/
def fstB (u : Nat → Int64) (a b : Int32) (z : Int64) : Nat → Nat → Nat
  | 0, k => k
  | m + 1, k => if a.toInt64 < u k + b.toInt64 + z then fstB u a b z m (k + 1) else k
/-- after t cuts: how many boards, how far each is taken, on which board each piece lies -/
def cutS (a b : Int32) (n : Nat) (x : Nat → Int32) : Nat → Nat × (Nat → Int64) × (Nat → Int64)
  | 0 => (0, fun _ => 0, fun _ => 0)
  | t + 1 =>
    let c := cutS a b n x t
    match bst (fun j => !gn (xl x) n t j) (xl x) n with
    | none => c
    | some p =>
      let k := fstB c.2.1 a b (xl x p) c.1 0
      (if k = c.1 then c.1 + 1 else c.1, fun i => if i = k then (if k = c.1 then xl x p else c.2.1 k + b.toInt64 + xl x p) else c.2.1 i, fun i => if i = p then (nI k).toInt64 else c.2.2 i)
theorem fstB_le (u : Nat → Int64) (a b : Int32) (z : Int64) : ∀ m k, k ≤ fstB u a b z m k ∧ fstB u a b z m k ≤ k + m := by
  intro m
  induction m with
  | zero => intro k; exact ⟨Nat.le_refl _, Nat.le_refl _⟩
  | succ m ih =>
    intro k
    rw [fstB]
    by_cases e : a.toInt64 < u k + b.toInt64 + z
    · rw [if_pos e]; have := ih (k + 1); omega
    · rw [if_neg e]; omega
theorem cut_n {a b : Int32} {n : Nat} {x : Nat → Int32} : ∀ t, (cutS a b n x t).1 ≤ t := by
  intro t
  induction t with
  | zero => exact Nat.le_refl _
  | succ t ih =>
    rw [cutS]
    cases e : bst (fun j => !gn (xl x) n t j) (xl x) n with
    | none => dsimp only; omega
    | some p =>
      dsimp only
      by_cases z : fstB (cutS a b n x t).2.1 a b (xl x p) (cutS a b n x t).1 0 = (cutS a b n x t).1
      · rw [if_pos z]; omega
      · rw [if_neg z]; omega
def bRes (k a b : Int32) (n : Nat) (x : Nat → Int32) : Int32 :=
  if bFault k a b n x ≠ 0 then 0 else if k = 1 then nI (cutS a b n x n).1 else if k = 2 then cntI n (fun i => decide (0 < mxP a n x (ovr a n x n).toInt.toNat i)) else if k = 3 then (ldP a n x (ovr a n x n).toInt.toNat b.toNatClampNeg).toInt32 else if k = 4 then (nI n + 1) / 2 else if k = 5 then (sumJ n (cP a x)).toInt32 else 0
def bPart (k a b : Int32) (n : Nat) (x : Nat → Int32) (i : Nat) : Int64 :=
  if bFault k a b n x ≠ 0 ∨ n ≤ i then 0 else if k = 1 then (cutS a b n x n).2.2 i else if k = 2 then mxP a n x (ovr a n x n).toInt.toNat i else if k = 3 then ldP a n x (ovr a n x n).toInt.toNat i else if k = 5 then cP a x i else 0
/-! what is over is less than the numbers are many -/
def sumZ : Nat → (Nat → Int) → Int
  | 0, _ => 0
  | n + 1, f => sumZ n f + f n
theorem sumZ_bd {f : Nat → Int} {lo hi : Int} : ∀ {n : Nat}, (∀ i, i < n → lo ≤ f i ∧ f i ≤ hi) → (n : Int) * lo ≤ sumZ n f ∧ sumZ n f ≤ (n : Int) * hi := by
  intro n
  induction n with
  | zero => intro _; unfold sumZ; simp
  | succ n ih =>
    intro h
    have h1 := ih (fun i hi => h i (by omega))
    have h2 := h n (by omega)
    unfold sumZ
    have e1 : ((n + 1 : Nat) : Int) * lo = (n : Int) * lo + lo := by rw [Int.natCast_add, Int.add_mul]; simp
    have e2 : ((n + 1 : Nat) : Int) * hi = (n : Int) * hi + hi := by rw [Int.natCast_add, Int.add_mul]; simp
    omega
theorem sumJ_toInt {f : Nat → Int64} {M : Int} : ∀ {n : Nat}, n ≤ 1000 → 0 ≤ M → M ≤ 2 ^ 50 → (∀ i, i < n → -M ≤ (f i).toInt ∧ (f i).toInt ≤ M) → (sumJ n f).toInt = sumZ n (fun i => (f i).toInt) := by
  intro n
  induction n with
  | zero => intro _ _ _ _; unfold sumJ sumZ; decide
  | succ n ih =>
    intro hn h0 hM h
    have e := ih (by omega) h0 hM (fun i hi => h i (by omega))
    have hb := sumZ_bd (n := n) (f := fun i => (f i).toInt) (lo := -M) (hi := M) (fun i hi => h i (by omega))
    have h2 := h n (by omega)
    unfold sumJ sumZ
    rw [Int64.toInt_add, e]
    have b1 : (n : Int) * M ≤ 1000 * M := Int.mul_le_mul_of_nonneg_right (by omega) h0
    have b2 : -(1000 * M) ≤ (n : Int) * (-M) := by
      rw [Int.mul_neg]; omega
    apply Int.bmod_eq_of_le
    · omega
    · omega
