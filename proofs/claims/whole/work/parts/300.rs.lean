/-! a run, purely: what becomes of each job (0 not begun, 1 done, 2 failed, 3 cancelled, 4 interrupted, 5 never, 6 at work), when it began, when it was over, by whom; who had each machine; the minute -/
abbrev Rs := (Nat → Nat) × (Nat → Nat) × (Nat → Nat) × (Nat → Nat) × (Nat → Int32) × Nat
abbrev oS (s : Rs) : Nat → Nat := s.1
abbrev oB (s : Rs) : Nat → Nat := s.2.1
abbrev oE (s : Rs) : Nat → Nat := s.2.2.1
abbrev oW (s : Rs) : Nat → Nat := s.2.2.2.1
abbrev oH (s : Rs) : Nat → Int32 := s.2.2.2.2.1
abbrev oM (s : Rs) : Nat := s.2.2.2.2.2
def u1 {α : Type} (f : Nat → α) (j : Nat) (v : α) : Nat → α := fun i => if i = j then v else f i
theorem u1_s {α : Type} (f : Nat → α) (j : Nat) (v : α) : u1 f j v j = v := if_pos rfl
theorem u1_o {α : Type} {f : Nat → α} {j i : Nat} {v : α} (h : ¬ i = j) : u1 f j v i = f i := if_neg h
/-- job j is over, as x, in this minute -/
def mv (s : Rs) (j x : Nat) : Rs := (u1 (oS s) j x, oB s, u1 (oE s) j (oM s), oW s, oH s, oM s)
/-- so for all of P -/
def par (s : Rs) (P : Nat → Bool) (v : Nat → Nat) : Rs := (fun j => if P j = true then v j else oS s j, oB s, fun j => if P j = true then oM s else oE s j, oW s, oH s, oM s)
theorem par_mv {s : Rs} {P P' : Nat → Bool} {v : Nat → Nat} {j : Nat} (h : ∀ i, P' i = (P i || decide (i = j))) : par s P' v = mv (par s P v) j (v j) := by
  unfold par mv u1
  refine Prod.ext (funext fun i => ?_) (Prod.ext rfl (Prod.ext (funext fun i => ?_) rfl))
  · show (if P' i = true then v i else oS s i) = if i = j then v j else if P i = true then v i else oS s i
    rw [h]
    by_cases e : i = j
    · simp [e]
    · simp [e]
  · show (if P' i = true then oM s else oE s i) = if i = j then oM s else if P i = true then oM s else oE s i
    rw [h]
    by_cases e : i = j
    · simp [e]
    · simp [e]
theorem par_cg {s : Rs} {P P' : Nat → Bool} {v : Nat → Nat} (h : ∀ i, P' i = P i) : par s P' v = par s P v := by
  have : P' = P := funext h
  rw [this]
theorem par_0 {s : Rs} {P : Nat → Bool} {v : Nat → Nat} (h : ∀ i, P i = false) : par s P v = s := by
  unfold par
  simp [h]
def cntN : Nat → (Nat → Bool) → Nat
  | 0, _ => 0
  | n + 1, p => cntN n p + (if p n = true then 1 else 0)
theorem cntN_le (p : Nat → Bool) : ∀ n, cntN n p ≤ n := by
  intro n
  induction n with
  | zero => exact Nat.le_refl _
  | succ n ih => rw [cntN]; split <;> omega
theorem cntN_cg {p q : Nat → Bool} : ∀ {n : Nat}, (∀ i, i < n → p i = q i) → cntN n p = cntN n q := by
  intro n
  induction n with
  | zero => intro _; rfl
  | succ n ih => intro h; rw [cntN, cntN, ih (fun i hi => h i (by omega)), h n (by omega)]
theorem cntN_up {p q : Nat → Bool} {j : Nat} : ∀ {n : Nat}, j < n → (∀ i, i < n → i ≠ j → q i = p i) → p j = false → q j = true → cntN n q = cntN n p + 1 := by
  intro n
  induction n with
  | zero => intro h; omega
  | succ n ih =>
    intro hj h h1 h2
    rw [cntN, cntN]
    by_cases e : j = n
    · subst e
      rw [cntN_cg (p := q) (q := p) (fun i hi => h i (by omega) (by omega)), h1, h2]; simp
    · rw [ih (by omega) (fun i hi => h i (by omega)) h1 h2, h n (by omega) (fun z => e z.symm)]; omega
theorem cntN_0 {p : Nat → Bool} : ∀ {n : Nat}, cntN n p = 0 ↔ ∀ i, i < n → p i = false := by
  intro n
  induction n with
  | zero => exact ⟨fun _ i hi => by omega, fun _ => rfl⟩
  | succ n ih =>
    rw [cntN]
    constructor
    · intro h i hi
      by_cases e : i = n
      · subst e
        cases hp : p i with
        | false => rfl
        | true => rw [hp] at h; simp at h
      · exact ih.mp (by omega) i (by omega)
    · intro h
      rw [ih.mpr (fun i hi => h i (by omega)), h n (by omega)]; simp
theorem cntN_pos {p : Nat → Bool} {n i : Nat} (hi : i < n) (hp : p i = true) : 0 < cntN n p := by
  rcases Nat.eq_zero_or_pos (cntN n p) with h | h
  · rw [cntN_0] at h; rw [h i hi] at hp; cases hp
  · exact h
theorem cntI_N (p : Nat → Bool) : ∀ n, cntI n p = nI (cntN n p) := by
  intro n
  induction n with
  | zero => rfl
  | succ n ih =>
    rw [cntI, cntN]
    by_cases e : p n = true
    · rw [if_pos e, if_pos e, ih, nI_succ]
    · rw [if_neg e, if_neg e, ih]; rfl
/-- a list without doubles that names all of p -/
theorem cntN_ls {N : Nat} {f : Nat → Nat} : ∀ {n : Nat} {p : Nat → Bool}, (∀ i, i < n → f i < N) → (∀ i i', i < n → i' < n → f i = f i' → i = i') → (∀ b, b < N → (p b = true ↔ ∃ i, i < n ∧ f i = b)) → cntN N p = n := by
  intro n
  induction n with
  | zero =>
    intro p _ _ h
    rw [cntN_0]
    intro i hi
    cases hp : p i with
    | false => rfl
    | true => obtain ⟨k, hk, -⟩ := (h i hi).mp hp; omega
  | succ n ih =>
    intro p h1 h2 h3
    have e := ih (p := fun b => p b && !decide (b = f n)) (fun i hi => h1 i (by omega)) (fun i i' a b => h2 i i' (by omega) (by omega)) (fun b hb => by
      simp only [Bool.and_eq_true, Bool.not_eq_true', decide_eq_false_iff_not, h3 b hb]
      constructor
      · rintro ⟨⟨i, hi, e⟩, z⟩
        by_cases e2 : i = n
        · subst e2; exact absurd e.symm z
        · exact ⟨i, by omega, e⟩
      · rintro ⟨i, hi, e⟩
        refine ⟨⟨i, by omega, e⟩, fun z => ?_⟩
        have := h2 i n (by omega) (by omega) (e.trans z)
        omega)
    rw [← e]
    refine cntN_up (j := f n) (h1 n (by omega)) (fun i hi z => by simp [z]) (by simp) ((h3 _ (h1 n (by omega))).mpr ⟨n, by omega, rfl⟩)
theorem sumJ_cg {f g : Nat → Int64} : ∀ {n : Nat}, (∀ i, i < n → f i = g i) → sumJ n f = sumJ n g := by
  intro n
  induction n with
  | zero => intro _; rfl
  | succ n ih => intro h; rw [sumJ, sumJ, ih (fun i hi => h i (by omega)), h n (by omega)]
theorem sumJ_up {f g : Nat → Int64} {j : Nat} : ∀ {n : Nat}, j < n → (∀ i, i < n → i ≠ j → g i = f i) → sumJ n g = sumJ n f + (g j - f j) := by
  intro n
  induction n with
  | zero => intro h; omega
  | succ n ih =>
    intro hj h
    rw [sumJ, sumJ]
    by_cases e : j = n
    · subst e
      rw [sumJ_cg (f := g) (g := f) (fun i hi => h i (by omega) (by omega))]; grind
    · rw [ih (by omega) (fun i hi => h i (by omega)), h n (by omega) (fun z => e z.symm)]; grind
def sumN : Nat → (Nat → Nat) → Nat
  | 0, _ => 0
  | n + 1, f => sumN n f + f n
theorem sumN_cg {f g : Nat → Nat} : ∀ {n : Nat}, (∀ i, i < n → f i = g i) → sumN n f = sumN n g := by
  intro n
  induction n with
  | zero => intro _; rfl
  | succ n ih => intro h; rw [sumN, sumN, ih (fun i hi => h i (by omega)), h n (by omega)]
theorem sumN_up {f g : Nat → Nat} {j : Nat} : ∀ {n : Nat}, j < n → (∀ i, i < n → i ≠ j → g i = f i) → sumN n g + f j = sumN n f + g j := by
  intro n
  induction n with
  | zero => intro h; omega
  | succ n ih =>
    intro hj h
    rw [sumN, sumN]
    by_cases e : j = n
    · subst e
      rw [sumN_cg (f := g) (g := f) (fun i hi => h i (by omega) (by omega))]; omega
    · have := ih (by omega) (fun i hi => h i (by omega))
      rw [h n (by omega) (fun z => e z.symm)]; omega
theorem sumN_le {f : Nat → Nat} {b : Nat} : ∀ {n : Nat}, (∀ i, i < n → f i ≤ b) → sumN n f ≤ n * b := by
  intro n
  induction n with
  | zero => intro _; exact Nat.zero_le _
  | succ n ih => intro h; rw [sumN, Nat.succ_mul]; have := ih (fun i hi => h i (by omega)); have := h n (by omega); omega
def bgn (s : Nat) : Bool := s == 1 || s == 2 || s == 4 || s == 6
def edd (s : Nat) : Bool := s == 1 || s == 2 || s == 4
/-- events of a job, the kind of the last one -/
def evn (s : Nat) : Nat := if s = 0 then 0 else if s = 6 ∨ s = 3 ∨ s = 5 then 1 else 2
def evk (s : Nat) : Nat := if s = 5 then 6 else s
theorem evn_le (s : Nat) : evn s ≤ 2 := by unfold evn; split; · omega
                                           split <;> omega
def cS (s : Nat) : Int32 := if s = 6 then 0 else nI s
def bgI (s : Rs) (j : Nat) : Int32 := if bgn (oS s j) = true then nI (oB s j) else -1
def emI (s : Rs) (j : Nat) : Int32 := if edd (oS s j) = true then nI (oE s j) else -1
def wkI (s : Rs) (j : Nat) : Int32 := if bgn (oS s j) = true then nI (oW s j) else -1
def faI (s : Rs) (j : Nat) : Int32 := if edd (oS s j) = true then nI (oE s j) - nI (oB s j) else 0
/-- how job j fails, if it comes to its end -/
def fkE (E : FI) (j : Nat) : Int32 := if 0 < E 1 20 j then E 1 21 j else bFault (E 1 15 j) (E 1 16 j) (E 1 17 j) (if E 1 19 j = -1 then 0 else (E 1 19 j).toNatClampNeg) (fun i => E 1 18 (30 * j + i))
def noI (E : FI) (s : Rs) (j : Nat) : Int32 := if oS s j = 4 then (if 0 < E 1 15 j ∧ faI s j < E 1 8 j / 2 then 2 else 1) else 0
def fkI (E : FI) (s : Rs) (j : Nat) : Int32 := if oS s j = 2 then fkE E j else 0
/-- minutes to its end -/
def dur (E : FI) (j : Nat) : Nat := (if 0 < E 1 20 j then E 1 20 j else E 1 8 j).toNatClampNeg
def endN (E : FI) (s : Rs) (j : Nat) : Nat := oB s j + dur E j
def rst (E : FI) (s : Rs) (x j : Nat) : Int64 := (E 1 13 (60 * j + x)).toInt64 - (E 1 13 (60 * j + x)).toInt64 * (faI s j).toInt64 / (E 1 8 j).toInt64
/-- what job j has done to stock x -/
def dlt (E : FI) (s : Rs) (x j : Nat) : Int64 := if oS s j = 6 then - (E 1 13 (60 * j + x)).toInt64 else if oS s j = 1 then (E 1 14 (60 * j + x)).toInt64 - (E 1 13 (60 * j + x)).toInt64 else if oS s j = 2 ∨ oS s j = 4 then rst E s x j - (E 1 13 (60 * j + x)).toInt64 else 0
def lft (E : FI) (nj : Nat) (s : Rs) (x : Nat) : Int64 := (E 1 6 x).toInt64 + sumJ nj (dlt E s x)
/-- worker w is free -/
def fre (nj : Nat) (s : Rs) (w : Nat) : Bool := cntN nj (fun j => oS s j == 6 && oW s j == w) == 0
theorem fre_t {nj : Nat} {s : Rs} {w : Nat} : fre nj s w = true ↔ ∀ j, j < nj → oS s j = 6 → oW s j ≠ w := by
  unfold fre
  rw [beq_iff_eq, cntN_0]
  simp only [Bool.and_eq_false_iff, beq_eq_false_iff_ne]
  constructor
  · intro h j hj e1 e2
    rcases h j hj with z | z
    · exact z e1
    · exact z e2
  · intro h j hj
    by_cases e : oS s j = 6
    · exact Or.inr (h j hj e)
    · exact Or.inl e
/-- jobs that j waits for -/
def wts (E : FI) (nj : Nat) (s : Rs) (j : Nat) : Nat := cntN nj (fun b => E 1 10 (200 * j + b) == 1 && !(oS s b == 1))
def EVs (nj : Nat) (s : Rs) (z : Nat) : Prop := ∃ j, j < nj ∧ (bgn (oS s j) = true ∧ z = ekey (oB s j) 5 j ∨ (oS s j ≠ 0 ∧ oS s j ≠ 6) ∧ z = ekey (oE s j) (evk (oS s j)) j)
def rdy (E : FI) (nj : Nat) (s : Rs) (j : Nat) : Prop := oS s j = 0 ∧ ∀ k, k < nj → E 1 10 (200 * j + k) = 1 → oS s k = 1
def bsy (E : FI) (nj : Nat) (s : Rs) (m : Nat) : Prop := ∃ j, j < nj ∧ oS s j = 6 ∧ m < 40 ∧ E 1 12 (40 * j + m) = 1
/-- the least free worker of craft c -/
def lfw (nj : Nat) (cw : Nat → Nat) (s : Rs) (c w : Nat) : Prop := ∃ i, i < cw c ∧ w = fwk cw c + i ∧ fre nj s w = true ∧ ∀ i', i' < i → fre nj s (fwk cw c + i') = false
def hasW (nj : Nat) (cw : Nat → Nat) (s : Rs) (c : Nat) : Prop := ∃ i, i < cw c ∧ fre nj s (fwk cw c + i) = true
def can (E : FI) (nj : Nat) (cw jc : Nat → Nat) (s : Rs) (j : Nat) : Prop := rdy E nj s j ∧ hasW nj cw s (jc j) ∧ (∀ m, m < 40 → E 1 12 (40 * j + m) = 1 → ¬ bsy E nj s m) ∧ ∀ x, x < 60 → (E 1 13 (60 * j + x)).toInt64 ≤ lft E nj s x
def beg (E : FI) (s : Rs) (j w : Nat) : Rs := (u1 (oS s) j 6, u1 (oB s) j (oM s), oE s, u1 (oW s) j w, fun m => if m < 40 ∧ E 1 12 (40 * j + m) = 1 then nI j else oH s m, oM s)
/-- what holds of a run at any time -/
def wf (E : FI) (nj nw : Nat) (cw jc : Nat → Nat) (s : Rs) : Prop := (∀ j, j < nj → oS s j ≤ 6) ∧ (∀ j, j < nj → oS s j = 6 → fwk cw (jc j) ≤ oW s j ∧ oW s j < fwk cw (jc j) + cw (jc j) ∧ oW s j < nw) ∧ (∀ j k, j < nj → k < nj → oS s j = 6 → oS s k = 6 → oW s j = oW s k → j = k) ∧ (∀ j k m, j < nj → k < nj → m < 40 → oS s j = 6 → oS s k = 6 → E 1 12 (40 * j + m) = 1 → E 1 12 (40 * k + m) = 1 → j = k) ∧ (∀ j, j < nj → bgn (oS s j) = true → oB s j ≤ oM s) ∧ (∀ j, j < nj → oS s j ≠ 0 → oS s j ≠ 6 → oE s j ≤ oM s) ∧ oM s ≤ 1000000
