/-! THE MEANING, in numbers alone: fuel, bits, rows -/
theorem fu_pos {r : Nat} (h : r < 1000000000) : r < FU := Nat.lt_of_lt_of_le h (by unfold FU; decide)
/-- rows set as wholes -/
def sWI (S : Hp) (a : Nat) (f : Nat → Int32) : Hp := (S.1, S.2.1, fun b j => if b = a then f j else S.2.2.1 b j, S.2.2.2.1, S.2.2.2.2.1, S.2.2.2.2.2)
def sWJ (S : Hp) (a : Nat) (f : Nat → Int64) : Hp := (S.1, S.2.1, S.2.2.1, fun b j => if b = a then f j else S.2.2.2.1 b j, S.2.2.2.2.1, S.2.2.2.2.2)
def sWR (S : Hp) (a : Nat) (f : Nat → Option Nat) : Hp := (S.1, S.2.1, S.2.2.1, S.2.2.2.1, fun b j => if b = a then f j else S.2.2.2.2.1 b j, S.2.2.2.2.2)
theorem hK_sWI (S : Hp) (a : Nat) (f : Nat → Int32) (b : Nat) : hK (sWI S a f) b = hK S b := rfl
theorem hK_sWJ (S : Hp) (a : Nat) (f : Nat → Int64) (b : Nat) : hK (sWJ S a f) b = hK S b := rfl
theorem hK_sWR (S : Hp) (a : Nat) (f : Nat → Option Nat) (b : Nat) : hK (sWR S a f) b = hK S b := rfl
theorem hN_sWI (S : Hp) (a : Nat) (f : Nat → Int32) (b : Nat) : hN (sWI S a f) b = hN S b := rfl
theorem hN_sWJ (S : Hp) (a : Nat) (f : Nat → Int64) (b : Nat) : hN (sWJ S a f) b = hN S b := rfl
theorem hN_sWR (S : Hp) (a : Nat) (f : Nat → Option Nat) (b : Nat) : hN (sWR S a f) b = hN S b := rfl
theorem hI_sWI (S : Hp) (a : Nat) (f : Nat → Int32) (b j : Nat) : hI (sWI S a f) b j = if b = a then f j else hI S b j := rfl
theorem hI_sWJ (S : Hp) (a : Nat) (f : Nat → Int64) (b j : Nat) : hI (sWJ S a f) b j = hI S b j := rfl
theorem hI_sWR (S : Hp) (a : Nat) (f : Nat → Option Nat) (b j : Nat) : hI (sWR S a f) b j = hI S b j := rfl
theorem hJ_sWI (S : Hp) (a : Nat) (f : Nat → Int32) (b j : Nat) : hJ (sWI S a f) b j = hJ S b j := rfl
theorem hJ_sWJ (S : Hp) (a : Nat) (f : Nat → Int64) (b j : Nat) : hJ (sWJ S a f) b j = if b = a then f j else hJ S b j := rfl
theorem hJ_sWR (S : Hp) (a : Nat) (f : Nat → Option Nat) (b j : Nat) : hJ (sWR S a f) b j = hJ S b j := rfl
theorem hR_sWI (S : Hp) (a : Nat) (f : Nat → Int32) (b j : Nat) : hR (sWI S a f) b j = hR S b j := rfl
theorem hR_sWJ (S : Hp) (a : Nat) (f : Nat → Int64) (b j : Nat) : hR (sWJ S a f) b j = hR S b j := rfl
theorem hR_sWR (S : Hp) (a : Nat) (f : Nat → Option Nat) (b j : Nat) : hR (sWR S a f) b j = if b = a then f j else hR S b j := rfl
theorem hT_sWI (S : Hp) (a : Nat) (f : Nat → Int32) : hT (sWI S a f) = hT S := rfl
theorem hT_sWJ (S : Hp) (a : Nat) (f : Nat → Int64) : hT (sWJ S a f) = hT S := rfl
theorem hT_sWR (S : Hp) (a : Nat) (f : Nat → Option Nat) : hT (sWR S a f) = hT S := rfl
theorem sI_row (S : Hp) (a i : Nat) (v : Int32) : sI S a i v = sWI S a (fun j => if j = i then v else hI S a j) := by
  unfold sI sWI hI up2
  refine congrArg (fun z => (S.1, S.2.1, z, S.2.2.2.1, S.2.2.2.2.1, S.2.2.2.2.2)) ?_
  funext b j
  by_cases h : b = a
  · subst h; by_cases h2 : j = i <;> simp [h2]
  · simp [h]
theorem sJ_row (S : Hp) (a i : Nat) (v : Int64) : sJ S a i v = sWJ S a (fun j => if j = i then v else hJ S a j) := by
  unfold sJ sWJ hJ up2
  refine congrArg (fun z => (S.1, S.2.1, S.2.2.1, z, S.2.2.2.2.1, S.2.2.2.2.2)) ?_
  funext b j
  by_cases h : b = a
  · subst h; by_cases h2 : j = i <;> simp [h2]
  · simp [h]
theorem sR_row (S : Hp) (a i : Nat) (v : Option Nat) : sR S a i v = sWR S a (fun j => if j = i then v else hR S a j) := by
  unfold sR sWR hR up2
  refine congrArg (fun z => (S.1, S.2.1, S.2.2.1, S.2.2.2.1, z, S.2.2.2.2.2)) ?_
  funext b j
  by_cases h : b = a
  · subst h; by_cases h2 : j = i <;> simp [h2]
  · simp [h]
theorem sWI_sWI (S : Hp) (a : Nat) (f g : Nat → Int32) : sWI (sWI S a f) a g = sWI S a g := by
  unfold sWI
  refine congrArg (fun z => (S.1, S.2.1, z, S.2.2.2.1, S.2.2.2.2.1, S.2.2.2.2.2)) ?_
  funext b j
  by_cases h : b = a <;> simp [h]
theorem sWJ_sWJ (S : Hp) (a : Nat) (f g : Nat → Int64) : sWJ (sWJ S a f) a g = sWJ S a g := by
  unfold sWJ
  refine congrArg (fun z => (S.1, S.2.1, S.2.2.1, z, S.2.2.2.2.1, S.2.2.2.2.2)) ?_
  funext b j
  by_cases h : b = a <;> simp [h]
theorem sWR_sWR (S : Hp) (a : Nat) (f g : Nat → Option Nat) : sWR (sWR S a f) a g = sWR S a g := by
  unfold sWR
  refine congrArg (fun z => (S.1, S.2.1, S.2.2.1, S.2.2.2.1, z, S.2.2.2.2.2)) ?_
  funext b j
  by_cases h : b = a <;> simp [h]
theorem sWI_self (S : Hp) (a : Nat) (f : Nat → Int32) (h : ∀ j, f j = hI S a j) : sWI S a f = S := by
  unfold sWI
  have : (fun b j => if b = a then f j else S.2.2.1 b j) = S.2.2.1 := by
    funext b j
    by_cases e : b = a
    · subst e; simp [h]; rfl
    · simp [e]
  rw [this]
theorem sWJ_self (S : Hp) (a : Nat) (f : Nat → Int64) (h : ∀ j, f j = hJ S a j) : sWJ S a f = S := by
  unfold sWJ
  have : (fun b j => if b = a then f j else S.2.2.2.1 b j) = S.2.2.2.1 := by
    funext b j
    by_cases e : b = a
    · subst e; simp [h]; rfl
    · simp [e]
  rw [this]
theorem sWR_self (S : Hp) (a : Nat) (f : Nat → Option Nat) (h : ∀ j, f j = hR S a j) : sWR S a f = S := by
  unfold sWR
  have : (fun b j => if b = a then f j else S.2.2.2.2.1 b j) = S.2.2.2.2.1 := by
    funext b j
    by_cases e : b = a
    · subst e; simp [h]; rfl
    · simp [e]
  rw [this]
/-! bits of a long -/
def jb (w : Int64) (i : Nat) : Bool := w.toBitVec.getLsbD i
theorem jb_ext {x y : Int64} (h : ∀ i, i < 64 → jb x i = jb y i) : x = y := Int64.toBitVec_inj.mp (BitVec.eq_of_getLsbD_eq (fun i hi => h i hi))
theorem jb_or (x y : Int64) (i : Nat) : jb (x ||| y) i = (jb x i || jb y i) := by unfold jb; rw [Int64.toBitVec_or, BitVec.getLsbD_or]
theorem jb_and (x y : Int64) (i : Nat) : jb (x &&& y) i = (jb x i && jb y i) := by unfold jb; rw [Int64.toBitVec_and, BitVec.getLsbD_and]
theorem jb_xor (x y : Int64) (i : Nat) : jb (x ^^^ y) i = (jb x i ^^ jb y i) := by unfold jb; rw [Int64.toBitVec_xor, BitVec.getLsbD_xor]
theorem jb_0 (i : Nat) : jb 0 i = false := BitVec.getLsbD_zero
theorem jb_big {x : Int64} {i : Nat} (h : 64 ≤ i) : jb x i = false := BitVec.getLsbD_of_ge _ _ h
theorem jb_m1 : ∀ i, i < 64 → jb (-1) i = true := by decide +kernel
theorem jb_pw : ∀ k, k < 64 → ((1 : Int64) <<< ((nI k).toInt64 &&& 63)).toBitVec = BitVec.twoPow 64 k := by decide +kernel
theorem jb_one {k : Nat} (hk : k < 64) (i : Nat) : jb ((1 : Int64) <<< ((nI k).toInt64 &&& 63)) i = decide (i = k) := by
  unfold jb
  rw [jb_pw k hk, BitVec.getLsbD_twoPow]
  simp [hk, eq_comm]
theorem jb_eq0 {x : Int64} : x = 0 ↔ ∀ i, i < 64 → jb x i = false := ⟨fun h i _ => by rw [h, jb_0], fun h => jb_ext (fun i hi => by rw [h i hi, jb_0])⟩
theorem jb_test {x : Int64} {k : Nat} (hk : k < 64) : x &&& ((1 : Int64) <<< ((nI k).toInt64 &&& 63)) = 0 ↔ jb x k = false := by
  rw [jb_eq0]
  constructor
  · intro h
    have := h k hk
    rw [jb_and, jb_one hk] at this
    simpa using this
  · intro h i hi
    rw [jb_and, jb_one hk]
    by_cases e : i = k
    · subst e; simp [h]
    · simp [e]
theorem ix6 {k : Nat} (hk : k < 2 ^ 31) : nI k >>> ((6 : Int32) &&& 31) = nI (k / 64) := pk_shrN hk _ 6 (by decide)
theorem ix63 {k : Nat} (hk : k < 2 ^ 31) : nI k &&& (63 : Int32) = nI (k % 64) := pk_andN (k := 6) (by omega) (by decide)
/-! sets of jobs -/
def js (S : Hp) (w k : Nat) : Bool := jb (hJ S w (k / 64)) (k % 64)
def isJS (S : Hp) (a w : Nat) : Prop := hK S a = 7 ∧ hR S a 0 = some w ∧ hK S w = 16 ∧ hN S w = 4
theorem p_has {S : Hp} {a w k : Nat} {Q : Int32 → Hp → Prop} (h : isJS S a w) (hk : k < 200) (hq : Q (if js S w k = true then 1 else 0) S) : wp_X5_has S a (nI k) Q := by
  obtain ⟨h7, hw, h16, h4⟩ := h
  have hm : k % 64 < 64 := Nat.mod_lt _ (by decide)
  unfold wp_X5_has
  refine ⟨fun h => absurd h (nI_pos (by omega)), fun _ => ⟨fun h => absurd h (nI_ge (b := 200) hk (by decide)), fun _ => ⟨h7, w, hw, h16, ?_, ?_⟩⟩⟩
  · rw [ix6 (by omega), h4]; exact nI_in (by omega) (by decide)
  · rw [ix6 (by omega), ix63 (by omega), nI_clamp (by omega), jb_test hm]
    unfold js at hq
    refine ⟨fun h => ?_, fun h => ?_⟩
    · rw [h] at hq; exact hq
    · rw [Bool.not_eq_false] at h; rw [h] at hq; exact hq
theorem p_add {S : Hp} {a w k : Nat} {Q : Hp → Prop} (h : isJS S a w) (hk : k < 200) (hq : ∀ f, (∀ i, i < 200 → jb (f (i / 64)) (i % 64) = (js S w i || decide (i = k))) → Q (sWJ S w f)) : wp_X5_add S a (nI k) Q := by
  obtain ⟨h7, hw, h16, h4⟩ := h
  have hm : k % 64 < 64 := Nat.mod_lt _ (by decide)
  unfold wp_X5_add
  refine ⟨fun h => absurd h (nI_pos (by omega)), fun _ => ⟨fun h => absurd h (nI_ge (b := 200) hk (by decide)), fun _ => ⟨h7, w, hw, h16, ?_, ?_, ?_⟩⟩⟩
  · rw [ix6 (by omega), h4]; exact nI_in (by omega) (by decide)
  · rw [ix6 (by omega), h4]; exact nI_in (by omega) (by decide)
  · rw [ix6 (by omega), ix63 (by omega), nI_clamp (by omega), sJ_row]
    refine hq _ (fun i hi => ?_)
    unfold js
    by_cases e : i / 64 = k / 64
    · rw [if_pos e, jb_or, jb_one hm, e]
      congr 1
      simp only [decide_eq_decide]
      omega
    · rw [if_neg e]
      have : i ≠ k := fun z => e (by rw [z])
      simp [this]
theorem p_addAll_L {a w b w2 : Nat} {Q : Hp → Prop} {S0 : Hp} (h : isJS S0 a w) (h2 : isJS S0 b w2) (hq : ∀ f, (∀ i, i < 4 → f i = hJ S0 w i ||| hJ S0 w2 i) → Q (sWJ S0 w f)) : ∀ (r k n : Nat), k + r = 4 → r < n → wp_X5_addAll_L2 a (some b) Q n (sWJ S0 w (fun i => if i < k then hJ S0 w i ||| hJ S0 w2 i else hJ S0 w i)) (nI k) := by
  intro r
  induction r with
  | zero =>
    intro k n hk hn
    obtain ⟨n, rfl⟩ : ∃ m, n = m + 1 := ⟨n - 1, by omega⟩
    obtain rfl : k = 4 := by omega
    rw [wp_X5_addAll_L2]
    refine ⟨fun _ => hq _ (fun i hi => if_pos hi), fun h => absurd (nI_le (a := 4) (b := 4) (Nat.le_refl 4) (by decide)) h⟩
  | succ r ih =>
    intro k n hk hn
    obtain ⟨n, rfl⟩ : ∃ m, n = m + 1 := ⟨n - 1, by omega⟩
    rw [wp_X5_addAll_L2]
    refine ⟨fun h => absurd h (nI_ge (b := 4) (by omega) (by decide)), fun _ => ⟨h.1, w, h.2.1, h.2.2.1, ?_, b, rfl, h2.1, w2, h2.2.1, h2.2.2.1, ?_, ?_, ?_⟩⟩
    · rw [hN_sWJ, h.2.2.2]; exact nI_in (by omega) (by decide)
    · rw [hN_sWJ, h2.2.2.2]; exact nI_in (by omega) (by decide)
    · rw [hN_sWJ, h.2.2.2]; exact nI_in (by omega) (by decide)
    · rw [nI_clamp (by omega), nI_1, sJ_row, sWJ_sWJ]
      have e : (fun j => if j = k then hJ (sWJ S0 w fun i => if i < k then hJ S0 w i ||| hJ S0 w2 i else hJ S0 w i) w k ||| hJ (sWJ S0 w fun i => if i < k then hJ S0 w i ||| hJ S0 w2 i else hJ S0 w i) w2 k else hJ (sWJ S0 w fun i => if i < k then hJ S0 w i ||| hJ S0 w2 i else hJ S0 w i) w j) = (fun i => if i < k + 1 then hJ S0 w i ||| hJ S0 w2 i else hJ S0 w i) := by
        funext j
        simp only [hJ_sWJ, if_true]
        by_cases e1 : j = k
        · subst e1
          have : j < j + 1 := by omega
          simp only [if_true, Nat.lt_irrefl, if_false, this]
          by_cases e2 : w2 = w
          · simp [e2]
          · simp [e2]
        · by_cases e3 : j < k
          · have : j < k + 1 := by omega
            simp [e1, e3, this]
          · have : ¬ j < k + 1 := by omega
            simp [e1, e3, this]
      rw [e]
      exact ih (k + 1) n (by omega) (by omega)
theorem p_addAll {S : Hp} {a w b w2 : Nat} {Q : Hp → Prop} (h : isJS S a w) (h2 : isJS S b w2) (hq : ∀ f, (∀ i, i < 200 → jb (f (i / 64)) (i % 64) = (js S w i || js S w2 i)) → Q (sWJ S w f)) : wp_X5_addAll S a (some b) Q := by
  have := p_addAll_L (Q := Q) h h2 (fun f hf => hq f (fun i hi => by rw [hf _ (by omega), jb_or]; rfl)) 4 0 FU rfl (fu_pos (by decide))
  rw [sWJ_self S w _ (fun j => by simp)] at this
  exact this
theorem p_meets_L {S : Hp} {a w b w2 : Nat} {Q : Int32 → Hp → Prop} (h : isJS S a w) (h2 : isJS S b w2) (hq1 : (∃ i, i < 256 ∧ js S w i = true ∧ js S w2 i = true) → Q 1 S) (hq0 : (¬ ∃ i, i < 256 ∧ js S w i = true ∧ js S w2 i = true) → Q 0 S) : ∀ (r k n : Nat), k + r = 4 → r < n → (∀ i, i < k → hJ S w i &&& hJ S w2 i = 0) → wp_X5_meets_L2 S a (some b) Q n (nI k) := by
  intro r
  induction r with
  | zero =>
    intro k n hk hn hz
    obtain ⟨n, rfl⟩ : ∃ m, n = m + 1 := ⟨n - 1, by omega⟩
    obtain rfl : k = 4 := by omega
    rw [wp_X5_meets_L2]
    refine ⟨fun _ => ?_, fun h => absurd (nI_le (a := 4) (b := 4) (Nat.le_refl 4) (by decide)) h⟩
    refine hq0 ?_
    · rintro ⟨i, hi, g1, g2⟩
      have := jb_eq0.mp (hz (i / 64) (by omega)) (i % 64) (by omega)
      rw [jb_and] at this
      unfold js at g1 g2
      rw [g1, g2] at this
      cases this
  | succ r ih =>
    intro k n hk hn hz
    obtain ⟨n, rfl⟩ : ∃ m, n = m + 1 := ⟨n - 1, by omega⟩
    rw [wp_X5_meets_L2]
    refine ⟨fun h => absurd h (nI_ge (b := 4) (by omega) (by decide)), fun _ => ⟨h.1, w, h.2.1, h.2.2.1, ?_, b, rfl, h2.1, w2, h2.2.1, h2.2.2.1, ?_, fun e => ?_, fun e => ?_⟩⟩
    · rw [h.2.2.2]; exact nI_in (by omega) (by decide)
    · rw [h2.2.2.2]; exact nI_in (by omega) (by decide)
    · rw [nI_1]
      rw [nI_clamp (by omega)] at e
      refine ih (k + 1) n (by omega) (by omega) (fun i hi => ?_)
      by_cases z : i = k
      · rw [z]; exact e
      · exact hz i (by omega)
    · rw [nI_clamp (by omega)] at e
      refine hq1 ?_
      · by_cases z : ∃ i, i < 64 ∧ jb (hJ S w k &&& hJ S w2 k) i = true
        · obtain ⟨i, hi, z⟩ := z
          rw [jb_and, Bool.and_eq_true] at z
          refine ⟨64 * k + i, by omega, ?_, ?_⟩
          · unfold js
            rw [show (64 * k + i) / 64 = k by omega, show (64 * k + i) % 64 = i by omega]
            exact z.1
          · unfold js
            rw [show (64 * k + i) / 64 = k by omega, show (64 * k + i) % 64 = i by omega]
            exact z.2
        · exact absurd (jb_eq0.mpr (fun i hi => by
            cases g : jb (hJ S w k &&& hJ S w2 k) i with
            | false => rfl
            | true => exact absurd ⟨i, hi, g⟩ z)) e
theorem p_meets {S : Hp} {a w b w2 : Nat} {Q : Int32 → Hp → Prop} (h : isJS S a w) (h2 : isJS S b w2) (hq1 : (∃ i, i < 256 ∧ js S w i = true ∧ js S w2 i = true) → Q 1 S) (hq0 : (¬ ∃ i, i < 256 ∧ js S w i = true ∧ js S w2 i = true) → Q 0 S) : wp_X5_meets S a (some b) Q :=
  p_meets_L h h2 hq1 hq0 4 0 FU rfl (fu_pos (by decide)) (fun i hi => absurd hi (Nat.not_lt_zero i))
theorem p_clear_L {a w : Nat} {Q : Hp → Prop} {S0 : Hp} (h : isJS S0 a w) (hq : ∀ f, (∀ i, i < 4 → f i = 0) → Q (sWJ S0 w f)) : ∀ (r k n : Nat), k + r = 4 → r < n → wp_X5_clear_L2 a Q n (sWJ S0 w (fun i => if i < k then 0 else hJ S0 w i)) (nI k) := by
  intro r
  induction r with
  | zero =>
    intro k n hk hn
    obtain ⟨n, rfl⟩ : ∃ m, n = m + 1 := ⟨n - 1, by omega⟩
    obtain rfl : k = 4 := by omega
    rw [wp_X5_clear_L2]
    exact ⟨fun _ => hq _ (fun i hi => if_pos hi), fun h => absurd (nI_le (a := 4) (b := 4) (Nat.le_refl 4) (by decide)) h⟩
  | succ r ih =>
    intro k n hk hn
    obtain ⟨n, rfl⟩ : ∃ m, n = m + 1 := ⟨n - 1, by omega⟩
    rw [wp_X5_clear_L2]
    refine ⟨fun h => absurd h (nI_ge (b := 4) (by omega) (by decide)), fun _ => ⟨h.1, w, h.2.1, h.2.2.1, ?_, ?_⟩⟩
    · rw [hN_sWJ, h.2.2.2]; exact nI_in (by omega) (by decide)
    · rw [nI_clamp (by omega), nI_1, sJ_row, sWJ_sWJ]
      have e : (fun j => if j = k then (0 : Int64) else hJ (sWJ S0 w fun i => if i < k then 0 else hJ S0 w i) w j) = (fun i => if i < k + 1 then 0 else hJ S0 w i) := by
        funext j
        simp only [hJ_sWJ, if_true]
        by_cases e1 : j = k
        · have : j < k + 1 := by omega
          simp [e1]
        · by_cases e3 : j < k
          · have : j < k + 1 := by omega
            simp [e3, this]
          · have : ¬ j < k + 1 := by omega
            simp [e1, e3, this]
      rw [e]
      exact ih (k + 1) n (by omega) (by omega)
theorem p_clear {S : Hp} {a w : Nat} {Q : Hp → Prop} (h : isJS S a w) (hq : ∀ f, (∀ i, i < 256 → jb (f (i / 64)) (i % 64) = false) → Q (sWJ S w f)) : wp_X5_clear S a Q := by
  have := p_clear_L (Q := Q) h (fun f hf => hq f (fun i hi => by rw [hf _ (by omega), jb_0])) 4 0 FU rfl (fu_pos (by decide))
  rw [sWJ_self S w _ (fun j => by simp)] at this
  exact this
