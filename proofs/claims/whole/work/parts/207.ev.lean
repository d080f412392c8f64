/-! the log's keys -/
def isEv (S : Hp) (a w : Nat) : Prop := hK S a = 5 ∧ hR S a 0 = some w ∧ hK S w = 16 ∧ hN S w = 400
def evR (S : Hp) (a w n : Nat) (ky : Nat → Nat) : Prop := hI S a 1 = nI n ∧ n ≤ 400 ∧ (∀ i, i < n → hJ S w i = lN (ky i) ∧ ky i < 2 ^ 62) ∧ ∀ i j, i < j → j < n → ky i < ky j
def evF (n : Nat) (f : Nat → Int64) (ky : Nat → Nat) : Prop := n ≤ 400 ∧ (∀ i, i < n → f i = lN (ky i) ∧ ky i < 2 ^ 62) ∧ ∀ i j, i < j → j < n → ky i < ky j
def ekey (m k j : Nat) : Nat := (m * 8 + k) * 256 + j
theorem lN_le62 {a b : Nat} (ha : a < 2 ^ 62) (hb : b < 2 ^ 62) : lN a ≤ lN b ↔ a ≤ b := by
  unfold lN
  rw [Int64.le_iff_toInt_le, lg_ofNat_toInt (by omega), lg_ofNat_toInt (by omega)]
  omega
theorem ev_key {m k j : Nat} (hm : m < 2 ^ 30) (hk : k < 8) (hj : j < 256) : ((((nI m).toInt64 <<< ((3 : Int32).toInt64 &&& 63)) ||| (nI k).toInt64) <<< ((8 : Int32).toInt64 &&& 63)) ||| (nI j).toInt64 = lN (ekey m k j) := by
  rw [nI_l (by omega), nI_l (by omega), nI_l (by omega), show (3 : Int32) = nI 3 from rfl, show (8 : Int32) = nI 8 from rfl, wb_shl m (by decide : 3 < 64), show m * 2 ^ 3 = m * 8 by omega, g_or (k := 3) (p := 8) (by decide) hk (by omega), wb_shl _ (by decide : 8 < 64), show (m * 8 + k) * 2 ^ 8 = (m * 8 + k) * 256 by omega, g_or (k := 8) (p := 256) (by decide) hj (by omega)]
  rfl
theorem ekey_lt {m k j : Nat} (hm : m < 2 ^ 30) (hk : k < 8) (hj : j < 256) : ekey m k j < 2 ^ 62 := by unfold ekey; omega
theorem p_evput_L {S : Hp} {a w n key : Nat} {ky : Nat → Nat} {K : Hp → Int32 → Prop} {Q : Hp → Prop} (h : isEv S a w) (hr : evR S a w n ky) (hn : n < 400) (hk : key < 2 ^ 62) (hf : ∀ i, i < n → ky i ≠ key)
    (hq : ∀ t, t ≤ n → (∀ i, i < t → ky i < key) → (∀ i, t ≤ i → i < n → key < ky i) → K (sWJ S w (fun i => if t < i ∧ i ≤ n then hJ S w (i - 1) else hJ S w i)) (nI t)) :
    ∀ (t f : Nat), t ≤ n → t < f → (∀ i, t ≤ i → i < n → key < ky i) → wp_X3_put_L32 a (lN key) K Q f (sWJ S w (fun i => if t < i ∧ i ≤ n then hJ S w (i - 1) else hJ S w i)) (nI t) := by
  obtain ⟨r1, r2, r3, r4⟩ := hr
  intro t
  induction t with
  | zero =>
    intro f _ hf2 hz
    obtain ⟨f, rfl⟩ : ∃ m, f = m + 1 := ⟨f - 1, by omega⟩
    rw [wp_X3_put_L32]
    exact ⟨fun _ => hq 0 (by omega) (fun i hi => absurd hi (Nat.not_lt_zero i)) hz, fun g => absurd (nI_le (a := 0) (b := 0) (Nat.le_refl 0) (by decide)) g⟩
  | succ t ih =>
    intro f ht hf2 hz
    obtain ⟨f, rfl⟩ : ∃ m, f = m + 1 := ⟨f - 1, by omega⟩
    rw [wp_X3_put_L32, nI_pred]
    have hc : (nI t).toNatClampNeg = t := nI_clamp (by omega)
    have e1 : hJ (sWJ S w (fun i => if t + 1 < i ∧ i ≤ n then hJ S w (i - 1) else hJ S w i)) w t = lN (ky t) := by
      rw [hJ_sWJ, if_pos rfl, if_neg (by omega)]; exact (r3 t (by omega)).1
    refine ⟨fun g => absurd g (nI_nle (by omega) (by omega)), fun _ => ⟨h.1, w, h.2.1, h.2.2.1, ?_, fun g => ?_, fun g => ⟨?_, ?_, ?_⟩⟩⟩
    · rw [hN_sWJ, h.2.2.2]; exact nI_in (by omega) (by decide)
    · rw [hc, e1, lN_le62 (r3 t (by omega)).2 hk] at g
      refine hq (t + 1) ht (fun i hi => ?_) hz
      have g2 := hf t (by omega)
      by_cases z : i = t
      · rw [z]; omega
      · have := r4 i t (by omega) (by omega); omega
    · rw [hN_sWJ, h.2.2.2]; exact nI_in (by omega) (by decide)
    · rw [hN_sWJ, h.2.2.2]; exact nI_in (by omega) (by decide)
    · rw [hc, e1, lN_le62 (r3 t (by omega)).2 hk] at g
      rw [hc, e1, nI_clamp (n := t + 1) (by omega), pk_m1, sJ_row, sWJ_sWJ]
      have e : (fun j => if j = t + 1 then lN (ky t) else hJ (sWJ S w (fun i => if t + 1 < i ∧ i ≤ n then hJ S w (i - 1) else hJ S w i)) w j) = (fun i => if t < i ∧ i ≤ n then hJ S w (i - 1) else hJ S w i) := by
        funext j
        rw [hJ_sWJ, if_pos rfl]
        by_cases z : j = t + 1
        · subst z
          rw [if_pos rfl, if_pos (by omega)]
          exact (r3 t (by omega)).1.symm
        · rw [if_neg z]
          by_cases z2 : t + 1 < j ∧ j ≤ n
          · rw [if_pos z2, if_pos (by omega)]
          · rw [if_neg z2, if_neg (by omega)]
      rw [e]
      refine ih f (by omega) (by omega) (fun i hi hi2 => ?_)
      by_cases z : i = t
      · rw [z]; omega
      · exact hz i (by omega) hi2
theorem p_evput {S : Hp} {a w n m k j : Nat} {ky : Nat → Nat} {Q : Hp → Prop} (h : isEv S a w) (hr : evR S a w n ky) (hn : n < 400) (hm : m < 2 ^ 30) (hk : k < 8) (hj : j < 256) (hf : ∀ i, i < n → ky i ≠ ekey m k j)
    (hq : ∀ f ky', evF (n + 1) f ky' → (∀ z, (∃ i, i < n + 1 ∧ ky' i = z) ↔ (z = ekey m k j ∨ ∃ i, i < n ∧ ky i = z)) → Q (sI (sWJ S w f) a 1 (nI (n + 1)))) : wp_X3_put S a (nI m) (nI k) (nI j) Q := by
  have hky := ekey_lt hm hk hj
  have haw : a ≠ w := fun z => by
    have h1 := h.1; have h2 := h.2.2.1
    rw [z, h2] at h1; exact absurd h1 (by decide)
  unfold wp_X3_put
  refine ⟨h.1, fun _ z hz x hx => ?_, fun g => absurd (by rw [hr.1]; exact nI_lt (b := 400) hn (by decide)) g⟩
  rw [ev_key hm hk hj] at hz
  rw [hz, hx, hr.1]
  have hS : S = sWJ S w (fun i => if n < i ∧ i ≤ n then hJ S w (i - 1) else hJ S w i) := (sWJ_self S w _ (fun i => if_neg (by omega))).symm
  rw [hS]
  refine p_evput_L h hr hn hky hf (fun t ht h1 h2 => ?_) n FU (Nat.le_refl n) (fu_pos (by omega)) (fun i hi hi2 => by omega)
  refine ⟨h.1, w, h.2.1, h.2.2.1, ?_, ?_⟩
  · rw [hN_sWJ, h.2.2.2]; exact nI_in (by omega) (by decide)
  · obtain ⟨r1, r2, r3, r4⟩ := hr
    rw [nI_clamp (by omega), sJ_row, sWJ_sWJ]
    rw [hI_sWJ, r1, nI_1]
    refine hq _ (fun i => if i < t then ky i else if i = t then ekey m k j else ky (i - 1)) ⟨hn, fun i hi => ?_, fun i i2 hi hi2 => ?_⟩ (fun z => ?_)
    · dsimp only
      rw [hJ_sWJ, if_pos rfl]
      by_cases z : i = t
      · rw [if_pos z, if_neg (by omega), if_pos z]; exact ⟨rfl, hky⟩
      · rw [if_neg z]
        by_cases z2 : i < t
        · rw [if_neg (by omega), if_pos z2]; exact r3 i (by omega)
        · rw [if_pos (by omega), if_neg z2, if_neg z]; exact r3 (i - 1) (by omega)
    · dsimp only
      by_cases z : i < t
      · rw [if_pos z]
        by_cases z2 : i2 < t
        · rw [if_pos z2]; exact r4 i i2 hi (by omega)
        · rw [if_neg z2]
          by_cases z3 : i2 = t
          · rw [if_pos z3]; exact h1 i z
          · rw [if_neg z3]
            have a1 := h1 i z
            have a2 := h2 (i2 - 1) (by omega) (by omega)
            omega
      · rw [if_neg z, if_neg (by omega : ¬ i2 < t), if_neg (by omega : ¬ i2 = t)]
        by_cases z3 : i = t
        · rw [if_pos z3]; exact h2 (i2 - 1) (by omega) (by omega)
        · rw [if_neg z3]; exact r4 (i - 1) (i2 - 1) (by omega) (by omega)
    · constructor
      · rintro ⟨i, hi, e⟩
        by_cases z1 : i < t
        · rw [if_pos z1] at e; exact Or.inr ⟨i, by omega, e⟩
        · rw [if_neg z1] at e
          by_cases z2 : i = t
          · rw [if_pos z2] at e; exact Or.inl e.symm
          · rw [if_neg z2] at e; exact Or.inr ⟨i - 1, by omega, e⟩
      · rintro (e | ⟨i, hi, e⟩)
        · exact ⟨t, by omega, by rw [if_neg (by omega), if_pos rfl]; exact e.symm⟩
        · by_cases z1 : i < t
          · exact ⟨i, by omega, by rw [if_pos z1]; exact e⟩
          · exact ⟨i + 1, by omega, by rw [if_neg (by omega), if_neg (by omega)]; exact e⟩
