/-- the reference's log: n events with the keys ky, which are Z's -/
def eT (n : Nat) (ky : Nat → Nat) (Z : Nat → Prop) (I : FI) : Prop := (∀ i, i < n → ∃ m k j, m < 2 ^ 30 ∧ k < 8 ∧ j < 256 ∧ ky i = ekey m k j ∧ I 1 36 i = nI m ∧ I 1 37 i = nI j ∧ I 1 38 i = nI k) ∧ (∀ i i', i < n → i' < n → ky i = ky i' → i = i') ∧ ∀ z, (∃ i, i < n ∧ ky i = z) ↔ Z z
section SO
variable {A : Nat → Nat → Nat} {B : Nat → Nat × Nat} {S : Hp} {nc nw nm nj : Nat} {cw jc : Nat → Nat} {I : FI} {J : FJ} {R : FR} {xs : Nat → Int32} {L : Nat} {l4 : Int32}
variable {E K : FI} {L' : FJ} {od : Nat → Nat} {s : Rs} {n : Nat} {ky : Nat → Nat} {Z : Nat → Prop} {Q : Int32 → Hp → Prop}
theorem p_ahe {a b : Nat} (h : Sh A B S nj nc) (he : eT n ky Z I) (hn : n ≤ 600) (ha : a < n) (hb : b < n) (hQ1 : ky a < ky b → Q 1 (hq A B S I J R)) (hQ0 : ¬ ky a < ky b → Q 0 (hq A B S I J R)) : wp_X12_isAhead (hq A B S I J R) (A 0 23) (nI a) (nI b) Q := by
  obtain ⟨m, k, j, a1, a2, a3, a4, a5, a6, a7⟩ := he.1 a ha
  obtain ⟨m', k', j', b1, b2, b3, b4, b5, b6, b7⟩ := he.1 b hb
  have em : nI m = nI m' ↔ m = m' := nI_eq (by omega) (by omega)
  have ek : nI k = nI k' ↔ k = k' := nI_eq (by omega) (by omega)
  have lm : nI m' ≤ nI m ↔ m' ≤ m := nI_leI (by omega) (by omega)
  have lk : nI k' ≤ nI k ↔ k' ≤ k := nI_leI (by omega) (by omega)
  have lj : nI j' ≤ nI j ↔ j' ≤ j := nI_leI (by omega) (by omega)
  unfold wp_X12_isAhead
  simp only [fr_23 h, fm_36 h, fm_37 h, fm_38 h, hi_q h, hj_q h, si_q h, sj_q h, vv_5 h, vs_5 h, vv_7 h, vs_7 h, vv_8 h, vs_8 h, vv_9 h, vs_9 h, vv_11 h, vs_11 h, vv_17 h, vs_17 h, vv_18 h, vs_18 h, vj_3 h, vj_4 h, vj_5 h, ex_some, ex_def, all_def, true_and, and_true, Nat.reduceLT, exists_eq_left, Option.some.injEq, exists_eq_left', nI_clamp (show a < 2 ^ 31 by omega), vin (show a < 600 by omega) (show 600 < 2 ^ 31 by decide), nI_clamp (show b < 2 ^ 31 by omega), vin (show b < 600 by omega) (show 600 < 2 ^ 31 by decide), a5, a6, a7, b5, b6, b7, em, ek, lm, lk, lj]
  rw [a4, b4] at hQ1 hQ0
  unfold ekey at hQ1 hQ0
  refine ⟨fun z1 => ⟨fun z2 => ⟨fun z3 => hQ0 (by omega), fun z3 => hQ1 (by omega)⟩, fun z2 => ⟨fun z3 => hQ0 (by omega), fun z3 => hQ1 (by omega)⟩⟩, fun z1 => ⟨fun z3 => hQ0 (by omega), fun z3 => hQ1 (by omega)⟩⟩
/-- two places of a row change places -/
def sw2 {α : Type} (f : Nat → α) (a b : Nat) : Nat → α := fun i => if i = a then f b else if i = b then f a else f i
theorem p_swp {Q : Hp → Prop} {P : FI → Prop} (hP : ∀ I r p v, (r = 36 ∨ r = 37 ∨ r = 38) → P I → P (up3 I 1 r p v)) {a b : Nat} (hm : mx A B S nc nw nm nj cw jc od E K L' I J R) (hp : P I) (he : eT n ky Z I) (hn : n ≤ 600) (ha : a < n) (hb : b < n) (hab : a ≠ b) (hQ : ∀ I', mx A B S nc nw nm nj cw jc od E K L' I' J R → P I' → eT n (sw2 ky a b) Z I' → Q (hq A B S I' J R)) : wp_X12_swaps (hq A B S I J R) (A 0 23) (nI a) (nI b) Q := by
  have h := hm.1
  unfold wp_X12_swaps
  simp only [fr_23 h, fm_36 h, fm_37 h, fm_38 h, hi_q h, hj_q h, si_q h, sj_q h, vv_5 h, vs_5 h, vv_7 h, vs_7 h, vv_8 h, vs_8 h, vv_9 h, vs_9 h, vv_11 h, vs_11 h, vv_17 h, vs_17 h, vv_18 h, vs_18 h, vj_3 h, vj_4 h, vj_5 h, ex_some, ex_def, all_def, true_and, and_true, Nat.reduceLT, exists_eq_left, Option.some.injEq, exists_eq_left', nI_clamp (show a < 2 ^ 31 by omega), vin (show a < 600 by omega) (show 600 < 2 ^ 31 by decide), nI_clamp (show b < 2 ^ 31 by omega), vin (show b < 600 by omega) (show 600 < 2 ^ 31 by decide)]
  obtain ⟨e1, e2, e3⟩ := he
  refine hQ _ ((((((hm.up rfl).up rfl).up rfl).up rfl).up rfl).up rfl) (hP _ _ _ _ (by decide) (hP _ _ _ _ (by decide) (hP _ _ _ _ (by decide) (hP _ _ _ _ (by decide) (hP _ _ _ _ (by decide) (hP _ _ _ _ (by decide) hp)))))) ⟨fun i hi => ?_, fun i i' hi hi' e => ?_, fun z => ?_⟩
  · unfold sw2
    by_cases q : i = a
    · obtain ⟨m, k, j, c1, c2, c3, c4, c5, c6, c7⟩ := e1 b hb
      subst q
      refine ⟨m, k, j, c1, c2, c3, by simp [c4], ?_, ?_, ?_⟩
      · simp [up3, hab, c5]
      · simp [up3, hab, c6]
      · simp [up3, hab, c7]
    · by_cases q2 : i = b
      · obtain ⟨m, k, j, c1, c2, c3, c4, c5, c6, c7⟩ := e1 a ha
        subst q2
        refine ⟨m, k, j, c1, c2, c3, by simp [q, c4], ?_, ?_, ?_⟩
        · simp [up3, c5]
        · simp [up3, c6]
        · simp [up3, c7]
      · obtain ⟨m, k, j, c1, c2, c3, c4, c5, c6, c7⟩ := e1 i hi
        refine ⟨m, k, j, c1, c2, c3, by simp [q, q2, c4], ?_, ?_, ?_⟩
        · simp [up3, q, q2, c5]
        · simp [up3, q, q2, c6]
        · simp [up3, q, q2, c7]
  · have pa : ∀ i, i < n → ∃ i2, i2 < n ∧ sw2 ky a b i = ky i2 ∧ (i2 = if i = a then b else if i = b then a else i) := fun i hi => by
      unfold sw2
      by_cases q : i = a
      · exact ⟨b, hb, by simp [q], by simp [q]⟩
      · by_cases q2 : i = b
        · exact ⟨a, ha, by simp [q2, Ne.symm hab], by simp [q2, Ne.symm hab]⟩
        · exact ⟨i, hi, by simp [q, q2], by simp [q, q2]⟩
    obtain ⟨x, x1, x2, x3⟩ := pa i hi
    obtain ⟨y, y1, y2, y3⟩ := pa i' hi'
    have := e2 x y x1 y1 (by rw [← x2, ← y2]; exact e)
    rw [x3, y3] at this
    revert this
    repeat' split
    all_goals
      intro this
      omega
  · rw [← e3]
    unfold sw2
    constructor
    · rintro ⟨i, hi, e⟩
      by_cases q : i = a
      · exact ⟨b, hb, by simpa [q] using e⟩
      · by_cases q2 : i = b
        · exact ⟨a, ha, by simpa [q2, Ne.symm hab] using e⟩
        · exact ⟨i, hi, by simpa [q, q2] using e⟩
    · rintro ⟨i, hi, e⟩
      by_cases q : i = a
      · exact ⟨b, hb, by simpa [Ne.symm hab, q] using e⟩
      · by_cases q2 : i = b
        · exact ⟨a, ha, by simpa [q2] using e⟩
        · exact ⟨i, hi, by simpa [q, q2] using e⟩
theorem nI_m1 (b : Nat) : nI (b + 1) + (-1) = nI b := by
  have := nI_p1 b
  rw [← this]; grind
theorem p_srt49 {P : FI → Prop} (hP : ∀ I r p v, (r = 36 ∨ r = 37 ∨ r = 38) → P I → P (up3 I 1 r p v)) {a : Nat} {l2 : Int32} {K2 : Hp → Prop} (hn : n ≤ 600) (ha : a < n) (hK : ∀ I' ky', mx A B S nc nw nm nj cw jc od E K L' I' J R → P I' → eT n ky' Z I' → (∀ i i', i < i' → i' < a + 1 → ky' i < ky' i') → K2 (hq A B S I' J R)) : ∀ (b fu : Nat) (I : FI) (ky : Nat → Nat), b ≤ a → b < fu → mx A B S nc nw nm nj cw jc od E K L' I J R → P I → eT n ky Z I → (∀ i i', i < i' → i' ≤ a → i' ≠ b → ky i < ky i') → wp_X12_run_L49 (A 0 23) l2 K2 Q fu (hq A B S I J R) (nI b) := by
  intro b
  induction b with
  | zero =>
    intro fu I ky hb hf hm hp he hs
    obtain ⟨fu, rfl⟩ : ∃ z, fu = z + 1 := ⟨fu - 1, by omega⟩
    rw [wp_X12_run_L49]
    exact ⟨fun _ => hK I ky hm hp he (fun i i' x y => hs i i' x (by omega) (by omega)), fun z => absurd (by decide) z⟩
  | succ b ih =>
    intro fu I ky hb hf hm hp he hs
    obtain ⟨fu, rfl⟩ : ∃ z, fu = z + 1 := ⟨fu - 1, by omega⟩
    have h := hm.1
    have e0 : ¬ nI (b + 1) ≤ 0 := by rw [show (0 : Int32) = nI 0 from rfl, nI_leI (by omega) (by decide)]; omega
    rw [wp_X12_run_L49]
    refine ⟨fun z => absurd z e0, fun _ => ⟨fr_23 h _ _ _, ?_⟩⟩
    rw [nI_p1, nI_m1]
    refine p_ahe h he hn (by omega) (by omega) (fun z => ⟨fun q => absurd q (by decide), fun _ => ⟨fr_23 h _ _ _, p_swp hP hm hp he hn (by omega) (by omega) (by omega) (fun I' m' p' e' => ih fu I' _ (by omega) (by omega) m' p' e' (fun i i' x y w => ?_))⟩⟩) (fun z => ⟨fun _ => hK I ky hm hp he (fun i i' x y => ?_), fun q => absurd rfl q⟩)
    · unfold sw2
      by_cases q1 : i' = b + 1
      · by_cases q2 : i = b
        · simp only [q1, q2, if_true, if_neg (show ¬ b = b + 1 by omega)]; exact z
        · simp only [q1, q2, if_true, if_false, if_neg (show ¬ i = b + 1 by omega)]; exact hs i b (by omega) (by omega) (by omega)
      · simp only [q1, w, if_false]
        by_cases q2 : i = b + 1
        · simp only [q2, if_true]; exact hs b i' (by omega) y q1
        · by_cases q3 : i = b
          · simp only [q3, if_true, if_neg (show ¬ b = b + 1 by omega)]; exact hs (b + 1) i' (by omega) y q1
          · simp only [q2, q3, if_false]; exact hs i i' x y q1
    · have ne : ky b ≠ ky (b + 1) := fun e => by have := he.2.1 b (b + 1) (by omega) (by omega) e; omega
      have lt : ky b < ky (b + 1) := by omega
      by_cases q1 : i' = b + 1
      · rw [q1]
        by_cases q2 : i = b
        · rw [q2]; exact lt
        · have := hs i b (by omega) (by omega) (by omega); omega
      · exact hs i i' x (by omega) q1
theorem p_srt39 {P : FI → Prop} (hP : ∀ I r p v, (r = 36 ∨ r = 37 ∨ r = 38) → P I → P (up3 I 1 r p v)) (h25 : ∀ I, P I → I 0 23 25 = nI n) (hn : n ≤ 600) (hQ : ∀ I' ky', mx A B S nc nw nm nj cw jc od E K L' I' J R → P I' → eT n ky' Z I' → (∀ i i', i < i' → i' < n → ky' i < ky' i') → Q (I' 0 23 23) (hq A B S I' J R)) : ∀ (r a fu : Nat) (I : FI) (ky : Nat → Nat), a + r = n → r < fu → mx A B S nc nw nm nj cw jc od E K L' I J R → P I → eT n ky Z I → (∀ i i', i < i' → i' < a → ky i < ky i') → wp_X12_run_L39 (A 0 23) Q fu (hq A B S I J R) (nI a) := by
  intro r
  induction r with
  | zero =>
    intro a fu I ky hr hf hm hp he hs
    obtain ⟨fu, rfl⟩ : ∃ z, fu = z + 1 := ⟨fu - 1, by omega⟩
    have h := hm.1
    have : a = n := by omega
    subst this
    rw [wp_X12_run_L39]
    simp only [fr_23 h, hi_q h, hj_q h, si_q h, sj_q h, vv_5 h, vs_5 h, vv_7 h, vs_7 h, vv_8 h, vs_8 h, vv_9 h, vs_9 h, vv_11 h, vs_11 h, vv_17 h, vs_17 h, vv_18 h, vs_18 h, vj_3 h, vj_4 h, vj_5 h, ex_some, ex_def, all_def, true_and, and_true, Nat.reduceLT, h25 I hp]
    exact ⟨fun _ => hQ I ky hm hp he hs, fun z => absurd (Int32.le_refl _) z⟩
  | succ r ih =>
    intro a fu I ky hr hf hm hp he hs
    obtain ⟨fu, rfl⟩ : ∃ z, fu = z + 1 := ⟨fu - 1, by omega⟩
    have h := hm.1
    have e0 : ¬ nI n ≤ nI a := by rw [nI_leI (by omega) (by omega)]; omega
    rw [wp_X12_run_L39]
    simp only [fr_23 h, hi_q h, hj_q h, si_q h, sj_q h, vv_5 h, vs_5 h, vv_7 h, vs_7 h, vv_8 h, vs_8 h, vv_9 h, vs_9 h, vv_11 h, vs_11 h, vv_17 h, vs_17 h, vv_18 h, vs_18 h, vj_3 h, vj_4 h, vj_5 h, ex_some, ex_def, all_def, true_and, and_true, Nat.reduceLT, h25 I hp, e0, not_false_eq_true, true_implies, not_true_eq_false, false_implies, true_and, and_true, false_and, and_false, forall_const, imp_self, implies_true, if_true, if_false, eq_self, Bool.true_eq_false, Bool.false_eq_true, false_or, or_false, true_or, or_true, ← nI_succ]
    exact p_srt49 hP hn (by omega) (fun I' ky' m' p' e' s' => ih (a + 1) fu I' ky' (by omega) (by omega) m' p' e' s') a FU I ky (Nat.le_refl _) (by unfold FU; omega) hm hp he (fun i i' x y w => hs i i' x (by omega))
end SO
/-- rows that grow and name the same are the same -/
theorem srt_eq {f g : Nat → Nat} : ∀ {n : Nat}, (∀ i j, i < j → j < n → f i < f j) → (∀ i j, i < j → j < n → g i < g j) → (∀ z, (∃ i, i < n ∧ f i = z) ↔ ∃ i, i < n ∧ g i = z) → ∀ i, i < n → f i = g i := by
  intro n
  have ge : ∀ {f : Nat → Nat} {n : Nat}, (∀ i j, i < j → j < n → f i < f j) → ∀ i, i < n → ∀ j, j < n → f i ≤ f j → i ≤ j := fun hf i hi j hj e => by
    rcases Nat.lt_or_ge j i with z | z
    · have := hf j i z hi; omega
    · exact z
  induction n with
  | zero => intro _ _ _ i hi; omega
  | succ n ih =>
    intro hf hg hz
    have last : f n = g n := by
      obtain ⟨i, hi, e⟩ := (hz (f n)).mp ⟨n, by omega, rfl⟩
      obtain ⟨j, hj, e2⟩ := (hz (g n)).mpr ⟨n, by omega, rfl⟩
      have a : f n ≤ g n := by
        rw [← e]
        rcases Nat.lt_or_ge i n with z | z
        · have := hg i n z (by omega); omega
        · have : i = n := by omega
          rw [this]; exact Nat.le_refl _
      have b : g n ≤ f n := by
        rw [← e2]
        rcases Nat.lt_or_ge j n with z | z
        · have := hf j n z (by omega); omega
        · have : j = n := by omega
          rw [this]; exact Nat.le_refl _
      omega
    intro i hi
    by_cases e : i = n
    · rw [e]; exact last
    · refine ih (fun i j a b => hf i j a (by omega)) (fun i j a b => hg i j a (by omega)) (fun z => ?_) i (by omega)
      constructor
      · rintro ⟨i, hi, e⟩
        obtain ⟨j, hj, e2⟩ := (hz z).mp ⟨i, by omega, e⟩
        refine ⟨j, ?_, e2⟩
        have : j ≠ n := fun q => by
          have := hf i n hi (by omega)
          rw [q, ← last] at e2; omega
        omega
      · rintro ⟨i, hi, e⟩
        obtain ⟨j, hj, e2⟩ := (hz z).mpr ⟨i, by omega, e⟩
        refine ⟨j, ?_, e2⟩
        have : j ≠ n := fun q => by
          have := hg i n hi (by omega)
          rw [q, last] at e2; omega
        omega
