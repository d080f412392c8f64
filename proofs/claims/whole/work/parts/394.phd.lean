def pS1 (nj : Nat) (mn : Nat → Int) (e : Nat → Nat → Prop) (T : Nat → Int) (j : Nat) : Prop := mn j ≤ T j ∧ (∀ k, k < nj → e j k → mn j + T k ≤ T j) ∧ (T j = mn j ∨ ∃ k, k < nj ∧ e j k ∧ T j = mn j + T k)
/-- m is the greatest of k numbers, or 0 -/
def mxp (f : Nat → Int32) (k : Nat) (m : Int32) : Prop := 0 ≤ m.toInt ∧ (∀ t, t < k → (f t).toInt ≤ m.toInt) ∧ (m = 0 ∨ ∃ t, t < k ∧ f t = m)
theorem mxp_0 (f : Nat → Int32) : mxp f 0 0 := ⟨by decide, fun t ht => by omega, Or.inl rfl⟩
theorem mxp_s {f : Nat → Int32} {k : Nat} {m : Int32} (h : mxp f k m) : mxp f (k + 1) (if m < f k then f k else m) := by
  obtain ⟨a, b, c⟩ := h
  by_cases z : m < f k
  · rw [if_pos z]
    rw [Int32.lt_iff_toInt_lt] at z
    refine ⟨by omega, fun t ht => ?_, Or.inr ⟨k, by omega, rfl⟩⟩
    by_cases e : t = k
    · rw [e]; exact Int.le_refl _
    · have := b t (by omega); omega
  · rw [if_neg z]
    rw [Int32.lt_iff_toInt_lt] at z
    refine ⟨a, fun t ht => ?_, c.imp id (fun ⟨t, ht, e⟩ => ⟨t, by omega, e⟩)⟩
    by_cases e : t = k
    · rw [e]; omega
    · exact b t (by omega)
section PH
variable {A : Nat → Nat → Nat} {B : Nat → Nat × Nat} {S : Hp} {nc nw nm nj : Nat} {cw jc : Nat → Nat} {I : FI} {J : FJ} {R : FR} {xs : Nat → Int32} {L : Nat} {l4 : Int32}
variable {E : FI} {R0 : FR} {bn an : Nat → Nat} {bl al : Nat → Nat → Nat} {j : Nat} {so : Nat → Nat} {Q : Hp → Prop}
theorem pS1_j {mn T T' : Nat → Int} {e : Nat → Nat → Prop} {m : Int} (hm : 0 ≤ m) (h1 : ∀ k, k < nj → e j k → T k ≤ m) (h2 : m = 0 ∨ ∃ k, k < nj ∧ e j k ∧ T k = m) (hj : ¬ e j j) (o : ∀ k, k ≠ j → T' k = T k) (ej : T' j = mn j + m) : pS1 nj mn e T' j := by
  have ne : ∀ k, e j k → k ≠ j := fun k z w => hj (by rw [w] at z; exact z)
  refine ⟨by omega, fun k hk z => ?_, ?_⟩
  · rw [o k (ne k z)]; have := h1 k hk z; omega
  · rcases h2 with w | ⟨k, hk, z, w⟩
    · left; omega
    · right; exact ⟨k, hk, z, by rw [o k (ne k z)]; omega⟩
theorem pS1_o {mn T T' : Nat → Int} {e : Nat → Nat → Prop} {q : Nat} (o : ∀ k, k ≠ j → T' k = T k) (hq : q ≠ j) (he : ¬ e q j) (h : pS1 nj mn e T q) : pS1 nj mn e T' q := by
  have ne : ∀ k, e q k → k ≠ j := fun k z w => he (by rw [w] at z; exact z)
  obtain ⟨a, b, c⟩ := h
  rw [pS1, o q hq]
  refine ⟨a, fun k hk z => by rw [o k (ne k z)]; exact b k hk z, c.imp id (fun ⟨k, hk, z, w⟩ => ⟨k, hk, z, by rw [o k (ne k z)]; exact w⟩)⟩
theorem pX.irr (hX : pX A B S nc nw nm nj cw jc bn bl an al E J R0 I R) (hj : j < nj) : ¬ E 1 10 (200 * j + j) = 1 := fun z => by
  obtain ⟨-, -, l3, -, l5⟩ := hX.2.1.2.2.2.2.2.2.1
  have := l5 j j hj hj z
  rw [l3 j hj] at this; exact absurd this (by decide)
theorem p_h22 {l1 : Int32} {K2 : Hp → Int32 → Prop} (hX : pX A B S nc nw nm nj cw jc bn bl an al E J R0 I R) (hj : j < nj) (hK : ∀ m, mxp (fun t => I 3 (bl j t) 13) (bn j) m → K2 (hq A B S I J R) m) : ∀ (r k fu : Nat) (m : Int32), k + r = bn j → r < fu → mxp (fun t => I 3 (bl j t) 13) k m → wp_X6_reckonHeads_L22 (A 0 2) l1 (some (A 3 j)) K2 Q fu (hq A B S I J R) m (nI k) := by
  have h := hX.1
  have hb := (hX.lb j hj).2.1
  obtain ⟨dd, hA, -⟩ := al_q (J := J) h (Or.inl ⟨rfl, rfl⟩) hX.lb hj
  intro r
  induction r with
  | zero =>
    intro k fu m hk hf hm
    obtain ⟨fu, rfl⟩ : ∃ z, fu = z + 1 := ⟨fu - 1, by omega⟩
    have hkn : k = bn j := by omega
    subst hkn
    rw [wp_X6_reckonHeads_L22]
    simp only [fj_3 h hj, fj_4 h hj, hi_q h, hj_q h, si_q h, sj_q h, vv_5 h, vs_5 h, vv_7 h, vs_7 h, vv_8 h, vs_8 h, vv_9 h, vs_9 h, vv_11 h, vs_11 h, vv_17 h, vs_17 h, vv_18 h, vs_18 h, vj_3 h, vj_4 h, vj_5 h, ex_some, ex_def, all_def, true_and, and_true, Nat.reduceLT, exists_eq_left, Option.some.injEq, exists_eq_left']
    exact p_lsize hA ⟨fun _ => hK m hm, fun z => absurd (Int32.le_refl _) z⟩
  | succ r ih =>
    intro k fu m hk hf hm
    obtain ⟨fu, rfl⟩ : ∃ z, fu = z + 1 := ⟨fu - 1, by omega⟩
    have hkn : k < bn j := by omega
    have hi := ((hX.lb j hj).2.2.2 k hkn).1
    have e0 : ¬ nI (bn j) ≤ nI k := by rw [nI_leI (by omega) (by omega)]; omega
    rw [wp_X6_reckonHeads_L22]
    simp only [fj_3 h hj, fj_4 h hj, hi_q h, hj_q h, si_q h, sj_q h, vv_5 h, vs_5 h, vv_7 h, vs_7 h, vv_8 h, vs_8 h, vv_9 h, vs_9 h, vv_11 h, vs_11 h, vv_17 h, vs_17 h, vv_18 h, vs_18 h, vj_3 h, vj_4 h, vj_5 h, ex_some, ex_def, all_def, true_and, and_true, Nat.reduceLT, exists_eq_left, Option.some.injEq, exists_eq_left']
    refine p_lsize hA ⟨fun z => absurd z e0, fun _ => ?_⟩
    simp only [fj_3 h hj, fj_4 h hj, hi_q h, hj_q h, si_q h, sj_q h, vv_5 h, vs_5 h, vv_7 h, vs_7 h, vv_8 h, vs_8 h, vv_9 h, vs_9 h, vv_11 h, vs_11 h, vv_17 h, vs_17 h, vv_18 h, vs_18 h, vj_3 h, vj_4 h, vj_5 h, ex_some, ex_def, all_def, true_and, and_true, Nat.reduceLT, exists_eq_left, Option.some.injEq, exists_eq_left']
    refine p_lget hA hkn ?_
    simp only [fj_3 h hi, hi_q h, hj_q h, si_q h, sj_q h, vv_5 h, vs_5 h, vv_7 h, vs_7 h, vv_8 h, vs_8 h, vv_9 h, vs_9 h, vv_11 h, vs_11 h, vv_17 h, vs_17 h, vv_18 h, vs_18 h, vj_3 h, vj_4 h, vj_5 h, ex_some, ex_def, all_def, true_and, and_true, Nat.reduceLT, exists_eq_left, Option.some.injEq, exists_eq_left', ← nI_succ]
    exact ih (k + 1) fu _ (by omega) (by omega) (mxp_s hm)
theorem p_h23 {l1 : Int32} {K2 : Hp → Int32 → Prop} (hX : pX A B S nc nw nm nj cw jc bn bl an al E J R0 I R) (hj : j < nj) (hK : ∀ m, mxp (fun t => I 3 (al j t) 14) (an j) m → K2 (hq A B S I J R) m) : ∀ (r k fu : Nat) (m : Int32), k + r = an j → r < fu → mxp (fun t => I 3 (al j t) 14) k m → wp_X6_reckonTails_L23 (A 0 2) l1 (some (A 3 j)) K2 Q fu (hq A B S I J R) m (nI k) := by
  have h := hX.1
  have hb := (hX.la j hj).2.1
  obtain ⟨dd, hA, -⟩ := al_q (J := J) h (Or.inr ⟨rfl, rfl⟩) hX.la hj
  intro r
  induction r with
  | zero =>
    intro k fu m hk hf hm
    obtain ⟨fu, rfl⟩ : ∃ z, fu = z + 1 := ⟨fu - 1, by omega⟩
    have hkn : k = an j := by omega
    subst hkn
    rw [wp_X6_reckonTails_L23]
    simp only [fj_3 h hj, fj_5 h hj, hi_q h, hj_q h, si_q h, sj_q h, vv_5 h, vs_5 h, vv_7 h, vs_7 h, vv_8 h, vs_8 h, vv_9 h, vs_9 h, vv_11 h, vs_11 h, vv_17 h, vs_17 h, vv_18 h, vs_18 h, vj_3 h, vj_4 h, vj_5 h, ex_some, ex_def, all_def, true_and, and_true, Nat.reduceLT, exists_eq_left, Option.some.injEq, exists_eq_left']
    exact p_lsize hA ⟨fun _ => hK m hm, fun z => absurd (Int32.le_refl _) z⟩
  | succ r ih =>
    intro k fu m hk hf hm
    obtain ⟨fu, rfl⟩ : ∃ z, fu = z + 1 := ⟨fu - 1, by omega⟩
    have hkn : k < an j := by omega
    have hi := ((hX.la j hj).2.2.2 k hkn).1
    have e0 : ¬ nI (an j) ≤ nI k := by rw [nI_leI (by omega) (by omega)]; omega
    rw [wp_X6_reckonTails_L23]
    simp only [fj_3 h hj, fj_5 h hj, hi_q h, hj_q h, si_q h, sj_q h, vv_5 h, vs_5 h, vv_7 h, vs_7 h, vv_8 h, vs_8 h, vv_9 h, vs_9 h, vv_11 h, vs_11 h, vv_17 h, vs_17 h, vv_18 h, vs_18 h, vj_3 h, vj_4 h, vj_5 h, ex_some, ex_def, all_def, true_and, and_true, Nat.reduceLT, exists_eq_left, Option.some.injEq, exists_eq_left']
    refine p_lsize hA ⟨fun z => absurd z e0, fun _ => ?_⟩
    simp only [fj_3 h hj, fj_5 h hj, hi_q h, hj_q h, si_q h, sj_q h, vv_5 h, vs_5 h, vv_7 h, vs_7 h, vv_8 h, vs_8 h, vv_9 h, vs_9 h, vv_11 h, vs_11 h, vv_17 h, vs_17 h, vv_18 h, vs_18 h, vj_3 h, vj_4 h, vj_5 h, ex_some, ex_def, all_def, true_and, and_true, Nat.reduceLT, exists_eq_left, Option.some.injEq, exists_eq_left']
    refine p_lget hA hkn ?_
    simp only [fj_3 h hi, hi_q h, hj_q h, si_q h, sj_q h, vv_5 h, vs_5 h, vv_7 h, vs_7 h, vv_8 h, vs_8 h, vv_9 h, vs_9 h, vv_11 h, vs_11 h, vv_17 h, vs_17 h, vv_18 h, vs_18 h, vj_3 h, vj_4 h, vj_5 h, ex_some, ex_def, all_def, true_and, and_true, Nat.reduceLT, exists_eq_left, Option.some.injEq, exists_eq_left', ← nI_succ]
    exact ih (k + 1) fu _ (by omega) (by omega) (mxp_s hm)
/-- heads are right for the first i of the row -/
def hdI (E : FI) (nj : Nat) (so : Nat → Nat) (i : Nat) (I : FI) : Prop := ∀ q, q < i → (1 ≤ (I 3 (so q) 13).toInt ∧ (I 3 (so q) 13).toInt ≤ 10000 * ((q : Int) + 1)) ∧ pS1 nj (fun j => (E 1 8 j).toInt) (fun j k => E 1 10 (200 * j + k) = 1) (fun j => (I 3 j 13).toInt) (so q)
theorem p_heads_L (hO : pO E nj so) (hR9 : ∀ q, q < nj → R 0 9 q = some (A 3 (so q))) (hQ : ∀ I', pX A B S nc nw nm nj cw jc bn bl an al E J R0 I' R → I' 0 2 3 = nI nj → pSol nj (fun j => (E 1 8 j).toInt) (fun j k => E 1 10 (200 * j + k) = 1) (fun j => (I' 3 j 13).toInt) → Q (hq A B S I' J R)) : ∀ (r i fu : Nat) (I : FI), i + r = nj → r < fu → pX A B S nc nw nm nj cw jc bn bl an al E J R0 I R → I 0 2 3 = nI nj → hdI E nj so i I → wp_X6_reckonHeads_L2 (A 0 2) Q fu (hq A B S I J R) (nI i) := by
  obtain ⟨o1, o2, o3, o4⟩ := hO
  intro r
  induction r with
  | zero =>
    intro i fu I hi hf hX h3 hh
    obtain ⟨fu, rfl⟩ : ∃ z, fu = z + 1 := ⟨fu - 1, by omega⟩
    have h := hX.1
    have : i = nj := by omega
    subst this
    rw [wp_X6_reckonHeads_L2]
    simp only [fr_2 h, hi_q h, hj_q h, si_q h, sj_q h, vv_5 h, vs_5 h, vv_7 h, vs_7 h, vv_8 h, vs_8 h, vv_9 h, vs_9 h, vv_11 h, vs_11 h, vv_17 h, vs_17 h, vv_18 h, vs_18 h, vj_3 h, vj_4 h, vj_5 h, ex_some, ex_def, all_def, true_and, and_true, Nat.reduceLT, h3]
    refine ⟨fun _ => hQ I hX h3 (fun j hj => ?_), fun z => absurd (Int32.le_refl _) z⟩
    obtain ⟨q, hq, e⟩ := o3 j hj
    have := (hh q hq).2
    rw [e] at this; exact this
  | succ r ih =>
    intro i fu I hi hf hX h3 hh
    obtain ⟨fu, rfl⟩ : ∃ z, fu = z + 1 := ⟨fu - 1, by omega⟩
    have h := hX.1
    have n4 := hX.n4
    have hin : i < nj := by omega
    have hj := o1 i hin
    obtain ⟨u1, u2, u3, u4, u5⟩ := hX.jo hj
    have e0 : ¬ nI nj ≤ nI i := by rw [nI_leI (by omega) (by omega)]; omega
    rw [wp_X6_reckonHeads_L2]
    simp only [fr_2 h, fr_9 h, hi_q h, hj_q h, si_q h, sj_q h, vv_5 h, vs_5 h, vv_7 h, vs_7 h, vv_8 h, vs_8 h, vv_9 h, vs_9 h, vv_11 h, vs_11 h, vv_17 h, vs_17 h, vv_18 h, vs_18 h, vj_3 h, vj_4 h, vj_5 h, ex_some, ex_def, all_def, true_and, and_true, Nat.reduceLT, exists_eq_left, Option.some.injEq, exists_eq_left', h3, e0, not_false_eq_true, true_implies, not_true_eq_false, false_implies, true_and, and_true, false_and, and_false, forall_const, imp_self, implies_true, if_true, if_false, eq_self, Bool.true_eq_false, Bool.false_eq_true, false_or, or_false, true_or, or_true, nI_clamp (show i < 2 ^ 31 by omega), vin (show i < 200 by omega) (show 200 < 2 ^ 31 by decide), hR9 i hin, ← nI_succ]
    refine p_h22 hX hj (fun m hm => ⟨(fj_3 h hj _ _ _).1, ?_⟩) _ 0 FU 0 (Nat.zero_add _) (by have := (hX.lb (so i) hj).2.1; unfold FU; omega) (mxp_0 _)
    simp only [hi_q h, hj_q h, si_q h, sj_q h, vv_5 h, vs_5 h, vv_7 h, vs_7 h, vv_8 h, vs_8 h, vv_9 h, vs_9 h, vv_11 h, vs_11 h, vv_17 h, vs_17 h, vv_18 h, vs_18 h, vj_3 h, vj_4 h, vj_5 h, ex_some, ex_def, all_def, true_and, and_true, Nat.reduceLT, u3]
    obtain ⟨m1, m2, m3⟩ := hm
    have t1 : ∀ k, k < nj → E 1 10 (200 * so i + k) = 1 → (I 3 k 13).toInt ≤ m.toInt := fun k hk e => by
      obtain ⟨t, ht, e2⟩ := (hX.2.2.2.2.1 _ k hj hk).2.1.mp e
      have := m2 t ht
      simp only [e2] at this; exact this
    have t2 : m.toInt = 0 ∨ ∃ k, k < nj ∧ E 1 10 (200 * so i + k) = 1 ∧ (I 3 k 13).toInt = m.toInt := by
      rcases m3 with e | ⟨t, ht, e⟩
      · left; rw [e]; rfl
      · have hk := ((hX.2.2.1 _ hj).2.2.2 t ht).1
        exact Or.inr ⟨bl (so i) t, hk, (hX.2.2.2.2.1 _ _ hj hk).2.1.mpr ⟨t, ht, rfl⟩, by rw [← e]⟩
    have mb : m.toInt ≤ 10000 * (i : Int) := by
      rcases t2 with e | ⟨k, hk, e, e2⟩
      · omega
      · obtain ⟨q, hq, e3⟩ := o4 i hin k hk e
        have := (hh q hq).1.2
        rw [e3, e2] at this; omega
    have ea : (E 1 8 (so i) + m).toInt = (E 1 8 (so i)).toInt + m.toInt := i_add (by omega) (by omega)
    have oth : ∀ k, k ≠ so i → up3 I 3 (so i) 13 (E 1 8 (so i) + m) 3 k 13 = I 3 k 13 := fun k z => up3_off (by omega)
    refine ih (i + 1) fu _ (by omega) (by omega) (hX.up rfl) h3 (fun q hq => ?_)
    by_cases eq : q = i
    · subst eq
      refine ⟨?_, ?_⟩
      · rw [up3_same, ea]; omega
      · exact pS1_j (T := fun j => (I 3 j 13).toInt) m1 t1 t2 (hX.irr hj) (fun k z => by show (up3 I 3 (so q) 13 _ 3 k 13).toInt = _; rw [oth k z]) (by show (up3 I 3 (so q) 13 _ 3 (so q) 13).toInt = _; rw [up3_same, ea])
    · have ns : so q ≠ so i := fun z => eq (o2 q i (by omega) hin z)
      obtain ⟨b1, b2⟩ := hh q (by omega)
      refine ⟨by rw [oth _ ns]; exact b1, pS1_o (j := so i) (T := fun j => (I 3 j 13).toInt) (fun k z => by show (up3 I 3 (so i) 13 _ 3 k 13).toInt = _; rw [oth k z]) ns (fun z => ?_) b2⟩
      obtain ⟨q', hq', e⟩ := o4 q (by omega) (so i) hj z
      have := o2 q' i (by omega) hin e
      omega
theorem p_heads (hX : pX A B S nc nw nm nj cw jc bn bl an al E J R0 I R) (h3 : I 0 2 3 = nI nj) (hO : pO E nj so) (hR9 : ∀ q, q < nj → R 0 9 q = some (A 3 (so q))) (hQ : ∀ I', pX A B S nc nw nm nj cw jc bn bl an al E J R0 I' R → I' 0 2 3 = nI nj → pSol nj (fun j => (E 1 8 j).toInt) (fun j k => E 1 10 (200 * j + k) = 1) (fun j => (I' 3 j 13).toInt) → Q (hq A B S I' J R)) : wp_X6_reckonHeads (hq A B S I J R) (A 0 2) Q := by
  have n4 := hX.n4
  exact p_heads_L hO hR9 hQ nj 0 FU I (by omega) (by unfold FU; omega) hX h3 (fun q hq => by omega)
/-- tails are right from place c of the row on -/
def tlI (E : FI) (nj : Nat) (so : Nat → Nat) (c : Nat) (I : FI) : Prop := ∀ q, c ≤ q → q < nj → (1 ≤ (I 3 (so q) 14).toInt ∧ (I 3 (so q) 14).toInt ≤ 10000 * ((nj : Int) - q)) ∧ pS1 nj (fun j => (E 1 8 j).toInt) (fun j k => E 1 10 (200 * k + j) = 1) (fun j => (I 3 j 14).toInt) (so q)
theorem p_tails_L {P : FI → Prop} (hP : ∀ I j v, P I → P (up3 I 3 j 14 v)) (hO : pO E nj so) (hR9 : ∀ q, q < nj → R 0 9 q = some (A 3 (so q))) (hQ : ∀ I', pX A B S nc nw nm nj cw jc bn bl an al E J R0 I' R → P I' → pSol nj (fun j => (E 1 8 j).toInt) (fun j k => E 1 10 (200 * k + j) = 1) (fun j => (I' 3 j 14).toInt) → Q (hq A B S I' J R)) : ∀ (c fu : Nat) (I : FI) (v : Int32), c ≤ nj → c < fu → v = nI c - 1 → pX A B S nc nw nm nj cw jc bn bl an al E J R0 I R → P I → tlI E nj so c I → wp_X6_reckonTails_L7 (A 0 2) Q fu (hq A B S I J R) v := by
  obtain ⟨o1, o2, o3, o4⟩ := hO
  intro c
  induction c with
  | zero =>
    intro fu I v hc hf hv hX hp hh
    obtain ⟨fu, rfl⟩ : ∃ z, fu = z + 1 := ⟨fu - 1, by omega⟩
    subst hv
    rw [wp_X6_reckonTails_L7]
    refine ⟨fun _ => hQ I hX hp (fun j hj => ?_), fun z => absurd (by decide) z⟩
    obtain ⟨q, hq, e⟩ := o3 j hj
    have := (hh q (Nat.zero_le _) hq).2
    rw [e] at this; exact this
  | succ i ih =>
    intro fu I v hc hf hv hX hp hh
    obtain ⟨fu, rfl⟩ : ∃ z, fu = z + 1 := ⟨fu - 1, by omega⟩
    have h := hX.1
    have n4 := hX.n4
    have hin : i < nj := by omega
    have hj := o1 i hin
    obtain ⟨u1, u2, u3, u4, u5⟩ := hX.jo hj
    rw [nI_p1] at hv
    subst hv
    have e0 : ¬ nI i < 0 := by rw [show (0 : Int32) = nI 0 from rfl, nI_lti (by omega) (by decide)]; omega
    rw [wp_X6_reckonTails_L7]
    simp only [fr_2 h, fr_9 h, hi_q h, hj_q h, si_q h, sj_q h, vv_5 h, vs_5 h, vv_7 h, vs_7 h, vv_8 h, vs_8 h, vv_9 h, vs_9 h, vv_11 h, vs_11 h, vv_17 h, vs_17 h, vv_18 h, vs_18 h, vj_3 h, vj_4 h, vj_5 h, ex_some, ex_def, all_def, true_and, and_true, Nat.reduceLT, exists_eq_left, Option.some.injEq, exists_eq_left', e0, not_false_eq_true, true_implies, not_true_eq_false, false_implies, true_and, and_true, false_and, and_false, forall_const, imp_self, implies_true, if_true, if_false, eq_self, Bool.true_eq_false, Bool.false_eq_true, false_or, or_false, true_or, or_true, nI_clamp (show i < 2 ^ 31 by omega), vin (show i < 200 by omega) (show 200 < 2 ^ 31 by decide), hR9 i hin]
    refine p_h23 hX hj (fun m hm => ⟨(fj_3 h hj _ _ _).1, ?_⟩) _ 0 FU 0 (Nat.zero_add _) (by have := (hX.la (so i) hj).2.1; unfold FU; omega) (mxp_0 _)
    simp only [hi_q h, hj_q h, si_q h, sj_q h, vv_5 h, vs_5 h, vv_7 h, vs_7 h, vv_8 h, vs_8 h, vv_9 h, vs_9 h, vv_11 h, vs_11 h, vv_17 h, vs_17 h, vv_18 h, vs_18 h, vj_3 h, vj_4 h, vj_5 h, ex_some, ex_def, all_def, true_and, and_true, Nat.reduceLT, u3]
    obtain ⟨m1, m2, m3⟩ := hm
    have t1 : ∀ k, k < nj → E 1 10 (200 * k + so i) = 1 → (I 3 k 14).toInt ≤ m.toInt := fun k hk e => by
      obtain ⟨t, ht, e2⟩ := (hX.2.2.2.2.1 k _ hk hj).2.2.mp e
      have := m2 t ht
      simp only [e2] at this; exact this
    have t2 : m.toInt = 0 ∨ ∃ k, k < nj ∧ E 1 10 (200 * k + so i) = 1 ∧ (I 3 k 14).toInt = m.toInt := by
      rcases m3 with e | ⟨t, ht, e⟩
      · left; rw [e]; rfl
      · have hk := ((hX.2.2.2.1 _ hj).2.2.2 t ht).1
        exact Or.inr ⟨al (so i) t, hk, (hX.2.2.2.2.1 _ _ hk hj).2.2.mpr ⟨t, ht, rfl⟩, by rw [← e]⟩
    have mb : m.toInt ≤ 10000 * ((nj : Int) - i - 1) := by
      rcases t2 with e | ⟨k, hk, e, e2⟩
      · omega
      · obtain ⟨q, hq, e3⟩ := o3 k hk
        rw [← e3] at e e2
        obtain ⟨q', hq', e4⟩ := o4 q hq (so i) hj e
        have := o2 q' i (by omega) hin e4
        have := (hh q (by omega) hq).1.2
        rw [e2] at this; omega
    have ea : (E 1 8 (so i) + m).toInt = (E 1 8 (so i)).toInt + m.toInt := i_add (by omega) (by omega)
    have oth : ∀ k, k ≠ so i → up3 I 3 (so i) 14 (E 1 8 (so i) + m) 3 k 14 = I 3 k 14 := fun k z => up3_off (by omega)
    refine ih fu _ _ (by omega) (by omega) (by grind) (hX.up rfl) (hP _ _ _ hp) (fun q hq hqn => ?_)
    by_cases eq : q = i
    · subst eq
      refine ⟨?_, ?_⟩
      · rw [up3_same, ea]; omega
      · exact pS1_j (e := fun j k => E 1 10 (200 * k + j) = 1) (T := fun j => (I 3 j 14).toInt) m1 t1 t2 (hX.irr hj) (fun k z => by show (up3 I 3 (so q) 14 _ 3 k 14).toInt = _; rw [oth k z]) (by show (up3 I 3 (so q) 14 _ 3 (so q) 14).toInt = _; rw [up3_same, ea])
    · have ns : so q ≠ so i := fun z => eq (o2 q i (by omega) hin z)
      obtain ⟨b1, b2⟩ := hh q (by omega) hqn
      refine ⟨by rw [oth _ ns]; exact b1, pS1_o (j := so i) (T := fun j => (I 3 j 14).toInt) (fun k z => by show (up3 I 3 (so i) 14 _ 3 k 14).toInt = _; rw [oth k z]) ns (fun z => ?_) b2⟩
      obtain ⟨q', hq', e⟩ := o4 i hin (so q) (o1 q hqn) z
      have := o2 q' q (by omega) hqn e
      omega
theorem p_tails {P : FI → Prop} (hP : ∀ I j v, P I → P (up3 I 3 j 14 v)) (hX : pX A B S nc nw nm nj cw jc bn bl an al E J R0 I R) (hp : P I) (h3 : I 0 2 3 = nI nj) (hO : pO E nj so) (hR9 : ∀ q, q < nj → R 0 9 q = some (A 3 (so q))) (hQ : ∀ I', pX A B S nc nw nm nj cw jc bn bl an al E J R0 I' R → P I' → pSol nj (fun j => (E 1 8 j).toInt) (fun j k => E 1 10 (200 * k + j) = 1) (fun j => (I' 3 j 14).toInt) → Q (hq A B S I' J R)) : wp_X6_reckonTails (hq A B S I J R) (A 0 2) Q := by
  have h := hX.1
  have n4 := hX.n4
  unfold wp_X6_reckonTails
  simp only [fr_2 h, hi_q h, hj_q h, si_q h, sj_q h, vv_5 h, vs_5 h, vv_7 h, vs_7 h, vv_8 h, vs_8 h, vv_9 h, vs_9 h, vv_11 h, vs_11 h, vv_17 h, vs_17 h, vv_18 h, vs_18 h, vj_3 h, vj_4 h, vj_5 h, ex_some, ex_def, all_def, true_and, and_true, Nat.reduceLT, h3]
  exact p_tails_L hP hO hR9 hQ nj FU I _ (Nat.le_refl _) (by unfold FU; omega) rfl hX hp (fun q a b => by omega)
end PH
