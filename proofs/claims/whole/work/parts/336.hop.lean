/-- nothing has begun -/
def s00 : Rs := (fun _ => 0, fun _ => 0, fun _ => 0, fun _ => 0, fun _ => -1, 0)
/-- what may ever be there of stock x, ahead of job j -/
def allX (E : FI) (nj j x : Nat) : Int64 := (E 1 6 x).toInt64 + sumJ nj (fun k => if k = j then 0 else (E 1 14 (60 * k + x)).toInt64)
abbrev hop (E : FI) (nj : Nat) (cw jc : Nat → Nat) (j : Nat) : Prop := cw (jc j) = 0 ∨ ∃ x, x < 60 ∧ ¬ (E 1 13 (60 * j + x)).toInt64 ≤ allX E nj j x
abbrev hpl (E : FI) (nj : Nat) (cw jc : Nat → Nat) (j : Nat) : Prop := hop E nj cw jc j ∨ ∃ m, m < nj ∧ E 1 11 (200 * j + m) = 1 ∧ hop E nj cw jc m
/-- how a run begins -/
def s0 (E : FI) (nj : Nat) (cw jc : Nat → Nat) : Rs := par s00 (fun k => decide (k < nj ∧ hpl E nj cw jc k)) (fun _ => 5)
section HP
variable {A : Nat → Nat → Nat} {B : Nat → Nat × Nat} {S : Hp} {nc nw nm nj : Nat} {cw jc : Nat → Nat} {I : FI} {J : FJ} {R : FR} {xs : Nat → Int32} {L : Nat} {l4 : Int32}
variable {E : FI} {J0 : FJ} {R0 : FR} {od : Nat → Nat} {s : Rs} {j : Nat} {K Q : Hp → Prop}
theorem allX_b (hs : sB E nj) {x : Nat} (hx : x < 60) : 0 ≤ (allX E nj j x).toInt := by
  obtain ⟨d, e⟩ := hs.2.2.1 x hx
  have n4 := hs.2.2.2
  have hb : ∀ i, i < nj → -1000000 ≤ (if i = j then (0 : Int64) else (E 1 14 (60 * i + x)).toInt64).toInt ∧ (if i = j then (0 : Int64) else (E 1 14 (60 * i + x)).toInt64).toInt ≤ 1000000 := fun i hi => by
    by_cases z : i = j
    · rw [if_pos z]; decide
    · rw [if_neg z, Int32.toInt_toInt64]
      have := (hs.1 i x hi hx).2
      omega
  obtain ⟨a, b, c⟩ := sumJ_b n4 hb
  have nn : 0 ≤ sumQ nj (fun i => (if i = j then (0 : Int64) else (E 1 14 (60 * i + x)).toInt64).toInt) := by
    have := sumQ_mono (n := nj) (f := fun _ => 0) (g := fun i => (if i = j then (0 : Int64) else (E 1 14 (60 * i + x)).toInt64).toInt) (fun i hi => by
      by_cases z : i = j
      · simp [z]
      · simp only [z, if_false]
        rw [Int32.toInt_toInt64]
        exact (hs.1 i x hi hx).2.1)
    have z : ∀ n, sumQ n (fun _ => 0) = 0 := by
      intro n
      induction n with
      | zero => rfl
      | succ n ih => rw [sumQ, ih]; rfl
    rw [z] at this; exact this
  unfold allX
  rw [j_add, Int32.toInt_toInt64, a]
  · omega
  · rw [Int32.toInt_toInt64, a]; omega
  · rw [Int32.toInt_toInt64, a]; omega
theorem p_hop {Q : Int32 → Hp → Prop} (hs : sB E nj) (hr : rx A B S nc nw nm nj cw jc od E J0 R0 I J R) (h15 : ∀ y, y < 60 → J 0 15 y = (E 1 6 y).toInt64 + sumJ nj (fun i => (E 1 14 (60 * i + y)).toInt64)) (hj : j < nj) (hQ1 : hop E nj cw jc j → Q 1 (hq A B S I J R)) (hQ0 : ¬ hop E nj cw jc j → Q 0 (hq A B S I J R)) : wp_X8_isHopeless (hq A B S I J R) (A 0 4) (some (A 3 j)) Q := by
  have h := hr.1
  obtain ⟨u1, u2, u3, u4, u5, u6, u7, u8, u9⟩ := hr.jo hj
  obtain ⟨⟨n, st, e2, hF⟩, -⟩ := hr.st.2.2.2.2.2.2.2.2.1 j hj
  obtain ⟨⟨ng, sg, e2g, hFg⟩, -⟩ := hr.st.2.2.2.2.2.2.2.2.2.1 j hj
  obtain ⟨f1, f2, f3, f4⟩ := hF
  have eE : ∀ y, I 1 13 (60 * j + y) = E 1 13 (60 * j + y) := fun y => hr.i rfl
  have eG : ∀ y, I 1 14 (60 * j + y) = E 1 14 (60 * j + y) := fun y => hr.i rfl
  have ax : ∀ y, y < 60 → J 0 15 y - (E 1 14 (60 * j + y)).toInt64 = allX E nj j y := fun y hy => by
    rw [h15 y hy]
    unfold allX
    rw [sumJ_up (f := fun k => if k = j then 0 else (E 1 14 (60 * k + y)).toInt64) (g := fun i => (E 1 14 (60 * i + y)).toInt64) hj (fun i hi z => by simp [z])]
    simp only [if_true]; grind
  have cc : cw (jc j) ≤ 32 := by
    have := fwk_ge (cw := cw) nc u7
    have := hr.2.1.1.2.2.2.2.1
    have := hr.2.1.1.2.1
    omega
  obtain ⟨-, -, -, g2, -⟩ := hr.st.2.2.1 (jc j) u7
  have ez : nI (cw (jc j)) = 0 ↔ cw (jc j) = 0 := nI_zero (by omega)
  unfold wp_X8_isHopeless
  simp only [fj_3 h hj, fc_2 h u7, hi_q h, hj_q h, si_q h, sj_q h, vv_5 h, vs_5 h, vv_7 h, vs_7 h, vv_8 h, vs_8 h, vv_9 h, vs_9 h, vv_11 h, vs_11 h, vv_17 h, vs_17 h, vv_18 h, vs_18 h, vj_3 h, vj_4 h, vj_5 h, ex_some, ex_def, all_def, true_and, and_true, Nat.reduceLT, exists_eq_left, Option.some.injEq, exists_eq_left', u3, g2, ez]
  refine ⟨fun z => hQ1 (Or.inl z), fun z => ?_⟩
  have key : ∀ (r k fu : Nat), k + r = n → r < fu → (∀ i, i < k → (E 1 13 (60 * j + st i)).toInt64 ≤ allX E nj j (st i)) → wp_X8_isHopeless_L19 (A 0 4) (A 3 j) (some (A 8 j)) Q fu (hq A B S I J R) (nI k) := by
    intro r
    induction r with
    | zero =>
      intro k fu hk hf hy
      obtain ⟨fu, rfl⟩ : ∃ z, fu = z + 1 := ⟨fu - 1, by omega⟩
      have hkn : k = n := by omega
      subst hkn
      rw [wp_X8_isHopeless_L19]
      simp only [fj_8 h hj, hi_q h, hj_q h, si_q h, sj_q h, vv_5 h, vs_5 h, vv_7 h, vs_7 h, vv_8 h, vs_8 h, vv_9 h, vs_9 h, vv_11 h, vs_11 h, vv_17 h, vs_17 h, vv_18 h, vs_18 h, vj_3 h, vj_4 h, vj_5 h, ex_some, ex_def, all_def, true_and, and_true, Nat.reduceLT, exists_eq_left, Option.some.injEq, exists_eq_left', e2]
      refine ⟨fun _ => hQ0 (fun w => ?_), fun z => absurd (Int32.le_refl _) z⟩
      rcases w with w | ⟨y, hy60, w⟩
      · exact z w
      · by_cases q : I 1 13 (60 * j + y) = 0
        · rw [eE] at q
          refine w ?_
          rw [q, Int64.le_iff_toInt_le]
          exact allX_b hs hy60
        · obtain ⟨i, hi, e⟩ := f4 y hy60 q
          rw [← e] at w; exact w (hy i hi)
    | succ r ih =>
      intro k fu hk hf hy
      obtain ⟨fu, rfl⟩ : ∃ z, fu = z + 1 := ⟨fu - 1, by omega⟩
      have hkn : k < n := by omega
      obtain ⟨g1, g2, g3, g4⟩ := f2 k hkn
      have g2 : I 9 j k = nI (st k) := g2
      have g3 : I 10 j k = E 1 13 (60 * j + st k) := g3.trans (eE _)
      have e0 : ¬ nI n ≤ nI k := by rw [nI_leI (by omega) (by omega)]; omega
      rw [wp_X8_isHopeless_L19]
      simp only [fr_4 h, fr_15 h, fj_3 h hj, fj_8 h hj, fj_9 h hj, fj_10 h hj, fj_11 h hj, hi_q h, hj_q h, si_q h, sj_q h, vv_5 h, vs_5 h, vv_7 h, vs_7 h, vv_8 h, vs_8 h, vv_9 h, vs_9 h, vv_11 h, vs_11 h, vv_17 h, vs_17 h, vv_18 h, vs_18 h, vj_3 h, vj_4 h, vj_5 h, ex_some, ex_def, all_def, true_and, and_true, Nat.reduceLT, exists_eq_left, Option.some.injEq, exists_eq_left', e2, e0, not_false_eq_true, true_implies, not_true_eq_false, false_implies, true_and, and_true, false_and, and_false, forall_const, imp_self, implies_true, if_true, if_false, eq_self, Bool.true_eq_false, Bool.false_eq_true, false_or, or_false, true_or, or_true, nI_clamp (show k < 2 ^ 31 by omega), vin (show k < 60 by omega) (show 60 < 2 ^ 31 by decide), g2, g3, nI_clamp (show st k < 2 ^ 31 by omega), vin g1 (show 60 < 2 ^ 31 by decide), ← nI_succ]
      refine p_amountOf (am_q11 h hj) (amR_q11 h e2g hFg) g1 ?_
      simp only [eG, ax _ g1]
      refine ⟨fun z => ih (k + 1) fu (by omega) (by omega) (fun i hi => ?_), fun z => hQ1 (Or.inr ⟨st k, g1, z⟩)⟩
      by_cases e : i = k
      · rw [e]; exact z
      · exact hy i (by omega)
  exact key n 0 FU (by omega) (by unfold FU; omega) (fun i hi => by omega)
theorem js_0 (h : Sh A B S nj nc) : isJS (hq A B S I J R) (A 0 19) (A 0 20) := ⟨(fr_19 h _ _ _).1, (fr_19 h _ _ _).2, (fr_20 h _ _ _).1, (fr_20 h _ _ _).2⟩
theorem p_tah1 (hs : sB E nj) (hr : rx A B S nc nw nm nj cw jc od E J0 R0 I J R) (h15 : ∀ y, y < 60 → J 0 15 y = (E 1 6 y).toInt64 + sumJ nj (fun i => (E 1 14 (60 * i + y)).toInt64)) (hK : ∀ f, (∀ k, k < 256 → (jb (f (k / 64)) (k % 64) = true ↔ k < nj ∧ hop E nj cw jc k)) → K (hq A B S I (upR J 0 20 f) R)) : ∀ (r i fu : Nat) (f : Nat → Int64), i + r = nj → r < fu → (∀ k, k < 256 → (jb (f (k / 64)) (k % 64) = true ↔ k < i ∧ hop E nj cw jc k)) → wp_X8_turnAwayHopeless_L2 (A 0 4) K Q fu (hq A B S I (upR J 0 20 f) R) (nI i) := by
  have h := hr.1
  have n4 : nj ≤ 200 := hr.2.1.1.2.2.2.1
  have c7 : I 0 1 7 = nI nj := hr.st.2.1.2.2.2.1
  intro r
  induction r with
  | zero =>
    intro i fu f hi hf hm
    obtain ⟨fu, rfl⟩ : ∃ z, fu = z + 1 := ⟨fu - 1, by omega⟩
    have : i = nj := by omega
    subst this
    rw [wp_X8_turnAwayHopeless_L2]
    simp only [fr_4 h, fr_1 h, hi_q h, hj_q h, si_q h, sj_q h, vv_5 h, vs_5 h, vv_7 h, vs_7 h, vv_8 h, vs_8 h, vv_9 h, vs_9 h, vv_11 h, vs_11 h, vv_17 h, vs_17 h, vv_18 h, vs_18 h, vj_3 h, vj_4 h, vj_5 h, ex_some, ex_def, all_def, true_and, and_true, Nat.reduceLT, exists_eq_left, Option.some.injEq, exists_eq_left', c7]
    exact ⟨fun _ => hK f hm, fun z => absurd (Int32.le_refl _) z⟩
  | succ r ih =>
    intro i fu f hi hf hm
    obtain ⟨fu, rfl⟩ : ∃ z, fu = z + 1 := ⟨fu - 1, by omega⟩
    have hj : i < nj := by omega
    have u1 := (hr.jo hj).1
    have e0 : ¬ nI nj ≤ nI i := by rw [nI_leI (by omega) (by omega)]; omega
    have hr2 : rx A B S nc nw nm nj cw jc od E J0 R0 I (upR J 0 20 f) R := hr.fx (hr.2.2.1.JR (fun _ => rfl))
    rw [wp_X8_turnAwayHopeless_L2]
    simp only [fr_4 h, fr_1 h, fr_7 h, hi_q h, hj_q h, si_q h, sj_q h, vv_5 h, vs_5 h, vv_7 h, vs_7 h, vv_8 h, vs_8 h, vv_9 h, vs_9 h, vv_11 h, vs_11 h, vv_17 h, vs_17 h, vv_18 h, vs_18 h, vj_3 h, vj_4 h, vj_5 h, ex_some, ex_def, all_def, true_and, and_true, Nat.reduceLT, exists_eq_left, Option.some.injEq, exists_eq_left', c7, e0, not_false_eq_true, true_implies, not_true_eq_false, false_implies, true_and, and_true, false_and, and_false, forall_const, imp_self, implies_true, if_true, if_false, eq_self, Bool.true_eq_false, Bool.false_eq_true, false_or, or_false, true_or, or_true, nI_clamp (show i < 2 ^ 31 by omega), vin (show i < 200 by omega) (show 200 < 2 ^ 31 by decide), u1, ← nI_succ]
    refine p_hop hs hr2 h15 hj (fun z => ⟨fun q => absurd q (by decide), fun _ => ?_⟩) (fun z => ⟨fun _ => ih (i + 1) fu f (by omega) (by omega) (fun k hk => ?_), fun q => absurd rfl q⟩)
    · simp only [fr_4 h, fr_19 h, hi_q h, hj_q h, si_q h, sj_q h, vv_5 h, vs_5 h, vv_7 h, vs_7 h, vv_8 h, vs_8 h, vv_9 h, vs_9 h, vv_11 h, vs_11 h, vv_17 h, vs_17 h, vv_18 h, vs_18 h, vj_3 h, vj_4 h, vj_5 h, ex_some, ex_def, all_def, true_and, and_true, Nat.reduceLT]
      refine p_add2 (js_0 h) (by omega) (fun g hg => ?_)
      rw [sWJ_q h (by decide)]
      have eq : upR (upR J 0 20 f) 0 20 g = upR J 0 20 g := by
        funext c a p; unfold upR
        by_cases e : c = 0 ∧ a = 20 <;> simp [e]
      rw [eq]
      refine ih (i + 1) fu g (by omega) (by omega) (fun k hk => ?_)
      rw [hg k, js_hq h (by decide), up_j, Bool.or_eq_true, hm k hk, decide_eq_true_eq]
      constructor
      · rintro (⟨a, b⟩ | a)
        · exact ⟨by omega, b⟩
        · rw [a]; exact ⟨by omega, z⟩
      · rintro ⟨a, b⟩
        by_cases q : k = i
        · exact Or.inr q
        · exact Or.inl ⟨by omega, b⟩
    · rw [hm k hk]
      constructor
      · rintro ⟨a, b⟩; exact ⟨by omega, b⟩
      · rintro ⟨a, b⟩
        have : k ≠ i := fun q => z (by rw [← q]; exact b)
        exact ⟨by omega, b⟩
end HP
