section MD
variable {A : Nat → Nat → Nat} {B : Nat → Nat × Nat} {S : Hp} {nc nw nm nj : Nat} {cw jc : Nat → Nat} {I : FI} {J : FJ} {R : FR} {xs : Nat → Int32} {L : Nat} {l4 : Int32}
variable {E K : FI} {L' : FJ} {od : Nat → Nat} {s : Rs} {j x d : Nat}
theorem mx.q (hm : mx A B S nc nw nm nj cw jc od E K L' I J R) (hw : wf E nj nw cw jc s) (hr : rTr E nj s I) {i n : Nat} (hi : i < nj) (hn : n < 7) : I 1 26 i = nI n ↔ oS s i = n := by
  rw [(hr i hi).1]; exact nI_eq (by have := hw.1 i hi; omega) (by omega)
theorem p_intsm {l2 : Int32} {Q2 : Int32 → Hp → Prop} {K2 : Hp → Prop} (hw0 : wf E nj nw cw jc s) (hK : ∀ I' J', mx A B S nc nw nm nj cw jc od E K L' I' J' R → rR E nj (ints nj s) I' J' → K2 (hq A B S I' J' R)) : ∀ (r i fu : Nat) (I : FI) (J : FJ), i + r = nj → r < fu → mx A B S nc nw nm nj cw jc od E K L' I J R → wf E nj nw cw jc (par s (fun k => decide (k < i ∧ oS s k = 6)) (fun _ => 4)) → rR E nj (par s (fun k => decide (k < i ∧ oS s k = 6)) (fun _ => 4)) I J → wp_X12_goesOn_L63 (A 0 23) l2 K2 Q2 fu (hq A B S I J R) (nI i) := by
  intro r
  induction r with
  | zero =>
    intro i fu I J hi hf hm hw hr
    obtain ⟨fu, rfl⟩ : ∃ z, fu = z + 1 := ⟨fu - 1, by omega⟩
    have h := hm.1
    have : i = nj := by omega
    subst this
    rw [wp_X12_goesOn_L63]
    simp only [fr_23 h, hi_q h, hj_q h, si_q h, sj_q h, vv_5 h, vs_5 h, vv_7 h, vs_7 h, vv_8 h, vs_8 h, vv_9 h, vs_9 h, vv_11 h, vs_11 h, vv_17 h, vs_17 h, vv_18 h, vs_18 h, vj_3 h, vj_4 h, vj_5 h, ex_some, ex_def, all_def, true_and, and_true, Nat.reduceLT, hm.cn.2.2.2]
    exact ⟨fun _ => hK I J hm hr, fun z => absurd (Int32.le_refl _) z⟩
  | succ r ih =>
    intro i fu I J hi hf hm hw hr
    obtain ⟨fu, rfl⟩ : ∃ z, fu = z + 1 := ⟨fu - 1, by omega⟩
    have h := hm.1
    have n4 := hm.n.2.2.2
    have hj : i < nj := by omega
    have e0 : ¬ nI nj ≤ nI i := by rw [nI_leI (by omega) (by omega)]; omega
    have os : oS (par s (fun k => decide (k < i ∧ oS s k = 6)) (fun _ => 4)) i = oS s i := by
      rw [par_s, if_neg (fun z => by have := of_decide_eq_true z; omega)]
    have e6 : I 1 26 i = 6 ↔ oS s i = 6 := by rw [← os]; exact hm.q hw hr.1 hj (by decide)
    rw [wp_X12_goesOn_L63]
    simp only [fr_23 h, fm_26 h, hi_q h, hj_q h, si_q h, sj_q h, vv_5 h, vs_5 h, vv_7 h, vs_7 h, vv_8 h, vs_8 h, vv_9 h, vs_9 h, vv_11 h, vs_11 h, vv_17 h, vs_17 h, vv_18 h, vs_18 h, vj_3 h, vj_4 h, vj_5 h, ex_some, ex_def, all_def, true_and, and_true, Nat.reduceLT, exists_eq_left, Option.some.injEq, exists_eq_left', hm.cn.2.2.2, e0, not_false_eq_true, true_implies, not_true_eq_false, false_implies, true_and, and_true, false_and, and_false, forall_const, imp_self, implies_true, if_true, if_false, eq_self, Bool.true_eq_false, Bool.false_eq_true, false_or, or_false, true_or, or_true, nI_clamp (show i < 2 ^ 31 by omega), vin (show i < 200 by omega) (show 200 < 2 ^ 31 by decide), e6, ← nI_succ]
    refine ⟨fun z => p_intm hm hw hr hj (os.trans z) (fun I' J' m' r' => ih (i + 1) fu I' J' (by omega) (by omega) m' ?_ ?_), fun z => ih (i + 1) fu I J (by omega) (by omega) hm ?_ ?_⟩
    rotate_left 2
    · have e : par s (fun k => decide (k < i + 1 ∧ oS s k = 6)) (fun _ => 4) = par s (fun k => decide (k < i ∧ oS s k = 6)) (fun _ => 4) := par_cg (fun k => by
        rw [decide_eq_decide]
        constructor
        · rintro ⟨a, b⟩
          have : k ≠ i := fun q => z (by rw [← q]; exact b)
          exact ⟨by omega, b⟩
        · rintro ⟨a, b⟩; exact ⟨by omega, b⟩)
      rw [e]; exact hw
    · have e : par s (fun k => decide (k < i + 1 ∧ oS s k = 6)) (fun _ => 4) = par s (fun k => decide (k < i ∧ oS s k = 6)) (fun _ => 4) := par_cg (fun k => by
        rw [decide_eq_decide]
        constructor
        · rintro ⟨a, b⟩
          have : k ≠ i := fun q => z (by rw [← q]; exact b)
          exact ⟨by omega, b⟩
        · rintro ⟨a, b⟩; exact ⟨by omega, b⟩)
      rw [e]; exact hr
    all_goals
      have e : par s (fun k => decide (k < i + 1 ∧ oS s k = 6)) (fun _ => 4) = mv (par s (fun k => decide (k < i ∧ oS s k = 6)) (fun _ => 4)) i 4 := par_mv (v := fun _ => 4) (fun k => by
        rw [← Bool.decide_or, decide_eq_decide]
        constructor
        · rintro ⟨a, b⟩
          by_cases q : k = i
          · exact Or.inr q
          · exact Or.inl ⟨by omega, b⟩
        · rintro (⟨a, b⟩ | a)
          · exact ⟨by omega, b⟩
          · rw [a]; exact ⟨by omega, z⟩)
      rw [e]
      first | exact r' | exact wf_mv hw (by decide) (fun _ => by rw [os, z]; rfl)
theorem p_anym {Q : Int32 → Hp → Prop} (hm : mx A B S nc nw nm nj cw jc od E K L' I J R) (hw : wf E nj nw cw jc s) (hr : rTr E nj s I) (hQ1 : awk nj s → Q 1 (hq A B S I J R)) (hQ0 : ¬ awk nj s → Q 0 (hq A B S I J R)) : wp_X12_isAnyAtWork (hq A B S I J R) (A 0 23) Q := by
  have h := hm.1
  have n4 := hm.n.2.2.2
  have key : ∀ (r i fu : Nat), i + r = nj → r < fu → (∀ k, k < i → ¬ oS s k = 6) → wp_X12_isAnyAtWork_L2 (hq A B S I J R) (A 0 23) Q fu (nI i) := by
    intro r
    induction r with
    | zero =>
      intro i fu hi hf hy
      obtain ⟨fu, rfl⟩ : ∃ z, fu = z + 1 := ⟨fu - 1, by omega⟩
      have : i = nj := by omega
      subst this
      rw [wp_X12_isAnyAtWork_L2]
      simp only [fr_23 h, hi_q h, hj_q h, si_q h, sj_q h, vv_5 h, vs_5 h, vv_7 h, vs_7 h, vv_8 h, vs_8 h, vv_9 h, vs_9 h, vv_11 h, vs_11 h, vv_17 h, vs_17 h, vv_18 h, vs_18 h, vj_3 h, vj_4 h, vj_5 h, ex_some, ex_def, all_def, true_and, and_true, Nat.reduceLT, hm.cn.2.2.2]
      exact ⟨fun _ => hQ0 (fun ⟨k, a, b⟩ => hy k a b), fun z => absurd (Int32.le_refl _) z⟩
    | succ r ih =>
      intro i fu hi hf hy
      obtain ⟨fu, rfl⟩ : ∃ z, fu = z + 1 := ⟨fu - 1, by omega⟩
      have hj : i < nj := by omega
      have e0 : ¬ nI nj ≤ nI i := by rw [nI_leI (by omega) (by omega)]; omega
      have e6 : I 1 26 i = 6 ↔ oS s i = 6 := hm.q hw hr hj (by decide)
      rw [wp_X12_isAnyAtWork_L2]
      simp only [fr_23 h, fm_26 h, hi_q h, hj_q h, si_q h, sj_q h, vv_5 h, vs_5 h, vv_7 h, vs_7 h, vv_8 h, vs_8 h, vv_9 h, vs_9 h, vv_11 h, vs_11 h, vv_17 h, vs_17 h, vv_18 h, vs_18 h, vj_3 h, vj_4 h, vj_5 h, ex_some, ex_def, all_def, true_and, and_true, Nat.reduceLT, exists_eq_left, Option.some.injEq, exists_eq_left', hm.cn.2.2.2, e0, not_false_eq_true, true_implies, not_true_eq_false, false_implies, true_and, and_true, false_and, and_false, forall_const, imp_self, implies_true, if_true, if_false, eq_self, Bool.true_eq_false, Bool.false_eq_true, false_or, or_false, true_or, or_true, nI_clamp (show i < 2 ^ 31 by omega), vin (show i < 200 by omega) (show 200 < 2 ^ 31 by decide), e6, ← nI_succ]
      refine ⟨fun z => hQ1 ⟨i, hj, z⟩, fun z => ih (i + 1) fu (by omega) (by omega) (fun k hk => ?_)⟩
      by_cases q : k = i
      · rw [q]; exact z
      · exact hy k (by omega)
  exact key nj 0 FU (by omega) (by unfold FU; omega) (fun k hk => by omega)
theorem p_allm {Q : Int32 → Hp → Prop} (hm : mx A B S nc nw nm nj cw jc od E K L' I J R) (hw : wf E nj nw cw jc s) (hr : rTr E nj s I) (hQ1 : (∀ k, k < nj → oS s k = 1) → Q 1 (hq A B S I J R)) (hQ0 : (¬ ∀ k, k < nj → oS s k = 1) → Q 0 (hq A B S I J R)) : wp_X12_areAllDone (hq A B S I J R) (A 0 23) Q := by
  have h := hm.1
  have n4 := hm.n.2.2.2
  have key : ∀ (r i fu : Nat), i + r = nj → r < fu → (∀ k, k < i → oS s k = 1) → wp_X12_areAllDone_L2 (hq A B S I J R) (A 0 23) Q fu (nI i) := by
    intro r
    induction r with
    | zero =>
      intro i fu hi hf hy
      obtain ⟨fu, rfl⟩ : ∃ z, fu = z + 1 := ⟨fu - 1, by omega⟩
      have : i = nj := by omega
      subst this
      rw [wp_X12_areAllDone_L2]
      simp only [fr_23 h, hi_q h, hj_q h, si_q h, sj_q h, vv_5 h, vs_5 h, vv_7 h, vs_7 h, vv_8 h, vs_8 h, vv_9 h, vs_9 h, vv_11 h, vs_11 h, vv_17 h, vs_17 h, vv_18 h, vs_18 h, vj_3 h, vj_4 h, vj_5 h, ex_some, ex_def, all_def, true_and, and_true, Nat.reduceLT, hm.cn.2.2.2]
      exact ⟨fun _ => hQ1 hy, fun z => absurd (Int32.le_refl _) z⟩
    | succ r ih =>
      intro i fu hi hf hy
      obtain ⟨fu, rfl⟩ : ∃ z, fu = z + 1 := ⟨fu - 1, by omega⟩
      have hj : i < nj := by omega
      have e0 : ¬ nI nj ≤ nI i := by rw [nI_leI (by omega) (by omega)]; omega
      have e1 : I 1 26 i = 1 ↔ oS s i = 1 := hm.q hw hr hj (by decide)
      rw [wp_X12_areAllDone_L2]
      simp only [fr_23 h, fm_26 h, hi_q h, hj_q h, si_q h, sj_q h, vv_5 h, vs_5 h, vv_7 h, vs_7 h, vv_8 h, vs_8 h, vv_9 h, vs_9 h, vv_11 h, vs_11 h, vv_17 h, vs_17 h, vv_18 h, vs_18 h, vj_3 h, vj_4 h, vj_5 h, ex_some, ex_def, all_def, true_and, and_true, Nat.reduceLT, exists_eq_left, Option.some.injEq, exists_eq_left', hm.cn.2.2.2, e0, not_false_eq_true, true_implies, not_true_eq_false, false_implies, true_and, and_true, false_and, and_false, forall_const, imp_self, implies_true, if_true, if_false, eq_self, Bool.true_eq_false, Bool.false_eq_true, false_or, or_false, true_or, or_true, nI_clamp (show i < 2 ^ 31 by omega), vin (show i < 200 by omega) (show 200 < 2 ^ 31 by decide), e1, ← nI_succ]
      refine ⟨fun z => ih (i + 1) fu (by omega) (by omega) (fun k hk => ?_), fun z => hQ0 (fun w => z (w i hj))⟩
      by_cases q : k = i
      · rw [q]; exact z
      · exact hy k (by omega)
  exact key nj 0 FU (by omega) (by unfold FU; omega) (fun k hk => by omega)
theorem mx.du (hm : mx A B S nc nw nm nj cw jc od E K L' I J R) (hj : j < nj) : 1 ≤ dur E j ∧ dur E j ≤ 10000 := by
  have h3 := hm.st.2.2.2.1 j hj
  have h11 := hm.st.2.2.2.2.2.2.2.2.2.2.2.1 j hj
  rw [hm.e (k := 8) (by decide)] at h3 h11
  rw [hm.e (k := 20) (by decide)] at h11
  have key : ∀ y : Int32, 1 ≤ y.toInt → y.toInt ≤ 10000 → 1 ≤ y.toNatClampNeg ∧ y.toNatClampNeg ≤ 10000 := fun y a b => by
    rcases i32c y with z | ⟨k, hk, rfl⟩
    · rw [Int32.lt_iff_toInt_lt] at z
      have : (0 : Int32).toInt = 0 := rfl
      omega
    · rw [nI_clamp hk]
      rw [nI_toInt hk] at a b
      omega
  unfold dur
  by_cases z : 0 < E 1 20 j
  · rw [if_pos z]
    rw [Int32.lt_iff_toInt_lt] at z
    have : (0 : Int32).toInt = 0 := rfl
    exact key _ (by omega) (by omega)
  · rw [if_neg z]; exact key _ h3.2.2.2.2.2.1 h3.2.2.2.2.2.2.1
theorem p_nxtm {l1 : Int32} {K2 : Hp → Int32 → Prop} {Q2 : Int32 → Hp → Prop} (hd : d ≤ 1000000) (hm : mx A B S nc nw nm nj cw jc od E K L' I J R) (hw : wf E nj nw cw jc s) (hr : rTr E nj s I) (hK : ∀ m, nxt E nj s d m → K2 (hq A B S I J R) (nI m)) : ∀ (r i fu m : Nat), i + r = nj → r < fu → m ≤ d → (∀ k, k < i → oS s k = 6 → m ≤ endN E s k) → (m = d ∨ ∃ k, k < nj ∧ oS s k = 6 ∧ endN E s k = m) → wp_X12_goesOn_L132 (A 0 23) l1 K2 Q2 fu (hq A B S I J R) (nI m) (nI i) := by
  have h := hm.1
  have n4 := hm.n.2.2.2
  intro r
  induction r with
  | zero =>
    intro i fu m hi hf h1 h2 h3
    obtain ⟨fu, rfl⟩ : ∃ z, fu = z + 1 := ⟨fu - 1, by omega⟩
    have : i = nj := by omega
    subst this
    rw [wp_X12_goesOn_L132]
    simp only [fr_23 h, hi_q h, hj_q h, si_q h, sj_q h, vv_5 h, vs_5 h, vv_7 h, vs_7 h, vv_8 h, vs_8 h, vv_9 h, vs_9 h, vv_11 h, vs_11 h, vv_17 h, vs_17 h, vv_18 h, vs_18 h, vj_3 h, vj_4 h, vj_5 h, ex_some, ex_def, all_def, true_and, and_true, Nat.reduceLT, hm.cn.2.2.2]
    exact ⟨fun _ => hK m ⟨h1, h2, h3⟩, fun z => absurd (Int32.le_refl _) z⟩
  | succ r ih =>
    intro i fu m hi hf h1 h2 h3
    obtain ⟨fu, rfl⟩ : ∃ z, fu = z + 1 := ⟨fu - 1, by omega⟩
    have hj : i < nj := by omega
    have e0 : ¬ nI nj ≤ nI i := by rw [nI_leI (by omega) (by omega)]; omega
    have e6 : I 1 26 i = 6 ↔ oS s i = 6 := hm.q hw hr hj (by decide)
    rw [wp_X12_goesOn_L132]
    simp only [fr_23 h, fm_26 h, hi_q h, hj_q h, si_q h, sj_q h, vv_5 h, vs_5 h, vv_7 h, vs_7 h, vv_8 h, vs_8 h, vv_9 h, vs_9 h, vv_11 h, vs_11 h, vv_17 h, vs_17 h, vv_18 h, vs_18 h, vj_3 h, vj_4 h, vj_5 h, ex_some, ex_def, all_def, true_and, and_true, Nat.reduceLT, exists_eq_left, Option.some.injEq, exists_eq_left', hm.cn.2.2.2, e0, not_false_eq_true, true_implies, not_true_eq_false, false_implies, true_and, and_true, false_and, and_false, forall_const, imp_self, implies_true, if_true, if_false, eq_self, Bool.true_eq_false, Bool.false_eq_true, false_or, or_false, true_or, or_true, nI_clamp (show i < 2 ^ 31 by omega), vin (show i < 200 by omega) (show 200 < 2 ^ 31 by decide), e6, ← nI_succ]
    refine ⟨fun z => p_eofm hm hr hj (by rw [z]; rfl) ?_, fun z => ih (i + 1) fu m (by omega) (by omega) h1 (fun k hk h6 => ?_) h3⟩
    · have bb : oB s i ≤ oM s := hw.2.2.2.2.1 i hj (by rw [z]; rfl)
      have mM : oM s ≤ 1000000 := hw.2.2.2.2.2.2
      have dd := hm.du hj
      have en : endN E s i < 2 ^ 31 := by unfold endN; omega
      by_cases q : nI (endN E s i) < nI m
      · rw [if_pos q]
        rw [nI_lti en (by omega)] at q
        refine ih (i + 1) fu _ (by omega) (by omega) (by omega) (fun k hk h6 => ?_) (Or.inr ⟨i, hj, z, rfl⟩)
        by_cases e : k = i
        · rw [e]; exact Nat.le_refl _
        · have := h2 k (by omega) h6; omega
      · rw [if_neg q]
        rw [nI_lti en (by omega)] at q
        refine ih (i + 1) fu m (by omega) (by omega) h1 (fun k hk h6 => ?_) h3
        by_cases e : k = i
        · rw [e]; omega
        · exact h2 k (by omega) h6
    · by_cases e : k = i
      · rw [e] at h6; exact absurd h6 z
      · exact h2 k (by omega) h6
end MD
