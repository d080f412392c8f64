section MC
variable {A : Nat → Nat → Nat} {B : Nat → Nat × Nat} {S : Hp} {nc nw nm nj : Nat} {cw jc : Nat → Nat} {I : FI} {J : FJ} {R : FR} {xs : Nat → Int32} {L : Nat} {l4 : Int32}
variable {E K : FI} {L' : FJ} {od : Nat → Nat} {s : Rs} {j x d : Nat} {Q : Hp → Prop}
theorem mx.ln (hm : mx A B S nc nw nm nj cw jc od E K L' I J R) {a b : Nat} (ha : a < nj) (hb : b < nj) : (E 1 11 (200 * a + b) = 0 ↔ ¬ E 1 11 (200 * a + b) = 1) := by
  have := hm.st.2.2.2.2.2.2.1.2.1 a b ha hb
  rw [hm.e (by decide)] at this
  exact ⟨fun z => by rw [z]; decide, fun z => this.resolve_right z⟩
theorem mx.bf (hm : mx A B S nc nw nm nj cw jc od E K L' I J R) {a b : Nat} (ha : a < nj) (hb : b < nj) : (E 1 10 (200 * a + b) = 0 ↔ ¬ E 1 10 (200 * a + b) = 1) := by
  obtain ⟨-, bn, bl, an, al, -, -, y3, -⟩ := hm.st.2.2.2.2.2.1
  have := (y3 a b ha hb).1
  rw [hm.e (by decide)] at this
  exact ⟨fun z => by rw [z]; decide, fun z => this.resolve_right z⟩
theorem p_can12 {K2 : Hp → Prop} (hm : mx A B S nc nw nm nj cw jc od E K L' I J R) (hw : wf E nj nw cw jc s) (hr : rR E nj s I J) (hj : j < nj) (h1 : oS s j = 0 ∧ lnf E nj s j → ∀ I', mx A B S nc nw nm nj cw jc od E K L' I' J R → rR E nj (mv s j 3) I' J → K2 (hq A B S I' J R)) (h0 : ¬ (oS s j = 0 ∧ lnf E nj s j) → K2 (hq A B S I J R)) : ∀ (r k fu : Nat), k + r = nj → r + 1 < fu → (∀ m, m < k → ¬ (E 1 11 (200 * j + m) = 1 ∧ oS s m = 2 ∧ oE s m = oM s)) → wp_X12_cancels_L12 (A 0 23) (nI j) K2 Q fu (hq A B S I J R) (nI k) := by
  have h := hm.1
  have n4 := hm.n.2.2.2
  have e26 : ∀ i, i < nj → I 1 26 i = nI (oS s i) := fun i hi => (hr.1 i hi).1
  have eq : ∀ i n, i < nj → n < 7 → (nI (oS s i) = nI n ↔ oS s i = n) := fun i n hi hn => nI_eq (by have := hw.1 i hi; omega) (by omega)
  intro r
  induction r with
  | zero =>
    intro k fu hk hf hy
    obtain ⟨fu, rfl⟩ : ∃ z, fu = z + 1 := ⟨fu - 1, by omega⟩
    have : k = nj := by omega
    subst this
    rw [wp_X12_cancels_L12]
    simp only [fr_23 h, hi_q h, hj_q h, si_q h, sj_q h, vv_5 h, vs_5 h, vv_7 h, vs_7 h, vv_8 h, vs_8 h, vv_9 h, vs_9 h, vv_11 h, vs_11 h, vv_17 h, vs_17 h, vv_18 h, vs_18 h, vj_3 h, vj_4 h, vj_5 h, ex_some, ex_def, all_def, true_and, and_true, Nat.reduceLT, hm.cn.2.2.2]
    exact ⟨fun _ => h0 (fun ⟨_, m, a, b, c, e⟩ => hy m a ⟨b, c, e⟩), fun z => absurd (Int32.le_refl _) z⟩
  | succ r ih =>
    intro k fu hk hf hy
    obtain ⟨fu, rfl⟩ : ∃ z, fu = z + 1 := ⟨fu - 1, by omega⟩
    have hkn : k < nj := by omega
    have e0 : ¬ nI nj ≤ nI k := by rw [nI_leI (by omega) (by omega)]; omega
    have next : ¬ (E 1 11 (200 * j + k) = 1 ∧ oS s k = 2 ∧ oE s k = oM s) → wp_X12_cancels_L12 (A 0 23) (nI j) K2 Q fu (hq A B S I J R) (nI (k + 1)) := fun z => ih (k + 1) fu (by omega) (by omega) (fun m hm2 => by
      by_cases q : m = k
      · rw [q]; exact z
      · exact hy m (by omega))
    have z0 : nI (oS s j) = 0 ↔ oS s j = 0 := eq j 0 hj (by decide)
    have z2 : nI (oS s k) = 2 ↔ oS s k = 2 := eq k 2 hkn (by decide)
    rw [wp_X12_cancels_L12]
    simp only [fr_23 h, fm_26 h, fm_11 h, fm_28 h, hi_q h, hj_q h, si_q h, sj_q h, vv_5 h, vs_5 h, vv_7 h, vs_7 h, vv_8 h, vs_8 h, vv_9 h, vs_9 h, vv_11 h, vs_11 h, vv_17 h, vs_17 h, vv_18 h, vs_18 h, vj_3 h, vj_4 h, vj_5 h, ex_some, ex_def, all_def, true_and, and_true, Nat.reduceLT, exists_eq_left, Option.some.injEq, exists_eq_left', hm.cn.2.2.2, e0, not_false_eq_true, true_implies, not_true_eq_false, false_implies, true_and, and_true, false_and, and_false, forall_const, imp_self, implies_true, if_true, if_false, eq_self, Bool.true_eq_false, Bool.false_eq_true, false_or, or_false, true_or, or_true, i200, nI_clamp (show j < 2 ^ 31 by omega), vin (show j < 200 by omega) (show 200 < 2 ^ 31 by decide), nI_clamp (show k < 2 ^ 31 by omega), vin (show k < 200 by omega) (show 200 < 2 ^ 31 by decide), nI_clamp (show 200 * j + k < 2 ^ 31 by omega), vin (show 200 * j + k < 40000 by omega) (show 40000 < 2 ^ 31 by decide), hm.e (show 11 < 26 by decide), e26 j hj, e26 k hkn, z0, z2, hm.ln hj hkn, ← nI_succ]
    refine ⟨fun a => ⟨fun b => next (fun w => b w.1), fun b => ⟨fun c => ?_, fun c => next (fun w => c w.2.1)⟩⟩, fun a => h0 (fun w => a w.1)⟩
    have e28 : I 1 28 k = nI (oE s k) := by rw [(hr.1 k hkn).2.2.1]; unfold emI; rw [c, if_pos (show edd 2 = true from rfl)]
    have mi : I 0 23 24 = nI (oM s) := hr.2.2.2.2.2.2.1
    have mM : oM s ≤ 1000000 := hw.2.2.2.2.2.2
    have ol : oE s k ≤ oM s := hw.2.2.2.2.2.1 k hkn (by omega) (by omega)
    have ee : nI (oE s k) = nI (oM s) ↔ oE s k = oM s := nI_eq (by omega) (by omega)
    rw [e28, mi, ee]
    refine ⟨fun e => ?_, fun e => next (fun w => e w.2.2)⟩
    refine p_offm (x := 3) (k := 3) hm hw hr hj a (Or.inl rfl) rfl (fun I' m' r' => ?_)
    have fin := h1 ⟨a, k, hkn, Classical.not_not.mp b, c, e⟩ I' m' r'
    obtain ⟨fu, rfl⟩ : ∃ z, fu = z + 1 := ⟨fu - 1, by omega⟩
    have e3 : I' 1 26 j = nI 3 := by rw [(r'.1 j hj).1, mv_s]
    have n3 : ¬ nI 3 = 0 := by decide
    rw [wp_X12_cancels_L12]
    simp only [fr_23 h, fm_26 h, hi_q h, hj_q h, si_q h, sj_q h, vv_5 h, vs_5 h, vv_7 h, vs_7 h, vv_8 h, vs_8 h, vv_9 h, vs_9 h, vv_11 h, vs_11 h, vv_17 h, vs_17 h, vv_18 h, vs_18 h, vj_3 h, vj_4 h, vj_5 h, ex_some, ex_def, all_def, true_and, and_true, Nat.reduceLT, exists_eq_left, Option.some.injEq, exists_eq_left', nI_clamp (show j < 2 ^ 31 by omega), vin (show j < 200 by omega) (show 200 < 2 ^ 31 by decide), e3, n3, not_false_eq_true, true_implies, not_true_eq_false, false_implies, true_and, and_true, false_and, and_false, forall_const, imp_self, implies_true, if_true, if_false, eq_self, Bool.true_eq_false, Bool.false_eq_true, false_or, or_false, true_or, or_true]
    exact ⟨fun _ => fin, fun _ => fin⟩
theorem p_canm_L (hw0 : wf E nj nw cw jc s) (hQ : ∀ I', mx A B S nc nw nm nj cw jc od E K L' I' J R → wf E nj nw cw jc (cans E nj s) → rR E nj (cans E nj s) I' J → Q (hq A B S I' J R)) : ∀ (r i fu : Nat) (I : FI), i + r = nj → r < fu → mx A B S nc nw nm nj cw jc od E K L' I J R → wf E nj nw cw jc (par s (fun k => decide (k < i ∧ oS s k = 0 ∧ lnf E nj s k)) (fun _ => 3)) → rR E nj (par s (fun k => decide (k < i ∧ oS s k = 0 ∧ lnf E nj s k)) (fun _ => 3)) I J → wp_X12_cancels_L2 (A 0 23) Q fu (hq A B S I J R) (nI i) := by
  intro r
  induction r with
  | zero =>
    intro i fu I hi hf hm hw hr
    obtain ⟨fu, rfl⟩ : ∃ z, fu = z + 1 := ⟨fu - 1, by omega⟩
    have h := hm.1
    have : i = nj := by omega
    subst this
    rw [wp_X12_cancels_L2]
    simp only [fr_23 h, hi_q h, hj_q h, si_q h, sj_q h, vv_5 h, vs_5 h, vv_7 h, vs_7 h, vv_8 h, vs_8 h, vv_9 h, vs_9 h, vv_11 h, vs_11 h, vv_17 h, vs_17 h, vv_18 h, vs_18 h, vj_3 h, vj_4 h, vj_5 h, ex_some, ex_def, all_def, true_and, and_true, Nat.reduceLT, hm.cn.2.2.2]
    exact ⟨fun _ => hQ I hm hw hr, fun z => absurd (Int32.le_refl _) z⟩
  | succ r ih =>
    intro i fu I hi hf hm hw hr
    obtain ⟨fu, rfl⟩ : ∃ z, fu = z + 1 := ⟨fu - 1, by omega⟩
    have h := hm.1
    have n4 := hm.n.2.2.2
    have hj : i < nj := by omega
    have e0 : ¬ nI nj ≤ nI i := by rw [nI_leI (by omega) (by omega)]; omega
    have os : ∀ k, i ≤ k → oS (par s (fun k => decide (k < i ∧ oS s k = 0 ∧ lnf E nj s k)) (fun _ => 3)) k = oS s k := fun k hk => by
      rw [par_s, if_neg (fun z => by have := of_decide_eq_true z; omega)]
    have m2 : ∀ m, m < nj → ((oS (par s (fun k => decide (k < i ∧ oS s k = 0 ∧ lnf E nj s k)) (fun _ => 3)) m = 2 ∧ oE (par s (fun k => decide (k < i ∧ oS s k = 0 ∧ lnf E nj s k)) (fun _ => 3)) m = oM s) ↔ (oS s m = 2 ∧ oE s m = oM s)) := fun m hm2 => by
      rw [par_s, par_e]
      by_cases z : decide (m < i ∧ oS s m = 0 ∧ lnf E nj s m) = true
      · rw [if_pos z, if_pos z]
        have := (of_decide_eq_true z).2.1
        constructor
        · intro q; omega
        · intro q; omega
      · rw [if_neg z, if_neg z]
    have ml : lnf E nj (par s (fun k => decide (k < i ∧ oS s k = 0 ∧ lnf E nj s k)) (fun _ => 3)) i ↔ lnf E nj s i := ⟨fun ⟨m, a, b, c⟩ => ⟨m, a, b, (m2 m a).mp c⟩, fun ⟨m, a, b, c⟩ => ⟨m, a, b, (m2 m a).mpr c⟩⟩
    rw [wp_X12_cancels_L2]
    simp only [fr_23 h, hi_q h, hj_q h, si_q h, sj_q h, vv_5 h, vs_5 h, vv_7 h, vs_7 h, vv_8 h, vs_8 h, vv_9 h, vs_9 h, vv_11 h, vs_11 h, vv_17 h, vs_17 h, vv_18 h, vs_18 h, vj_3 h, vj_4 h, vj_5 h, ex_some, ex_def, all_def, true_and, and_true, Nat.reduceLT, hm.cn.2.2.2, e0, not_false_eq_true, true_implies, not_true_eq_false, false_implies, true_and, and_true, false_and, and_false, forall_const, imp_self, implies_true, if_true, if_false, eq_self, Bool.true_eq_false, Bool.false_eq_true, false_or, or_false, true_or, or_true, ← nI_succ]
    refine p_can12 hm hw hr hj (fun z I' m' r' => ih (i + 1) fu I' (by omega) (by omega) m' ?_ ?_) (fun z => ih (i + 1) fu I (by omega) (by omega) hm ?_ ?_) nj 0 FU (by omega) (by unfold FU; omega) (fun m hm2 => by omega)
    rotate_left 2
    · have e : par s (fun k => decide (k < i + 1 ∧ oS s k = 0 ∧ lnf E nj s k)) (fun _ => 3) = par s (fun k => decide (k < i ∧ oS s k = 0 ∧ lnf E nj s k)) (fun _ => 3) := par_cg (fun k => by
        rw [decide_eq_decide]
        constructor
        · rintro ⟨a, b⟩
          have : k ≠ i := fun q => z (by rw [os i (Nat.le_refl _), ml, ← q]; exact b)
          exact ⟨by omega, b⟩
        · rintro ⟨a, b⟩; exact ⟨by omega, b⟩)
      rw [e]; exact hw
    · have e : par s (fun k => decide (k < i + 1 ∧ oS s k = 0 ∧ lnf E nj s k)) (fun _ => 3) = par s (fun k => decide (k < i ∧ oS s k = 0 ∧ lnf E nj s k)) (fun _ => 3) := par_cg (fun k => by
        rw [decide_eq_decide]
        constructor
        · rintro ⟨a, b⟩
          have : k ≠ i := fun q => z (by rw [os i (Nat.le_refl _), ml, ← q]; exact b)
          exact ⟨by omega, b⟩
        · rintro ⟨a, b⟩; exact ⟨by omega, b⟩)
      rw [e]; exact hr
    all_goals
      have e : par s (fun k => decide (k < i + 1 ∧ oS s k = 0 ∧ lnf E nj s k)) (fun _ => 3) = mv (par s (fun k => decide (k < i ∧ oS s k = 0 ∧ lnf E nj s k)) (fun _ => 3)) i 3 := par_mv (v := fun _ => 3) (fun k => by
        rw [← Bool.decide_or, decide_eq_decide]
        constructor
        · rintro ⟨a, b⟩
          by_cases q : k = i
          · exact Or.inr q
          · exact Or.inl ⟨by omega, b⟩
        · rintro (⟨a, b⟩ | a)
          · exact ⟨by omega, b⟩
          · rw [a]; rw [os i (Nat.le_refl _), ml] at z; exact ⟨by omega, z⟩)
      rw [e]
      first | exact r' | exact wf_mv hw (by decide) (fun q => absurd q (by decide))
theorem p_canm (hm : mx A B S nc nw nm nj cw jc od E K L' I J R) (hw : wf E nj nw cw jc s) (hr : rR E nj s I J) (hQ : ∀ I', mx A B S nc nw nm nj cw jc od E K L' I' J R → wf E nj nw cw jc (cans E nj s) → rR E nj (cans E nj s) I' J → Q (hq A B S I' J R)) : wp_X12_cancels (hq A B S I J R) (A 0 23) Q := by
  have e : par s (fun k => decide (k < 0 ∧ oS s k = 0 ∧ lnf E nj s k)) (fun _ => 3) = s := par_0 (fun k => decide_eq_false (fun q => by omega))
  exact p_canm_L hw hQ nj 0 FU I (by omega) (by have := hm.n.2.2.2; unfold FU; omega) hm (by rw [e]; exact hw) (by rw [e]; exact hr)
theorem p_nevm_L (hw0 : wf E nj nw cw jc s) (hQ : ∀ I', mx A B S nc nw nm nj cw jc od E K L' I' J R → rR E nj (nevs nj s) I' J → Q (hq A B S I' J R)) : ∀ (r i fu : Nat) (I : FI), i + r = nj → r < fu → mx A B S nc nw nm nj cw jc od E K L' I J R → wf E nj nw cw jc (par s (fun k => decide (k < i ∧ oS s k = 0)) (fun _ => 5)) → rR E nj (par s (fun k => decide (k < i ∧ oS s k = 0)) (fun _ => 5)) I J → wp_X12_neverBegin_L2 (A 0 23) Q fu (hq A B S I J R) (nI i) := by
  intro r
  induction r with
  | zero =>
    intro i fu I hi hf hm hw hr
    obtain ⟨fu, rfl⟩ : ∃ z, fu = z + 1 := ⟨fu - 1, by omega⟩
    have h := hm.1
    have : i = nj := by omega
    subst this
    rw [wp_X12_neverBegin_L2]
    simp only [fr_23 h, hi_q h, hj_q h, si_q h, sj_q h, vv_5 h, vs_5 h, vv_7 h, vs_7 h, vv_8 h, vs_8 h, vv_9 h, vs_9 h, vv_11 h, vs_11 h, vv_17 h, vs_17 h, vv_18 h, vs_18 h, vj_3 h, vj_4 h, vj_5 h, ex_some, ex_def, all_def, true_and, and_true, Nat.reduceLT, hm.cn.2.2.2]
    exact ⟨fun _ => hQ I hm hr, fun z => absurd (Int32.le_refl _) z⟩
  | succ r ih =>
    intro i fu I hi hf hm hw hr
    obtain ⟨fu, rfl⟩ : ∃ z, fu = z + 1 := ⟨fu - 1, by omega⟩
    have h := hm.1
    have n4 := hm.n.2.2.2
    have hj : i < nj := by omega
    have e0 : ¬ nI nj ≤ nI i := by rw [nI_leI (by omega) (by omega)]; omega
    have os : oS (par s (fun k => decide (k < i ∧ oS s k = 0)) (fun _ => 5)) i = oS s i := by
      rw [par_s, if_neg (fun z => by have := of_decide_eq_true z; omega)]
    have e26 : I 1 26 i = nI (oS s i) := by rw [(hr.1 i hj).1, os]
    have z0 : nI (oS s i) = 0 ↔ oS s i = 0 := nI_eq (b := 0) (by have := hw0.1 i hj; omega) (by decide)
    rw [wp_X12_neverBegin_L2]
    simp only [fr_23 h, fm_26 h, hi_q h, hj_q h, si_q h, sj_q h, vv_5 h, vs_5 h, vv_7 h, vs_7 h, vv_8 h, vs_8 h, vv_9 h, vs_9 h, vv_11 h, vs_11 h, vv_17 h, vs_17 h, vv_18 h, vs_18 h, vj_3 h, vj_4 h, vj_5 h, ex_some, ex_def, all_def, true_and, and_true, Nat.reduceLT, exists_eq_left, Option.some.injEq, exists_eq_left', hm.cn.2.2.2, e0, not_false_eq_true, true_implies, not_true_eq_false, false_implies, true_and, and_true, false_and, and_false, forall_const, imp_self, implies_true, if_true, if_false, eq_self, Bool.true_eq_false, Bool.false_eq_true, false_or, or_false, true_or, or_true, nI_clamp (show i < 2 ^ 31 by omega), vin (show i < 200 by omega) (show 200 < 2 ^ 31 by decide), e26, z0, ← nI_succ]
    refine ⟨fun z => p_offm (x := 5) (k := 6) hm hw hr hj (os.trans z) (Or.inr rfl) rfl (fun I' m' r' => ih (i + 1) fu I' (by omega) (by omega) m' ?_ ?_), fun z => ih (i + 1) fu I (by omega) (by omega) hm ?_ ?_⟩
    rotate_left 2
    · have e : par s (fun k => decide (k < i + 1 ∧ oS s k = 0)) (fun _ => 5) = par s (fun k => decide (k < i ∧ oS s k = 0)) (fun _ => 5) := par_cg (fun k => by
        rw [decide_eq_decide]
        constructor
        · rintro ⟨a, b⟩
          have : k ≠ i := fun q => z (by rw [← q]; exact b)
          exact ⟨by omega, b⟩
        · rintro ⟨a, b⟩; exact ⟨by omega, b⟩)
      rw [e]; exact hw
    · have e : par s (fun k => decide (k < i + 1 ∧ oS s k = 0)) (fun _ => 5) = par s (fun k => decide (k < i ∧ oS s k = 0)) (fun _ => 5) := par_cg (fun k => by
        rw [decide_eq_decide]
        constructor
        · rintro ⟨a, b⟩
          have : k ≠ i := fun q => z (by rw [← q]; exact b)
          exact ⟨by omega, b⟩
        · rintro ⟨a, b⟩; exact ⟨by omega, b⟩)
      rw [e]; exact hr
    all_goals
      have e : par s (fun k => decide (k < i + 1 ∧ oS s k = 0)) (fun _ => 5) = mv (par s (fun k => decide (k < i ∧ oS s k = 0)) (fun _ => 5)) i 5 := par_mv (v := fun _ => 5) (fun k => by
        rw [← Bool.decide_or, decide_eq_decide]
        constructor
        · rintro ⟨a, b⟩
          by_cases q : k = i
          · exact Or.inr q
          · exact Or.inl ⟨by omega, b⟩
        · rintro (⟨a, b⟩ | a)
          · exact ⟨by omega, b⟩
          · rw [a]; exact ⟨by omega, z⟩)
      rw [e]
      first | exact r' | exact wf_mv hw (by decide) (fun q => absurd q (by decide))
theorem p_nevm (hm : mx A B S nc nw nm nj cw jc od E K L' I J R) (hw : wf E nj nw cw jc s) (hr : rR E nj s I J) (hQ : ∀ I', mx A B S nc nw nm nj cw jc od E K L' I' J R → rR E nj (nevs nj s) I' J → Q (hq A B S I' J R)) : wp_X12_neverBegin (hq A B S I J R) (A 0 23) Q := by
  have e : par s (fun k => decide (k < 0 ∧ oS s k = 0)) (fun _ => 5) = s := par_0 (fun k => decide_eq_false (fun q => by omega))
  exact p_nevm_L hw hQ nj 0 FU I (by omega) (by have := hm.n.2.2.2; unfold FU; omega) hm (by rw [e]; exact hw) (by rw [e]; exact hr)
end MC
