section MG
variable {A : Nat → Nat → Nat} {B : Nat → Nat × Nat} {S : Hp} {nc nw nm nj : Nat} {cw jc : Nat → Nat} {I : FI} {J : FJ} {R : FR} {xs : Nat → Int32} {L : Nat} {l4 : Int32}
variable {E K : FI} {L' : FJ} {od : Nat → Nat} {s : Rs} {j x d : Nat} {Q : Int32 → Hp → Prop}
theorem p_rdym (hm : mx A B S nc nw nm nj cw jc od E K L' I J R) (hw : wf E nj nw cw jc s) (hr : rTr E nj s I) (hj : j < nj) (hQ1 : rdy E nj s j → Q 1 (hq A B S I J R)) (hQ0 : ¬ rdy E nj s j → Q 0 (hq A B S I J R)) : wp_X12_isReady (hq A B S I J R) (A 0 23) (nI j) Q := by
  have h := hm.1
  have n4 := hm.n.2.2.2
  have z0 : I 1 26 j = 0 ↔ oS s j = 0 := hm.q hw hr hj (by decide)
  unfold wp_X12_isReady
  simp only [fr_23 h, fm_26 h, hi_q h, hj_q h, si_q h, sj_q h, vv_5 h, vs_5 h, vv_7 h, vs_7 h, vv_8 h, vs_8 h, vv_9 h, vs_9 h, vv_11 h, vs_11 h, vv_17 h, vs_17 h, vv_18 h, vs_18 h, vj_3 h, vj_4 h, vj_5 h, ex_some, ex_def, all_def, true_and, and_true, Nat.reduceLT, exists_eq_left, Option.some.injEq, exists_eq_left', nI_clamp (show j < 2 ^ 31 by omega), vin (show j < 200 by omega) (show 200 < 2 ^ 31 by decide), z0]
  refine ⟨fun z => ?_, fun z => hQ0 (fun w => z w.1)⟩
  have key : ∀ (r k fu : Nat), k + r = nj → r < fu → (∀ m, m < k → E 1 10 (200 * j + m) = 1 → oS s m = 1) → wp_X12_isReady_L13 (hq A B S I J R) (A 0 23) (nI j) Q fu (nI k) := by
    intro r
    induction r with
    | zero =>
      intro k fu hk hf hy
      obtain ⟨fu, rfl⟩ : ∃ z, fu = z + 1 := ⟨fu - 1, by omega⟩
      have : k = nj := by omega
      subst this
      rw [wp_X12_isReady_L13]
      simp only [fr_23 h, hi_q h, hj_q h, si_q h, sj_q h, vv_5 h, vs_5 h, vv_7 h, vs_7 h, vv_8 h, vs_8 h, vv_9 h, vs_9 h, vv_11 h, vs_11 h, vv_17 h, vs_17 h, vv_18 h, vs_18 h, vj_3 h, vj_4 h, vj_5 h, ex_some, ex_def, all_def, true_and, and_true, Nat.reduceLT, hm.cn.2.2.2]
      exact ⟨fun _ => hQ1 ⟨z, hy⟩, fun z => absurd (Int32.le_refl _) z⟩
    | succ r ih =>
      intro k fu hk hf hy
      obtain ⟨fu, rfl⟩ : ∃ z, fu = z + 1 := ⟨fu - 1, by omega⟩
      have hkn : k < nj := by omega
      have e0 : ¬ nI nj ≤ nI k := by rw [nI_leI (by omega) (by omega)]; omega
      have e1 : I 1 26 k = 1 ↔ oS s k = 1 := hm.q hw hr hkn (by decide)
      have next : (E 1 10 (200 * j + k) = 1 → oS s k = 1) → wp_X12_isReady_L13 (hq A B S I J R) (A 0 23) (nI j) Q fu (nI (k + 1)) := fun z => ih (k + 1) fu (by omega) (by omega) (fun m hm2 => by
        by_cases q : m = k
        · rw [q]; exact z
        · exact hy m (by omega))
      rw [wp_X12_isReady_L13]
      simp only [fr_23 h, fm_10 h, fm_26 h, hi_q h, hj_q h, si_q h, sj_q h, vv_5 h, vs_5 h, vv_7 h, vs_7 h, vv_8 h, vs_8 h, vv_9 h, vs_9 h, vv_11 h, vs_11 h, vv_17 h, vs_17 h, vv_18 h, vs_18 h, vj_3 h, vj_4 h, vj_5 h, ex_some, ex_def, all_def, true_and, and_true, Nat.reduceLT, exists_eq_left, Option.some.injEq, exists_eq_left', hm.cn.2.2.2, e0, not_false_eq_true, true_implies, not_true_eq_false, false_implies, true_and, and_true, false_and, and_false, forall_const, imp_self, implies_true, if_true, if_false, eq_self, Bool.true_eq_false, Bool.false_eq_true, false_or, or_false, true_or, or_true, i200, nI_clamp (show k < 2 ^ 31 by omega), vin (show k < 200 by omega) (show 200 < 2 ^ 31 by decide), nI_clamp (show 200 * j + k < 2 ^ 31 by omega), vin (show 200 * j + k < 40000 by omega) (show 40000 < 2 ^ 31 by decide), hm.e (show 10 < 26 by decide), e1, hm.bf hj hkn, ← nI_succ]
      exact ⟨fun a => next (fun w => absurd w a), fun a => ⟨fun b => next (fun _ => b), fun b => hQ0 (fun w => b (w.2 k hkn (Classical.not_not.mp a)))⟩⟩
  exact key nj 0 FU (by omega) (by unfold FU; omega) (fun k hk => by omega)
theorem mx.cwe (hm : mx A B S nc nw nm nj cw jc od E K L' I J R) {c : Nat} (hc : c < nc) : E 1 5 c = nI (cw c) := by
  have := (hm.st.2.2.1 c hc).2.2.2.2
  rw [hm.e (by decide)] at this; exact this
theorem p_fwm {c : Nat} (hm : mx A B S nc nw nm nj cw jc od E K L' I J R) (hr : rAw nj s I) (hc : c < nc) (hQ1 : ∀ w, lfw nj cw s c w → w < nw → Q (nI w) (hq A B S I J R)) (hQ0 : ¬ hasW nj cw s c → Q (-1) (hq A B S I J R)) : wp_X12_freeWorker (hq A B S I J R) (A 0 23) (nI c) Q := by
  have h := hm.1
  have n1 := hm.n.1
  have n2 := hm.n.2.1
  have e5 := fun {c} hc => hm.cwe (c := c) hc
  have fn : fwk cw nc = nw := hm.2.1.1.2.2.2.2.1
  have cc : fwk cw c + cw c ≤ nw := by have := fwk_ge (cw := cw) nc hc; omega
  unfold wp_X12_freeWorker
  have k1 : ∀ (r k fu : Nat) (K2 : Int32 → Prop), k + r = c → r < fu → K2 (nI (fwk cw c)) → wp_X12_freeWorker_L4 (hq A B S I J R) (A 0 23) (nI c) K2 Q fu (nI (fwk cw k)) (nI k) := by
    intro r
    induction r with
    | zero =>
      intro k fu K2 hk hf hK
      obtain ⟨fu, rfl⟩ : ∃ z, fu = z + 1 := ⟨fu - 1, by omega⟩
      have : k = c := by omega
      subst this
      rw [wp_X12_freeWorker_L4]
      exact ⟨fun _ => hK, fun z => absurd (Int32.le_refl _) z⟩
    | succ r ih =>
      intro k fu K2 hk hf hK
      obtain ⟨fu, rfl⟩ : ∃ z, fu = z + 1 := ⟨fu - 1, by omega⟩
      have e0 : ¬ nI c ≤ nI k := by rw [nI_leI (by omega) (by omega)]; omega
      rw [wp_X12_freeWorker_L4]
      simp only [fr_23 h, fm_5 h, hi_q h, hj_q h, si_q h, sj_q h, vv_5 h, vs_5 h, vv_7 h, vs_7 h, vv_8 h, vs_8 h, vv_9 h, vs_9 h, vv_11 h, vs_11 h, vv_17 h, vs_17 h, vv_18 h, vs_18 h, vj_3 h, vj_4 h, vj_5 h, ex_some, ex_def, all_def, true_and, and_true, Nat.reduceLT, e0, not_false_eq_true, true_implies, not_true_eq_false, false_implies, true_and, and_true, false_and, and_false, forall_const, imp_self, implies_true, if_true, if_false, eq_self, Bool.true_eq_false, Bool.false_eq_true, false_or, or_false, true_or, or_true, nI_clamp (show k < 2 ^ 31 by omega), vin (show k < 8 by omega) (show 8 < 2 ^ 31 by decide), hm.e (show 5 < 26 by decide), e5 (show k < nc by omega), nI_add, ← nI_succ]
      exact ih (k + 1) fu K2 (by omega) (by omega) hK
  have k2 : ∀ (r k fu : Nat), k + r = cw c → r < fu → (∀ i, i < k → fre nj s (fwk cw c + i) = false) → wp_X12_freeWorker_L26 (hq A B S I J R) (A 0 23) (nI c) (nI (fwk cw c)) Q fu (nI k) := by
    intro r
    induction r with
    | zero =>
      intro k fu hk hf hy
      obtain ⟨fu, rfl⟩ : ∃ z, fu = z + 1 := ⟨fu - 1, by omega⟩
      have hkc : k = cw c := by omega
      have e0 : nI (cw c) ≤ nI k := by rw [nI_leI (by omega) (by omega)]; omega
      rw [wp_X12_freeWorker_L26]
      simp only [fr_23 h, fm_5 h, hi_q h, hj_q h, si_q h, sj_q h, vv_5 h, vs_5 h, vv_7 h, vs_7 h, vv_8 h, vs_8 h, vv_9 h, vs_9 h, vv_11 h, vs_11 h, vv_17 h, vs_17 h, vv_18 h, vs_18 h, vj_3 h, vj_4 h, vj_5 h, ex_some, ex_def, all_def, true_and, and_true, Nat.reduceLT, nI_clamp (show c < 2 ^ 31 by omega), vin (show c < 8 by omega) (show 8 < 2 ^ 31 by decide), hm.e (show 5 < 26 by decide), e5 hc, e0, not_false_eq_true, true_implies, not_true_eq_false, false_implies, true_and, and_true, false_and, and_false, forall_const, imp_self, implies_true, if_true, if_false, eq_self, Bool.true_eq_false, Bool.false_eq_true, false_or, or_false, true_or, or_true]
      exact hQ0 (fun ⟨i, a, b⟩ => by rw [hy i (by omega)] at b; cases b)
    | succ r ih =>
      intro k fu hk hf hy
      obtain ⟨fu, rfl⟩ : ∃ z, fu = z + 1 := ⟨fu - 1, by omega⟩
      have e0 : ¬ nI (cw c) ≤ nI k := by rw [nI_leI (by omega) (by omega)]; omega
      rw [wp_X12_freeWorker_L26]
      simp only [fr_23 h, fm_5 h, fm_32 h, hi_q h, hj_q h, si_q h, sj_q h, vv_5 h, vs_5 h, vv_7 h, vs_7 h, vv_8 h, vs_8 h, vv_9 h, vs_9 h, vv_11 h, vs_11 h, vv_17 h, vs_17 h, vv_18 h, vs_18 h, vj_3 h, vj_4 h, vj_5 h, ex_some, ex_def, all_def, true_and, and_true, Nat.reduceLT, exists_eq_left, Option.some.injEq, exists_eq_left', nI_clamp (show c < 2 ^ 31 by omega), vin (show c < 8 by omega) (show 8 < 2 ^ 31 by decide), hm.e (show 5 < 26 by decide), e5 hc, e0, not_false_eq_true, true_implies, not_true_eq_false, false_implies, true_and, and_true, false_and, and_false, forall_const, imp_self, implies_true, if_true, if_false, eq_self, Bool.true_eq_false, Bool.false_eq_true, false_or, or_false, true_or, or_true, nI_add, nI_clamp (show fwk cw c + k < 2 ^ 31 by omega), vin (show fwk cw c + k < 32 by omega) (show 32 < 2 ^ 31 by decide), ← nI_succ]
      rcases hr (fwk cw c + k) (by omega) with ⟨y1, y2⟩ | ⟨i, y1, y2, y3, y4⟩
      · exact ⟨fun _ => hQ1 _ ⟨k, by omega, rfl, y2, hy⟩ (by omega), fun z => absurd y1 z⟩
      · refine ⟨fun z => absurd (y4.symm.trans z) (nI_nm1 (by have := hm.n.2.2.2; omega)), fun _ => ih (k + 1) fu (by omega) (by omega) (fun i' hi' => ?_)⟩
        by_cases e : i' = k
        · rw [e]
          cases z : fre nj s (fwk cw c + k) with
          | false => rfl
          | true => exact absurd y3 (fre_t.mp z i y1 y2)
        · exact hy i' (by omega)
  exact k1 c 0 FU _ (by omega) (by unfold FU; omega) (k2 (cw c) 0 FU (by omega) (by unfold FU; omega) (fun i hi => by omega))
theorem mx.jce (hm : mx A B S nc nw nm nj cw jc od E K L' I J R) (hj : j < nj) : E 1 7 j = nI (jc j) ∧ jc j < nc := by
  have := (hm.st.2.2.2.1 j hj).2.2.2.1
  rw [hm.e (by decide)] at this
  exact ⟨this, hm.2.1.1.2.2.2.2.2 j hj⟩
theorem mx.nd (hm : mx A B S nc nw nm nj cw jc od E K L' I J R) (hj : j < nj) {k : Nat} (hk : k < 40) : (E 1 12 (40 * j + k) = 0 ↔ ¬ E 1 12 (40 * j + k) = 1) ∧ (E 1 12 (40 * j + k) = 1 → k < nm) := by
  have b := (hm.st.2.2.2.2.2.2.2.1 j k hj (by omega)).1 hk
  rw [hm.e (by decide)] at b
  refine ⟨⟨fun z => by rw [z]; decide, fun z => b.resolve_right z⟩, fun e => ?_⟩
  rcases Nat.lt_or_ge k nm with q | q
  · exact q
  · obtain ⟨-, -, -, -, -, -, -, -, -, -, -, -, -, zr⟩ := hm.st
    have := zr.2.1 j k (by have := hm.n.2.2.2; omega) hk (Or.inr q)
    rw [hm.e (by decide)] at this
    rw [this] at e; exact absurd e (by decide)
/-- canBegin, of one that is ready -/
theorem p_canbm (hm : mx A B S nc nw nm nj cw jc od E K L' I J R) (hr : rR E nj s I J) (hj : j < nj) (hrd : rdy E nj s j) (hQ1 : can E nj cw jc s j → Q 1 (hq A B S I J R)) (hQ0 : ¬ can E nj cw jc s j → Q 0 (hq A B S I J R)) : wp_X12_canBegin (hq A B S I J R) (A 0 23) (nI j) Q := by
  have h := hm.1
  have n4 := hm.n.2.2.2
  have n3 := hm.n.2.2.1
  have n2 := hm.n.2.1
  obtain ⟨e7, hc⟩ := hm.jce hj
  unfold wp_X12_canBegin
  simp only [fr_23 h, fm_7 h, hi_q h, hj_q h, si_q h, sj_q h, vv_5 h, vs_5 h, vv_7 h, vs_7 h, vv_8 h, vs_8 h, vv_9 h, vs_9 h, vv_11 h, vs_11 h, vv_17 h, vs_17 h, vv_18 h, vs_18 h, vj_3 h, vj_4 h, vj_5 h, ex_some, ex_def, all_def, true_and, and_true, Nat.reduceLT, exists_eq_left, Option.some.injEq, exists_eq_left', nI_clamp (show j < 2 ^ 31 by omega), vin (show j < 200 by omega) (show 200 < 2 ^ 31 by decide), hm.e (show 7 < 26 by decide), e7]
  refine p_fwm hm hr.2.1 hc (fun w hl hnw => ⟨fun z => absurd z (nI_nm1 (by omega)), fun _ => ?_⟩) (fun z => ⟨fun _ => hQ0 (fun c => z c.2.1), fun q => absurd rfl q⟩)
  have hW : hasW nj cw s (jc j) := by
    obtain ⟨i, a, b, c, -⟩ := hl
    exact ⟨i, a, by rw [← b]; exact c⟩
  have k2 : (∀ m, m < 40 → E 1 12 (40 * j + m) = 1 → ¬ bsy E nj s m) → ∀ (r k fu : Nat), k + r = 60 → r < fu → (∀ y, y < k → (E 1 13 (60 * j + y)).toInt64 ≤ lft E nj s y) → wp_X12_canBegin_L60 (hq A B S I J R) (A 0 23) (nI j) Q fu (nI k) := by
    intro hmach r
    induction r with
    | zero =>
      intro k fu hk hf hy
      obtain ⟨fu, rfl⟩ : ∃ z, fu = z + 1 := ⟨fu - 1, by omega⟩
      have : k = 60 := by omega
      subst this
      rw [wp_X12_canBegin_L60]
      exact ⟨fun _ => hQ1 ⟨hrd, hW, hmach, hy⟩, fun z => absurd (by decide) z⟩
    | succ r ih =>
      intro k fu hk hf hy
      obtain ⟨fu, rfl⟩ : ∃ z, fu = z + 1 := ⟨fu - 1, by omega⟩
      have e0 : ¬ (60 : Int32) ≤ nI k := by rw [show (60 : Int32) = nI 60 from rfl, nI_leI (by decide) (by omega)]; omega
      rw [wp_X12_canBegin_L60]
      simp only [fr_23 h, fm_13 h, fm_35 h, hi_q h, hj_q h, si_q h, sj_q h, vv_5 h, vs_5 h, vv_7 h, vs_7 h, vv_8 h, vs_8 h, vv_9 h, vs_9 h, vv_11 h, vs_11 h, vv_17 h, vs_17 h, vv_18 h, vs_18 h, vj_3 h, vj_4 h, vj_5 h, ex_some, ex_def, all_def, true_and, and_true, Nat.reduceLT, exists_eq_left, Option.some.injEq, exists_eq_left', e0, not_false_eq_true, true_implies, not_true_eq_false, false_implies, true_and, and_true, false_and, and_false, forall_const, imp_self, implies_true, if_true, if_false, eq_self, Bool.true_eq_false, Bool.false_eq_true, false_or, or_false, true_or, or_true, i60, nI_clamp (show 60 * j + k < 2 ^ 31 by omega), vin (show 60 * j + k < 12000 by omega) (show 12000 < 2 ^ 31 by decide), nI_clamp (show k < 2 ^ 31 by omega), vin (show k < 60 by omega) (show 60 < 2 ^ 31 by decide), hm.e (show 13 < 26 by decide), hr.2.2.2.2.1 k (by omega), ← nI_succ]
      refine ⟨fun z => ih (k + 1) fu (by omega) (by omega) (fun y hy2 => ?_), fun z => hQ0 (fun c => z (c.2.2.2 k (by omega)))⟩
      by_cases q : y = k
      · rw [q]; exact z
      · exact hy y (by omega)
  have k1 : ∀ (r k fu : Nat), k + r = nm → r < fu → (∀ m, m < k → E 1 12 (40 * j + m) = 1 → ¬ bsy E nj s m) → wp_X12_canBegin_L18 (hq A B S I J R) (A 0 23) (nI j) (wp_X12_canBegin_L60 (hq A B S I J R) (A 0 23) (nI j) Q FU 0) Q fu (nI k) := by
    intro r
    induction r with
    | zero =>
      intro k fu hk hf hy
      obtain ⟨fu, rfl⟩ : ∃ z, fu = z + 1 := ⟨fu - 1, by omega⟩
      have : k = nm := by omega
      subst this
      rw [wp_X12_canBegin_L18]
      simp only [fr_23 h, hi_q h, hj_q h, si_q h, sj_q h, vv_5 h, vs_5 h, vv_7 h, vs_7 h, vv_8 h, vs_8 h, vv_9 h, vs_9 h, vv_11 h, vs_11 h, vv_17 h, vs_17 h, vv_18 h, vs_18 h, vj_3 h, vj_4 h, vj_5 h, ex_some, ex_def, all_def, true_and, and_true, Nat.reduceLT, hm.cn.2.2.1]
      exact ⟨fun _ => k2 (fun m hm40 e => hy m ((hm.nd hj hm40).2 e) e) 60 0 FU (by omega) (by unfold FU; omega) (fun y hy => by omega), fun z => absurd (Int32.le_refl _) z⟩
    | succ r ih =>
      intro k fu hk hf hy
      obtain ⟨fu, rfl⟩ : ∃ z, fu = z + 1 := ⟨fu - 1, by omega⟩
      have e0 : ¬ nI nm ≤ nI k := by rw [nI_leI (by omega) (by omega)]; omega
      have next : (E 1 12 (40 * j + k) = 1 → ¬ bsy E nj s k) → wp_X12_canBegin_L18 (hq A B S I J R) (A 0 23) (nI j) (wp_X12_canBegin_L60 (hq A B S I J R) (A 0 23) (nI j) Q FU 0) Q fu (nI (k + 1)) := fun z => ih (k + 1) fu (by omega) (by omega) (fun m hm2 => by
        by_cases q : m = k
        · rw [q]; exact z
        · exact hy m (by omega))
      rw [wp_X12_canBegin_L18]
      simp only [fr_23 h, fm_12 h, fm_33 h, hi_q h, hj_q h, si_q h, sj_q h, vv_5 h, vs_5 h, vv_7 h, vs_7 h, vv_8 h, vs_8 h, vv_9 h, vs_9 h, vv_11 h, vs_11 h, vv_17 h, vs_17 h, vv_18 h, vs_18 h, vj_3 h, vj_4 h, vj_5 h, ex_some, ex_def, all_def, true_and, and_true, Nat.reduceLT, exists_eq_left, Option.some.injEq, exists_eq_left', hm.cn.2.2.1, e0, not_false_eq_true, true_implies, not_true_eq_false, false_implies, true_and, and_true, false_and, and_false, forall_const, imp_self, implies_true, if_true, if_false, eq_self, Bool.true_eq_false, Bool.false_eq_true, false_or, or_false, true_or, or_true, i40, nI_clamp (show 40 * j + k < 2 ^ 31 by omega), vin (show 40 * j + k < 8000 by omega) (show 8000 < 2 ^ 31 by decide), nI_clamp (show k < 2 ^ 31 by omega), vin (show k < 40 by omega) (show 40 < 2 ^ 31 by decide), hm.e (show 12 < 26 by decide), (hm.nd hj (show k < 40 by omega)).1, hr.2.2.1 k (by omega), ← nI_succ]
      exact ⟨fun a => next (fun w => absurd w a), fun a => ⟨fun b => next (fun _ => b), fun b => hQ0 (fun c => b (c.2.2.1 k (by omega) (Classical.not_not.mp a)))⟩⟩
  exact k1 nm 0 FU (by omega) (by unfold FU; omega) (fun m hm => by omega)
end MG
