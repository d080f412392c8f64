section MB
variable {A : Nat → Nat → Nat} {B : Nat → Nat × Nat} {S : Hp} {nc nw nm nj : Nat} {cw jc : Nat → Nat} {I : FI} {J : FJ} {R : FR} {xs : Nat → Int32} {L : Nat} {l4 : Int32}
variable {E K : FI} {L' : FJ} {od : Nat → Nat} {s : Rs} {j : Nat} {K2 Q : Hp → Prop}
theorem p_hop35 {k : Nat} {K3 : Int64 → Prop} {Q : Int32 → Hp → Prop} (hm : mx A B S nc nw nm nj cw jc od E K L' I J R) (hj : j < nj) (hk : k < 60) (hK : K3 (allX E nj j k)) : ∀ (r i fu : Nat) (z : Int64), i + r = nj → r < fu → z = (E 1 6 k).toInt64 + sumJ i (fun q => if q = j then 0 else (E 1 14 (60 * q + k)).toInt64) → wp_X12_isHopeless_L35 (hq A B S I J R) (A 0 23) (nI j) (nI k) K3 Q fu z (nI i) := by
  have h := hm.1
  have n4 := hm.n.2.2.2
  intro r
  induction r with
  | zero =>
    intro i fu z hi hf hz
    obtain ⟨fu, rfl⟩ : ∃ z, fu = z + 1 := ⟨fu - 1, by omega⟩
    have : i = nj := by omega
    subst this
    rw [wp_X12_isHopeless_L35]
    simp only [fr_23 h, hi_q h, hj_q h, si_q h, sj_q h, vv_5 h, vs_5 h, vv_7 h, vs_7 h, vv_8 h, vs_8 h, vv_9 h, vs_9 h, vv_11 h, vs_11 h, vv_17 h, vs_17 h, vv_18 h, vs_18 h, vj_3 h, vj_4 h, vj_5 h, ex_some, ex_def, all_def, true_and, and_true, Nat.reduceLT, hm.cn.2.2.2]
    refine ⟨fun _ => ?_, fun z => absurd (Int32.le_refl _) z⟩
    rw [hz]; exact hK
  | succ r ih =>
    intro i fu z hi hf hz
    obtain ⟨fu, rfl⟩ : ∃ z, fu = z + 1 := ⟨fu - 1, by omega⟩
    have e0 : ¬ nI nj ≤ nI i := by rw [nI_leI (by omega) (by omega)]; omega
    have eij : nI i = nI j ↔ i = j := nI_eq (by omega) (by omega)
    have es : sumJ (i + 1) (fun q => if q = j then 0 else (E 1 14 (60 * q + k)).toInt64) = sumJ i (fun q => if q = j then 0 else (E 1 14 (60 * q + k)).toInt64) + (if i = j then 0 else (E 1 14 (60 * i + k)).toInt64) := rfl
    rw [wp_X12_isHopeless_L35]
    simp only [fr_23 h, fm_14 h, hi_q h, hj_q h, si_q h, sj_q h, vv_5 h, vs_5 h, vv_7 h, vs_7 h, vv_8 h, vs_8 h, vv_9 h, vs_9 h, vv_11 h, vs_11 h, vv_17 h, vs_17 h, vv_18 h, vs_18 h, vj_3 h, vj_4 h, vj_5 h, ex_some, ex_def, all_def, true_and, and_true, Nat.reduceLT, hm.cn.2.2.2, e0, not_false_eq_true, true_implies, not_true_eq_false, false_implies, true_and, and_true, false_and, and_false, forall_const, imp_self, implies_true, if_true, if_false, eq_self, Bool.true_eq_false, Bool.false_eq_true, false_or, or_false, true_or, or_true, eij, i60, nI_clamp (show 60 * i + k < 2 ^ 31 by omega), vin (show 60 * i + k < 12000 by omega) (show 12000 < 2 ^ 31 by decide), hm.e (show 14 < 26 by decide), ← nI_succ]
    refine ⟨fun q => ih (i + 1) fu _ (by omega) (by omega) ?_, fun q => ih (i + 1) fu _ (by omega) (by omega) ?_⟩
    · rw [es, if_pos q, hz]; grind
    · rw [es, if_neg q, hz]; grind
theorem p_hopm {Q : Int32 → Hp → Prop} (hm : mx A B S nc nw nm nj cw jc od E K L' I J R) (hj : j < nj) (hQ1 : hop E nj cw jc j → Q 1 (hq A B S I J R)) (hQ0 : ¬ hop E nj cw jc j → Q 0 (hq A B S I J R)) : wp_X12_isHopeless (hq A B S I J R) (A 0 23) (nI j) Q := by
  have h := hm.1
  have n4 := hm.n.2.2.2
  have n1 := hm.n.1
  obtain ⟨e7, hjc⟩ := hm.jce hj
  have cc : cw (jc j) ≤ 32 := by
    have := fwk_ge (cw := cw) nc hjc
    have := hm.2.1.1.2.2.2.2.1
    have := hm.2.1.1.2.1
    omega
  have ez : nI (cw (jc j)) = 0 ↔ cw (jc j) = 0 := nI_zero (by omega)
  unfold wp_X12_isHopeless
  simp only [fr_23 h, fm_7 h, fm_5 h, hi_q h, hj_q h, si_q h, sj_q h, vv_5 h, vs_5 h, vv_7 h, vs_7 h, vv_8 h, vs_8 h, vv_9 h, vs_9 h, vv_11 h, vs_11 h, vv_17 h, vs_17 h, vv_18 h, vs_18 h, vj_3 h, vj_4 h, vj_5 h, ex_some, ex_def, all_def, true_and, and_true, Nat.reduceLT, exists_eq_left, Option.some.injEq, exists_eq_left', nI_clamp (show j < 2 ^ 31 by omega), vin (show j < 200 by omega) (show 200 < 2 ^ 31 by decide), hm.e (show 7 < 26 by decide), e7, nI_clamp (show jc j < 2 ^ 31 by omega), vin (show jc j < 8 by omega) (show 8 < 2 ^ 31 by decide), hm.e (show 5 < 26 by decide), hm.cwe hjc, ez]
  refine ⟨fun z => hQ1 (Or.inl z), fun z => ?_⟩
  have key : ∀ (r k fu : Nat), k + r = 60 → r < fu → (∀ y, y < k → (E 1 13 (60 * j + y)).toInt64 ≤ allX E nj j y) → wp_X12_isHopeless_L18 (hq A B S I J R) (A 0 23) (nI j) Q fu (nI k) := by
    intro r
    induction r with
    | zero =>
      intro k fu hk hf hy
      obtain ⟨fu, rfl⟩ : ∃ z, fu = z + 1 := ⟨fu - 1, by omega⟩
      have : k = 60 := by omega
      subst this
      rw [wp_X12_isHopeless_L18]
      exact ⟨fun _ => hQ0 (fun w => w.elim z (fun ⟨x, hx, w⟩ => w (hy x hx))), fun q => absurd (by decide) q⟩
    | succ r ih =>
      intro k fu hk hf hy
      obtain ⟨fu, rfl⟩ : ∃ z, fu = z + 1 := ⟨fu - 1, by omega⟩
      have e0 : ¬ (60 : Int32) ≤ nI k := by rw [show (60 : Int32) = nI 60 from rfl, nI_leI (by decide) (by omega)]; omega
      rw [wp_X12_isHopeless_L18]
      simp only [fr_23 h, fm_6 h, fm_13 h, hi_q h, hj_q h, si_q h, sj_q h, vv_5 h, vs_5 h, vv_7 h, vs_7 h, vv_8 h, vs_8 h, vv_9 h, vs_9 h, vv_11 h, vs_11 h, vv_17 h, vs_17 h, vv_18 h, vs_18 h, vj_3 h, vj_4 h, vj_5 h, ex_some, ex_def, all_def, true_and, and_true, Nat.reduceLT, exists_eq_left, Option.some.injEq, exists_eq_left', e0, not_false_eq_true, true_implies, not_true_eq_false, false_implies, true_and, and_true, false_and, and_false, forall_const, imp_self, implies_true, if_true, if_false, eq_self, Bool.true_eq_false, Bool.false_eq_true, false_or, or_false, true_or, or_true, i60, nI_clamp (show k < 2 ^ 31 by omega), vin (show k < 60 by omega) (show 60 < 2 ^ 31 by decide), hm.e (show 6 < 26 by decide), hm.e (show 13 < 26 by decide), nI_clamp (show 60 * j + k < 2 ^ 31 by omega), vin (show 60 * j + k < 12000 by omega) (show 12000 < 2 ^ 31 by decide), ← nI_succ]
      refine p_hop35 hm hj (show k < 60 by omega) ⟨fun q => ih (k + 1) fu (by omega) (by omega) (fun y hyk => ?_), fun q => hQ1 (Or.inr ⟨k, by omega, q⟩)⟩ nj 0 FU _ (by omega) (by unfold FU; omega) (by rw [sumJ]; grind)
      by_cases e : y = k
      · rw [e]; exact q
      · exact hy y (by omega)
  exact key 60 0 FU (by omega) (by unfold FU; omega) (fun y hy => by omega)
theorem p_b17 {P : FI → Prop} (hP : ∀ I p v, P I → P (up3 I 1 32 p v)) (hK : ∀ I', mx A B S nc nw nm nj cw jc od E K L' I' J R → P I' → (∀ w, w < 32 → I' 1 32 w = -1) → K2 (hq A B S I' J R)) : ∀ (r i fu : Nat) (I : FI), i + r = 32 → r < fu → mx A B S nc nw nm nj cw jc od E K L' I J R → P I → (∀ w, w < i → I 1 32 w = -1) → wp_X12_begins_L17 (A 0 23) K2 Q fu (hq A B S I J R) (nI i) := by
  intro r
  induction r with
  | zero =>
    intro i fu I hi hf hm hp h0
    obtain ⟨fu, rfl⟩ : ∃ z, fu = z + 1 := ⟨fu - 1, by omega⟩
    have : i = 32 := by omega
    subst this
    rw [wp_X12_begins_L17]
    exact ⟨fun _ => hK I hm hp h0, fun z => absurd (by decide) z⟩
  | succ r ih =>
    intro i fu I hi hf hm hp h0
    obtain ⟨fu, rfl⟩ : ∃ z, fu = z + 1 := ⟨fu - 1, by omega⟩
    have h := hm.1
    have e0 : ¬ (32 : Int32) ≤ nI i := by rw [show (32 : Int32) = nI 32 from rfl, nI_leI (by decide) (by omega)]; omega
    rw [wp_X12_begins_L17]
    simp only [fr_23 h, fm_32 h, hi_q h, hj_q h, si_q h, sj_q h, vv_5 h, vs_5 h, vv_7 h, vs_7 h, vv_8 h, vs_8 h, vv_9 h, vs_9 h, vv_11 h, vs_11 h, vv_17 h, vs_17 h, vv_18 h, vs_18 h, vj_3 h, vj_4 h, vj_5 h, ex_some, ex_def, all_def, true_and, and_true, Nat.reduceLT, e0, not_false_eq_true, true_implies, not_true_eq_false, false_implies, true_and, and_true, false_and, and_false, forall_const, imp_self, implies_true, if_true, if_false, eq_self, Bool.true_eq_false, Bool.false_eq_true, false_or, or_false, true_or, or_true, nI_clamp (show i < 2 ^ 31 by omega), vin (show i < 32 by omega) (show 32 < 2 ^ 31 by decide), ← nI_succ]
    refine ih (i + 1) fu _ (by omega) (by omega) (hm.up rfl) (hP _ _ _ hp) (fun w hw => ?_)
    by_cases e : w = i
    · rw [e, up3_same]
    · rw [up3_off (by omega)]; exact h0 w (by omega)
theorem p_b38 {P : FI → Prop} (hP : ∀ I p v w, P I → P (up3 (up3 I 1 33 p v) 1 34 p w)) (hK : ∀ I', mx A B S nc nw nm nj cw jc od E K L' I' J R → P I' → (∀ m, m < 40 → I' 1 33 m = -1 ∧ I' 1 34 m = -1) → K2 (hq A B S I' J R)) : ∀ (r i fu : Nat) (I : FI), i + r = 40 → r < fu → mx A B S nc nw nm nj cw jc od E K L' I J R → P I → (∀ m, m < i → I 1 33 m = -1 ∧ I 1 34 m = -1) → wp_X12_begins_L38 (A 0 23) K2 Q fu (hq A B S I J R) (nI i) := by
  intro r
  induction r with
  | zero =>
    intro i fu I hi hf hm hp h0
    obtain ⟨fu, rfl⟩ : ∃ z, fu = z + 1 := ⟨fu - 1, by omega⟩
    have : i = 40 := by omega
    subst this
    rw [wp_X12_begins_L38]
    exact ⟨fun _ => hK I hm hp h0, fun z => absurd (by decide) z⟩
  | succ r ih =>
    intro i fu I hi hf hm hp h0
    obtain ⟨fu, rfl⟩ : ∃ z, fu = z + 1 := ⟨fu - 1, by omega⟩
    have h := hm.1
    have e0 : ¬ (40 : Int32) ≤ nI i := by rw [show (40 : Int32) = nI 40 from rfl, nI_leI (by decide) (by omega)]; omega
    rw [wp_X12_begins_L38]
    simp only [fr_23 h, fm_33 h, fm_34 h, hi_q h, hj_q h, si_q h, sj_q h, vv_5 h, vs_5 h, vv_7 h, vs_7 h, vv_8 h, vs_8 h, vv_9 h, vs_9 h, vv_11 h, vs_11 h, vv_17 h, vs_17 h, vv_18 h, vs_18 h, vj_3 h, vj_4 h, vj_5 h, ex_some, ex_def, all_def, true_and, and_true, Nat.reduceLT, e0, not_false_eq_true, true_implies, not_true_eq_false, false_implies, true_and, and_true, false_and, and_false, forall_const, imp_self, implies_true, if_true, if_false, eq_self, Bool.true_eq_false, Bool.false_eq_true, false_or, or_false, true_or, or_true, nI_clamp (show i < 2 ^ 31 by omega), vin (show i < 40 by omega) (show 40 < 2 ^ 31 by decide), ← nI_succ]
    refine ih (i + 1) fu _ (by omega) (by omega) ((hm.up rfl).up rfl) (hP _ _ _ _ hp) (fun w hw => ?_)
    by_cases e : w = i
    · rw [e, up3_same, up3_off (by omega), up3_same]; exact ⟨rfl, rfl⟩
    · rw [up3_off (by omega), up3_off (by omega), up3_off (by omega), up3_off (by omega)]; exact h0 w (by omega)
theorem mx.J3 (h : mx A B S nc nw nm nj cw jc od E K L' I J R) {i p : Nat} {v : Int64} : mx A B S nc nw nm nj cw jc od E K L' I (up3 J 1 i p v) R := ⟨h.1, h.2.1, h.2.2.1, h.2.2.2.1, h.2.2.2.2.1.up rfl, h.2.2.2.2.2⟩
theorem p_b66 (hK : ∀ J', mx A B S nc nw nm nj cw jc od E K L' I J' R → (∀ y, y < 60 → J' 1 35 y = (E 1 6 y).toInt64) → K2 (hq A B S I J' R)) : ∀ (r i fu : Nat) (J : FJ), i + r = 60 → r < fu → mx A B S nc nw nm nj cw jc od E K L' I J R → (∀ y, y < i → J 1 35 y = (E 1 6 y).toInt64) → wp_X12_begins_L66 (A 0 23) K2 Q fu (hq A B S I J R) (nI i) := by
  intro r
  induction r with
  | zero =>
    intro i fu J hi hf hm h0
    obtain ⟨fu, rfl⟩ : ∃ z, fu = z + 1 := ⟨fu - 1, by omega⟩
    have : i = 60 := by omega
    subst this
    rw [wp_X12_begins_L66]
    exact ⟨fun _ => hK J hm h0, fun z => absurd (by decide) z⟩
  | succ r ih =>
    intro i fu J hi hf hm h0
    obtain ⟨fu, rfl⟩ : ∃ z, fu = z + 1 := ⟨fu - 1, by omega⟩
    have h := hm.1
    have e0 : ¬ (60 : Int32) ≤ nI i := by rw [show (60 : Int32) = nI 60 from rfl, nI_leI (by decide) (by omega)]; omega
    rw [wp_X12_begins_L66]
    simp only [fr_23 h, fm_6 h, fm_35 h, hi_q h, hj_q h, si_q h, sj_q h, vv_5 h, vs_5 h, vv_7 h, vs_7 h, vv_8 h, vs_8 h, vv_9 h, vs_9 h, vv_11 h, vs_11 h, vv_17 h, vs_17 h, vv_18 h, vs_18 h, vj_3 h, vj_4 h, vj_5 h, ex_some, ex_def, all_def, true_and, and_true, Nat.reduceLT, e0, not_false_eq_true, true_implies, not_true_eq_false, false_implies, true_and, and_true, false_and, and_false, forall_const, imp_self, implies_true, if_true, if_false, eq_self, Bool.true_eq_false, Bool.false_eq_true, false_or, or_false, true_or, or_true, nI_clamp (show i < 2 ^ 31 by omega), vin (show i < 60 by omega) (show 60 < 2 ^ 31 by decide), hm.e (show 6 < 26 by decide), ← nI_succ]
    refine ih (i + 1) fu _ (by omega) (by omega) hm.J3 (fun w hw => ?_)
    by_cases e : w = i
    · rw [e, up3_same]
    · rw [up3_off (by omega)]; exact h0 w (by omega)
def tr6 (I : FI) (k : Nat) : Prop := I 1 27 k = -1 ∧ I 1 28 k = -1 ∧ I 1 29 k = -1 ∧ I 1 30 k = 0 ∧ I 1 31 k = 0
theorem p_b93 {P : FI → Prop} (hP : ∀ I p v1 v2 v3 v4 v5 v6, P I → P (up3 (up3 (up3 (up3 (up3 (up3 I 1 26 p v1) 1 27 p v2) 1 28 p v3) 1 29 p v4) 1 30 p v5) 1 31 p v6)) (hK : ∀ I', mx A B S nc nw nm nj cw jc od E K L' I' J R → P I' → (∀ k, k < nj → I' 1 26 k = 0 ∧ tr6 I' k) → K2 (hq A B S I' J R)) : ∀ (r i fu : Nat) (I : FI), i + r = nj → r < fu → mx A B S nc nw nm nj cw jc od E K L' I J R → P I → (∀ k, k < i → I 1 26 k = 0 ∧ tr6 I k) → wp_X12_begins_L93 (A 0 23) K2 Q fu (hq A B S I J R) (nI i) := by
  intro r
  induction r with
  | zero =>
    intro i fu I hi hf hm hp h0
    obtain ⟨fu, rfl⟩ : ∃ z, fu = z + 1 := ⟨fu - 1, by omega⟩
    have h := hm.1
    have : i = nj := by omega
    subst this
    rw [wp_X12_begins_L93]
    refine ⟨fr_23 h _ _ _, fun _ => hK I hm hp h0, fun z => absurd ?_ z⟩
    rw [hi_q h (by decide), hm.cn.2.2.2]; exact Int32.le_refl _
  | succ r ih =>
    intro i fu I hi hf hm hp h0
    obtain ⟨fu, rfl⟩ : ∃ z, fu = z + 1 := ⟨fu - 1, by omega⟩
    have h := hm.1
    have n4 := hm.n.2.2.2
    have e0 : ¬ nI nj ≤ nI i := by rw [nI_leI (by omega) (by omega)]; omega
    rw [wp_X12_begins_L93]
    simp only [fr_23 h, fm_26 h, fm_27 h, fm_28 h, fm_29 h, fm_30 h, fm_31 h, hi_q h, hj_q h, si_q h, sj_q h, vv_5 h, vs_5 h, vv_7 h, vs_7 h, vv_8 h, vs_8 h, vv_9 h, vs_9 h, vv_11 h, vs_11 h, vv_17 h, vs_17 h, vv_18 h, vs_18 h, vj_3 h, vj_4 h, vj_5 h, ex_some, ex_def, all_def, true_and, and_true, Nat.reduceLT, hm.cn.2.2.2, e0, not_false_eq_true, true_implies, not_true_eq_false, false_implies, true_and, and_true, false_and, and_false, forall_const, imp_self, implies_true, if_true, if_false, eq_self, Bool.true_eq_false, Bool.false_eq_true, false_or, or_false, true_or, or_true, nI_clamp (show i < 2 ^ 31 by omega), vin (show i < 200 by omega) (show 200 < 2 ^ 31 by decide), ← nI_succ]
    refine ih (i + 1) fu _ (by omega) (by omega) ((((((hm.up rfl).up rfl).up rfl).up rfl).up rfl).up rfl) (hP _ _ _ _ _ _ _ _ hp) (fun k hk => ?_)
    by_cases e : k = i
    · subst e
      simp [tr6, up3]
    · have := h0 k (by omega)
      unfold tr6 at *
      simpa [up3, e] using this
theorem p_b151 {P : FI → Prop} (hP : ∀ I p v, P I → P (up3 I 1 44 p v)) (hK : ∀ I', mx A B S nc nw nm nj cw jc od E K L' I' J R → P I' → (∀ k, k < nj → (I' 1 44 k = 0 ↔ ¬ hop E nj cw jc k)) → K2 (hq A B S I' J R)) : ∀ (r i fu : Nat) (I : FI), i + r = nj → r < fu → mx A B S nc nw nm nj cw jc od E K L' I J R → P I → (∀ k, k < i → (I 1 44 k = 0 ↔ ¬ hop E nj cw jc k)) → wp_X12_begins_L151 (A 0 23) K2 Q fu (hq A B S I J R) (nI i) := by
  intro r
  induction r with
  | zero =>
    intro i fu I hi hf hm hp h0
    obtain ⟨fu, rfl⟩ : ∃ z, fu = z + 1 := ⟨fu - 1, by omega⟩
    have h := hm.1
    have : i = nj := by omega
    subst this
    rw [wp_X12_begins_L151]
    refine ⟨fr_23 h _ _ _, fun _ => hK I hm hp h0, fun z => absurd ?_ z⟩
    rw [hi_q h (by decide), hm.cn.2.2.2]; exact Int32.le_refl _
  | succ r ih =>
    intro i fu I hi hf hm hp h0
    obtain ⟨fu, rfl⟩ : ∃ z, fu = z + 1 := ⟨fu - 1, by omega⟩
    have h := hm.1
    have n4 := hm.n.2.2.2
    have e0 : ¬ nI nj ≤ nI i := by rw [nI_leI (by omega) (by omega)]; omega
    rw [wp_X12_begins_L151]
    refine ⟨fr_23 h _ _ _, fun z => absurd z (by rw [hi_q h (by decide), hm.cn.2.2.2]; exact e0), fun _ => ?_⟩
    have hi2 : i < nj := by omega
    have go : ∀ v : Int32, (v = 0 ↔ ¬ hop E nj cw jc i) → wp_X12_begins_L151 (A 0 23) K2 Q fu (hq A B S (up3 I 1 44 i v) J R) (nI (i + 1)) := fun v hv => by
      refine ih (i + 1) fu _ (by omega) (by omega) (hm.up rfl) (hP _ _ _ hp) (fun k hk => ?_)
      by_cases e : k = i
      · rw [e, up3_same]; exact hv
      · rw [up3_off (by omega)]; exact h0 k (by omega)
    have e44 : vp_in (nI i) (hN (hq A B S I J R) (A 1 44)) := by rw [(fm_44 h _ _ _).2.2]; exact vin (show i < 200 by omega) (by decide)
    refine p_hopm hm hi2 (fun q => ⟨A 1 44, (fm_44 h _ _ _).1, (fm_44 h _ _ _).2.1, e44, Or.inr rfl, ?_⟩) (fun q => ⟨A 1 44, (fm_44 h _ _ _).1, (fm_44 h _ _ _).2.1, e44, Or.inl rfl, ?_⟩)
    · rw [si_q h (by decide), nI_clamp (show i < 2 ^ 31 by omega), ← nI_succ]; exact go 1 ⟨fun z => absurd z (by decide), fun z => absurd q z⟩
    · rw [si_q h (by decide), nI_clamp (show i < 2 ^ 31 by omega), ← nI_succ]; exact go 0 ⟨fun _ => q, fun _ => rfl⟩
/-- the states, when jobs up to i have been looked at -/
def st5 (E : FI) (nj : Nat) (cw jc : Nat → Nat) (I : FI) (i : Nat) : Prop := ∀ k, k < nj → (k < i → hpl E nj cw jc k → I 1 26 k = 5) ∧ (¬ (k < i ∧ hpl E nj cw jc k) → I 1 26 k = 0)
theorem p_b204 {P : FI → Prop} {i : Nat} (hP : ∀ I p v, P I → P (up3 I 1 26 p v)) (h44 : ∀ I, P I → ∀ k, k < nj → (I 1 44 k = 0 ↔ ¬ hop E nj cw jc k)) (hi : i < nj) (hK : ∀ I', mx A B S nc nw nm nj cw jc od E K L' I' J R → P I' → st5 E nj cw jc I' (i + 1) → K2 (hq A B S I' J R)) : ∀ (r m fu : Nat) (I : FI), m + r = nj → r + 1 < fu → mx A B S nc nw nm nj cw jc od E K L' I J R → P I → (∀ k, k < nj → k ≠ i → (k < i → hpl E nj cw jc k → I 1 26 k = 5) ∧ (¬ (k < i ∧ hpl E nj cw jc k) → I 1 26 k = 0)) → (I 1 26 i = 5 ∧ hpl E nj cw jc i ∨ I 1 26 i = 0 ∧ ¬ hop E nj cw jc i ∧ ∀ q, q < m → ¬ (E 1 11 (200 * i + q) = 1 ∧ hop E nj cw jc q)) → wp_X12_begins_L204 (A 0 23) (nI i) K2 Q fu (hq A B S I J R) (nI m) := by
  intro r
  have fin : ∀ I, mx A B S nc nw nm nj cw jc od E K L' I J R → P I → (∀ k, k < nj → k ≠ i → (k < i → hpl E nj cw jc k → I 1 26 k = 5) ∧ (¬ (k < i ∧ hpl E nj cw jc k) → I 1 26 k = 0)) → (I 1 26 i = 5 ∧ hpl E nj cw jc i ∨ I 1 26 i = 0 ∧ ¬ hpl E nj cw jc i) → K2 (hq A B S I J R) := fun I hm hp h1 h2 => by
    refine hK I hm hp (fun k hk => ?_)
    by_cases e : k = i
    · subst e
      rcases h2 with ⟨a, b⟩ | ⟨a, b⟩
      · exact ⟨fun _ _ => a, fun z => absurd ⟨by omega, b⟩ z⟩
      · exact ⟨fun _ z => absurd z b, fun _ => a⟩
    · obtain ⟨a, b⟩ := h1 k hk e
      exact ⟨fun z => a (by omega), fun z => b (fun w => z ⟨by omega, w.2⟩)⟩
  induction r with
  | zero =>
    intro m fu I hmr hf hm hp h1 h2
    obtain ⟨fu, rfl⟩ : ∃ z, fu = z + 1 := ⟨fu - 1, by omega⟩
    have h := hm.1
    have : m = nj := by omega
    subst this
    rw [wp_X12_begins_L204]
    refine ⟨fr_23 h _ _ _, fun _ => fin I hm hp h1 (h2.imp id (fun ⟨a, b, c⟩ => ⟨a, fun z => z.elim b (fun ⟨q, q1, q2, q3⟩ => c q q1 ⟨q2, q3⟩)⟩)), fun z => absurd ?_ z⟩
    rw [hi_q h (by decide), hm.cn.2.2.2]; exact Int32.le_refl _
  | succ r ih =>
    intro m fu I hmr hf hm hp h1 h2
    obtain ⟨fu, rfl⟩ : ∃ z, fu = z + 1 := ⟨fu - 1, by omega⟩
    have h := hm.1
    have n4 := hm.n.2.2.2
    have hmn : m < nj := by omega
    have e0 : ¬ nI nj ≤ nI m := by rw [nI_leI (by omega) (by omega)]; omega
    rw [wp_X12_begins_L204]
    simp only [fr_23 h, fm_26 h, fm_11 h, fm_44 h, hi_q h, hj_q h, si_q h, sj_q h, vv_5 h, vs_5 h, vv_7 h, vs_7 h, vv_8 h, vs_8 h, vv_9 h, vs_9 h, vv_11 h, vs_11 h, vv_17 h, vs_17 h, vv_18 h, vs_18 h, vj_3 h, vj_4 h, vj_5 h, ex_some, ex_def, all_def, true_and, and_true, Nat.reduceLT, hm.cn.2.2.2, e0, not_false_eq_true, true_implies, not_true_eq_false, false_implies, true_and, and_true, false_and, and_false, forall_const, imp_self, implies_true, if_true, if_false, eq_self, Bool.true_eq_false, Bool.false_eq_true, false_or, or_false, true_or, or_true, i200, nI_clamp (show i < 2 ^ 31 by omega), vin (show i < 200 by omega) (show 200 < 2 ^ 31 by decide), nI_clamp (show m < 2 ^ 31 by omega), vin (show m < 200 by omega) (show 200 < 2 ^ 31 by decide), nI_clamp (show 200 * i + m < 2 ^ 31 by omega), vin (show 200 * i + m < 40000 by omega) (show 40000 < 2 ^ 31 by decide), hm.e (show 11 < 26 by decide), hm.ln hi hmn, h44 I hp m hmn, ← nI_succ]
    refine ⟨fun z => ?_, fun z => ?_⟩
    · rcases h2 with ⟨a, -⟩ | ⟨a, b, c⟩
      · rw [a] at z; exact absurd z (by decide)
      · refine ⟨fun q => ih (m + 1) fu I (by omega) (by omega) hm hp h1 (Or.inr ⟨a, b, fun q' hq' w => ?_⟩), fun q => ⟨fun y => ih (m + 1) fu I (by omega) (by omega) hm hp h1 (Or.inr ⟨a, b, fun q' hq' w => ?_⟩), fun y => ih (m + 1) fu _ (by omega) (by omega) (hm.up rfl) (hP _ _ _ hp) (fun k hk e => ?_) (Or.inl ⟨up3_same _ _ _ _ _, Or.inr ⟨m, hmn, Classical.not_not.mp q, Classical.not_not.mp y⟩⟩)⟩⟩
        · by_cases e : q' = m
          · rw [e] at w; exact q w.1
          · exact c q' (by omega) w
        · by_cases e : q' = m
          · rw [e] at w; exact y w.2
          · exact c q' (by omega) w
        · rw [up3_off (by omega)]; exact h1 k hk e
    · rcases h2 with ⟨a, b⟩ | ⟨a, -, -⟩
      · exact fin I hm hp h1 (Or.inl ⟨a, b⟩)
      · exact absurd a z
theorem p_b178 {P : FI → Prop} (hP : ∀ I p v, P I → P (up3 I 1 26 p v)) (h44 : ∀ I, P I → ∀ k, k < nj → (I 1 44 k = 0 ↔ ¬ hop E nj cw jc k)) (hK : ∀ I', mx A B S nc nw nm nj cw jc od E K L' I' J R → P I' → st5 E nj cw jc I' nj → K2 (hq A B S I' J R)) : ∀ (r i fu : Nat) (I : FI), i + r = nj → r < fu → mx A B S nc nw nm nj cw jc od E K L' I J R → P I → st5 E nj cw jc I i → wp_X12_begins_L178 (A 0 23) K2 Q fu (hq A B S I J R) (nI i) := by
  intro r
  induction r with
  | zero =>
    intro i fu I hi hf hm hp h0
    obtain ⟨fu, rfl⟩ : ∃ z, fu = z + 1 := ⟨fu - 1, by omega⟩
    have h := hm.1
    have : i = nj := by omega
    subst this
    rw [wp_X12_begins_L178]
    refine ⟨fr_23 h _ _ _, fun _ => hK I hm hp h0, fun z => absurd ?_ z⟩
    rw [hi_q h (by decide), hm.cn.2.2.2]; exact Int32.le_refl _
  | succ r ih =>
    intro i fu I hi hf hm hp h0
    obtain ⟨fu, rfl⟩ : ∃ z, fu = z + 1 := ⟨fu - 1, by omega⟩
    have h := hm.1
    have n4 := hm.n.2.2.2
    have hin : i < nj := by omega
    have e0 : ¬ nI nj ≤ nI i := by rw [nI_leI (by omega) (by omega)]; omega
    have z0 : I 1 26 i = 0 := (h0 i hin).2 (fun z => by omega)
    have go : ∀ I2, mx A B S nc nw nm nj cw jc od E K L' I2 J R → P I2 → (∀ k, k ≠ i → I2 1 26 k = I 1 26 k) → (I2 1 26 i = 5 ∧ hpl E nj cw jc i ∨ I2 1 26 i = 0 ∧ ¬ hop E nj cw jc i) → wp_X12_begins_L204 (A 0 23) (nI i) (fun (S82 : Hp) => wp_X12_begins_L178 (A 0 23) K2 Q fu S82 (nI (i + 1))) Q FU (hq A B S I2 J R) 0 := fun I2 m2 p2 f2 c2 =>
      p_b204 hP h44 hin (fun I' m' p' s' => ih (i + 1) fu I' (by omega) (by omega) m' p' s') nj 0 FU I2 (by omega) (by unfold FU; omega) m2 p2 (fun k hk e => by rw [f2 k e]; exact h0 k hk) (c2.imp id (fun ⟨a, b⟩ => ⟨a, b, fun q hq => by omega⟩))
    rw [wp_X12_begins_L178]
    refine ⟨fr_23 h _ _ _, fun z => absurd z (by rw [hi_q h (by decide), hm.cn.2.2.2]; exact e0), fun _ => ⟨A 1 44, (fm_44 h _ _ _).1, (fm_44 h _ _ _).2.1, ?_, _, rfl, ?_⟩⟩
    · rw [(fm_44 h _ _ _).2.2]; exact vin (show i < 200 by omega) (by decide)
    rw [hi_q h (by decide), nI_clamp (show i < 2 ^ 31 by omega), h44 I hp i hin, ← nI_succ]
    refine ⟨fun z => go I hm hp (fun _ _ => rfl) (Or.inr ⟨z0, z⟩), fun z => ⟨A 1 26, (fm_26 h _ _ _).1, (fm_26 h _ _ _).2.1, ?_, ?_⟩⟩
    · rw [(fm_26 h _ _ _).2.2]; exact vin (show i < 200 by omega) (by decide)
    rw [si_q h (by decide)]
    exact go _ (hm.up rfl) (hP _ _ _ hp) (fun k e => up3_off (by omega)) (Or.inl ⟨up3_same _ _ _ _ _, Or.inl (Classical.not_not.mp z)⟩)
end MB
