/-! the reference's run -/
def moI (c i p : Nat) : Bool := (c == 0 && i == 23 && (p == 0 || decide (22 ≤ p))) || (c == 1 && decide (26 ≤ i))
def moJ (c _i _p : Nat) : Bool := c == 1
/-- the reference's run under way: E as the class's run began, K L as the reference's begins -/
def mx (A : Nat → Nat → Nat) (B : Nat → Nat × Nat) (S : Hp) (nc nw nm nj : Nat) (cw jc od : Nat → Nat) (E : FI) (K : FI) (L : FJ) (I : FI) (J : FJ) (R : FR) : Prop := Sh A B S nj nc ∧ vSt A S nc nw nm nj cw jc K L R ∧ (∀ k p, k < 26 → K 1 k p = E 1 k p) ∧ Ag (fun c i p => !moI c i p) K I ∧ Ag (fun c i p => !moJ c i p) L J ∧ (∀ t, t < nj → od t < nj) ∧ (∀ a b, a < b → b < nj → ahd jc (E 1 9) (od a) (od b)) ∧ ∀ j, j < nj → ∃ t, t < nj ∧ od t = j
def rTr (E : FI) (nj : Nat) (s : Rs) (I : FI) : Prop := ∀ j, j < nj → I 1 26 j = nI (oS s j) ∧ I 1 27 j = bgI s j ∧ I 1 28 j = emI s j ∧ I 1 29 j = wkI s j ∧ I 1 30 j = noI E s j ∧ I 1 31 j = fkI E s j
def rAw (nj : Nat) (s : Rs) (I : FI) : Prop := ∀ w, w < 32 → (I 1 32 w = -1 ∧ fre nj s w = true) ∨ ∃ j, j < nj ∧ oS s j = 6 ∧ oW s j = w ∧ I 1 32 w = nI j
def rAm (E : FI) (nj : Nat) (s : Rs) (I : FI) : Prop := ∀ m, m < 40 → (I 1 33 m = -1 ↔ ¬ bsy E nj s m)
def rHd (s : Rs) (I : FI) : Prop := ∀ m, m < 40 → I 1 34 m = oH s m
def rLf (E : FI) (nj : Nat) (s : Rs) (J : FJ) : Prop := ∀ x, x < 60 → J 1 35 x = lft E nj s x
def rEv (nj : Nat) (s : Rs) (I : FI) : Prop := ∃ ky : Nat → Nat, I 0 23 25 = nI (sumN nj (fun j => evn (oS s j))) ∧ (∀ i, i < sumN nj (fun j => evn (oS s j)) → ∃ m k j, m < 2 ^ 30 ∧ k < 8 ∧ j < 256 ∧ ky i = ekey m k j ∧ I 1 36 i = nI m ∧ I 1 37 i = nI j ∧ I 1 38 i = nI k) ∧ (∀ i i', i < sumN nj (fun j => evn (oS s j)) → i' < sumN nj (fun j => evn (oS s j)) → ky i = ky i' → i = i') ∧ ∀ z, (∃ i, i < sumN nj (fun j => evn (oS s j)) ∧ ky i = z) ↔ EVs nj s z
def rMi (s : Rs) (I : FI) : Prop := I 0 23 24 = nI (oM s) ∧ I 0 23 39 = 0
def rR (E : FI) (nj : Nat) (s : Rs) (I : FI) (J : FJ) : Prop := rTr E nj s I ∧ rAw nj s I ∧ rAm E nj s I ∧ rHd s I ∧ rLf E nj s J ∧ rEv nj s I ∧ rMi s I
section MR
variable {A : Nat → Nat → Nat} {B : Nat → Nat × Nat} {S : Hp} {nc nw nm nj : Nat} {cw jc : Nat → Nat} {I : FI} {J : FJ} {R : FR} {xs : Nat → Int32} {L : Nat} {l4 : Int32}
variable {E K : FI} {L' : FJ} {od : Nat → Nat} {s : Rs} {j : Nat} {Q : Hp → Prop}
theorem mx.fy (h : mx A B S nc nw nm nj cw jc od E K L' I J R) : Fy K L' R I J R := ⟨h.2.2.2.1.mo (fun c i p e => by
  simp only [moI, dyI, Bool.and_eq_true, Bool.or_eq_true, beq_iff_eq, Bool.not_eq_true', Bool.or_eq_false_iff, Bool.and_eq_false_iff, beq_eq_false_iff_ne, decide_eq_true_eq, decide_eq_false_iff_not, ne_eq] at e ⊢
  omega), h.2.2.2.2.1.mo (fun c i p e => by
  simp only [moJ, dyJ, Bool.and_eq_true, Bool.or_eq_true, beq_iff_eq, Bool.not_eq_true', Bool.or_eq_false_iff, Bool.and_eq_false_iff, beq_eq_false_iff_ne, decide_eq_true_eq, decide_eq_false_iff_not, ne_eq] at e ⊢
  omega), Ag.rf⟩
theorem mx.st (h : mx A B S nc nw nm nj cw jc od E K L' I J R) : vSt A S nc nw nm nj cw jc I J R := vSt_c h.fy h.2.1
theorem mx.e (h : mx A B S nc nw nm nj cw jc od E K L' I J R) {k : Nat} (hk : k < 26) (p : Nat) : I 1 k p = E 1 k p := by
  rw [h.2.2.2.1 1 k p (by simp [moI]; omega)]; exact h.2.2.1 k p hk
theorem mx.up (h : mx A B S nc nw nm nj cw jc od E K L' I J R) {c i p : Nat} {v : Int32} (hd : moI c i p = true) : mx A B S nc nw nm nj cw jc od E K L' (up3 I c i p v) J R := ⟨h.1, h.2.1, h.2.2.1, h.2.2.2.1.up (by show (!moI c i p) = false; rw [hd]; rfl), h.2.2.2.2⟩
theorem mx.Ju (h : mx A B S nc nw nm nj cw jc od E K L' I J R) {i : Nat} {f : Nat → Int64} : mx A B S nc nw nm nj cw jc od E K L' I (upR J 1 i f) R := ⟨h.1, h.2.1, h.2.2.1, h.2.2.2.1, h.2.2.2.2.1.ur (fun _ => rfl), h.2.2.2.2.2⟩
theorem mx.I' (h : mx A B S nc nw nm nj cw jc od E K L' I J R) {I2 : FI} (e : Ag (fun c i p => !moI c i p) I I2) : mx A B S nc nw nm nj cw jc od E K L' I2 J R := ⟨h.1, h.2.1, h.2.2.1, h.2.2.2.1.tr e, h.2.2.2.2⟩
theorem mx.cn (h : mx A B S nc nw nm nj cw jc od E K L' I J R) : I 0 23 1 = nI nc ∧ I 0 23 2 = nI nw ∧ I 0 23 3 = nI nm ∧ I 0 23 4 = nI nj := h.st.2.1.2.2.2.2
theorem mx.n (h : mx A B S nc nw nm nj cw jc od E K L' I J R) : nc ≤ 8 ∧ nw ≤ 32 ∧ nm ≤ 40 ∧ nj ≤ 200 := ⟨h.2.1.1.1, h.2.1.1.2.1, h.2.1.1.2.2.1, h.2.1.1.2.2.2.1⟩
/-- an event is told -/
theorem p_telm {s s' : Rs} {k m : Nat} (hm : mx A B S nc nw nm nj cw jc od E K L' I J R) (he : rEv nj s I) (hmi : I 0 23 24 = nI m) (hj : j < nj) (hv : evn (oS s j) < 2) (hm6 : m ≤ 1000000) (hk : k < 8) (hf : ¬ EVs nj s (ekey m k j)) (h1 : sumN nj (fun i => evn (oS s' i)) = sumN nj (fun i => evn (oS s i)) + 1) (h2 : ∀ z, EVs nj s' z ↔ z = ekey m k j ∨ EVs nj s z) (hQ : ∀ I', mx A B S nc nw nm nj cw jc od E K L' I' J R → (∀ c i p, ¬ (c = 0 ∧ i = 23 ∧ p = 25) → ¬ (c = 1 ∧ (i = 36 ∨ i = 37 ∨ i = 38)) → I' c i p = I c i p) → rEv nj s' I' → Q (hq A B S I' J R)) : wp_X12_tells (hq A B S I J R) (A 0 23) (nI j) (nI k) Q := by
  have h := hm.1
  have n4 := hm.n.2.2.2
  obtain ⟨ky, e1, e2, e3, e4⟩ := he
  have hlt := evs_lt (s := s) n4 hj hv
  generalize hN : sumN nj (fun i => evn (oS s i)) = n at *
  unfold wp_X12_tells
  have x1 : up3 I 1 36 n (nI m) 0 23 25 = nI n := e1
  have x2 : up3 (up3 I 1 36 n (nI m)) 1 37 n (nI j) 0 23 25 = nI n := e1
  have x3 : up3 (up3 (up3 I 1 36 n (nI m)) 1 37 n (nI j)) 1 38 n (nI k) 0 23 25 = nI n := e1
  simp only [fr_23 h, fm_36 h, fm_37 h, fm_38 h, hi_q h, hj_q h, si_q h, sj_q h, vv_5 h, vs_5 h, vv_7 h, vs_7 h, vv_8 h, vs_8 h, vv_9 h, vs_9 h, vv_11 h, vs_11 h, vv_17 h, vs_17 h, vv_18 h, vs_18 h, vj_3 h, vj_4 h, vj_5 h, ex_some, ex_def, all_def, true_and, and_true, Nat.reduceLT, e1, hmi, x1, x2, x3, nI_clamp (show n < 2 ^ 31 by omega), vin (show n < 600 by omega) (show 600 < 2 ^ 31 by decide), ← nI_succ]
  refine hQ _ ((((hm.up rfl).up rfl).up rfl).up rfl) (fun c i p a b => ?_) ⟨fun i => if i = n then ekey m k j else ky i, ?_, fun i hi => ?_, fun i i' hi hi' e => ?_, fun z => ?_⟩
  · rw [up3_off a, up3_off (by omega), up3_off (by omega), up3_off (by omega)]
  · rw [up3_same, h1]
  · rw [h1] at hi
    by_cases e : i = n
    · subst e
      exact ⟨m, k, j, by omega, hk, by omega, by simp, by simp [up3], by simp [up3], by simp [up3]⟩
    · obtain ⟨m', k', j', a1, a2, a3, a4, a5, a6, a7⟩ := e2 i (by omega)
      exact ⟨m', k', j', a1, a2, a3, by simp [e, a4], by simp [up3, e, a5], by simp [up3, e, a6], by simp [up3, e, a7]⟩
  · rw [h1] at hi hi'
    by_cases q : i = n
    · by_cases q' : i' = n
      · rw [q, q']
      · simp only [q, q', if_true, if_false] at e
        exact absurd ((e4 _).mp ⟨i', by omega, e.symm⟩) hf
    · by_cases q' : i' = n
      · simp only [q, q', if_true, if_false] at e
        exact absurd ((e4 _).mp ⟨i, by omega, e⟩) hf
      · simp only [q, q', if_false] at e
        exact e3 i i' (by omega) (by omega) e
  · rw [h1, h2, ← e4]
    constructor
    · rintro ⟨i, hi, e⟩
      by_cases q : i = n
      · simp only [q, if_true] at e; exact Or.inl e.symm
      · simp only [q, if_false] at e; exact Or.inr ⟨i, by omega, e⟩
    · rintro (e | ⟨i, hi, e⟩)
      · exact ⟨n, by omega, by simp [e]⟩
      · exact ⟨i, by omega, by simp only [show ¬ i = n by omega, if_false]; exact e⟩
/-- job j's worker and machines are free again -/
theorem p_frem {w : Nat} (hm : mx A B S nc nw nm nj cw jc od E K L' I J R) (hj : j < nj) (hw : I 1 29 j = nI w) (hw32 : w < 32) (hQ : ∀ I', mx A B S nc nw nm nj cw jc od E K L' I' J R → (∀ c i p, ¬ (c = 1 ∧ (i = 28 ∨ i = 32 ∨ i = 33)) → I' c i p = I c i p) → (∀ i, I' 1 28 i = if i = j then I 0 23 24 else I 1 28 i) → (∀ i, I' 1 32 i = if i = w then -1 else I 1 32 i) → (∀ m, m < 40 → I' 1 33 m = if E 1 12 (40 * j + m) = 1 then -1 else I 1 33 m) → Q (hq A B S I' J R)) : wp_X12_frees (hq A B S I J R) (A 0 23) (nI j) Q := by
  have h := hm.1
  have n4 := hm.n.2.2.2
  have n3 := hm.n.2.2.1
  obtain ⟨c1, c2, c3, c4⟩ := hm.cn
  unfold wp_X12_frees
  simp only [fr_23 h, fm_29 h, fm_32 h, hi_q h, hj_q h, si_q h, sj_q h, vv_5 h, vs_5 h, vv_7 h, vs_7 h, vv_8 h, vs_8 h, vv_9 h, vs_9 h, vv_11 h, vs_11 h, vv_17 h, vs_17 h, vv_18 h, vs_18 h, vj_3 h, vj_4 h, vj_5 h, ex_some, ex_def, all_def, true_and, and_true, Nat.reduceLT, nI_clamp (show j < 2 ^ 31 by omega), vin (show j < 200 by omega) (show 200 < 2 ^ 31 by decide), hw, nI_clamp (show w < 2 ^ 31 by omega), vin hw32 (show 32 < 2 ^ 31 by decide)]
  have key : ∀ (r k fu : Nat) (I2 : FI), k + r = nm → r < fu → mx A B S nc nw nm nj cw jc od E K L' I2 J R → (∀ c i p, ¬ (c = 1 ∧ (i = 32 ∨ i = 33)) → I2 c i p = I c i p) → (∀ i, I2 1 32 i = if i = w then -1 else I 1 32 i) → (∀ m, m < 40 → I2 1 33 m = if m < k ∧ E 1 12 (40 * j + m) = 1 then -1 else I 1 33 m) → wp_X12_frees_L14 (A 0 23) (nI j) Q fu (hq A B S I2 J R) (nI k) := by
    intro r
    induction r with
    | zero =>
      intro k fu I2 hk hf hm2 f1 f2 f3
      obtain ⟨fu, rfl⟩ : ∃ z, fu = z + 1 := ⟨fu - 1, by omega⟩
      have hkn : k = nm := by omega
      subst hkn
      rw [wp_X12_frees_L14]
      simp only [fr_23 h, fm_28 h, hi_q h, hj_q h, si_q h, sj_q h, vv_5 h, vs_5 h, vv_7 h, vs_7 h, vv_8 h, vs_8 h, vv_9 h, vs_9 h, vv_11 h, vs_11 h, vv_17 h, vs_17 h, vv_18 h, vs_18 h, vj_3 h, vj_4 h, vj_5 h, ex_some, ex_def, all_def, true_and, and_true, Nat.reduceLT, hm2.cn.2.2.1, nI_clamp (show j < 2 ^ 31 by omega), vin (show j < 200 by omega) (show 200 < 2 ^ 31 by decide)]
      refine ⟨fun _ => hQ _ (hm2.up rfl) (fun c i p a => ?_) (fun i => ?_) (fun i => ?_) (fun m hm40 => ?_), fun z => absurd (Int32.le_refl _) z⟩
      · rw [up3_off (by omega)]; exact f1 c i p (by omega)
      · by_cases e : i = j
        · rw [e, up3_same, if_pos rfl]; exact f1 0 23 24 (by omega)
        · rw [up3_off (by omega), if_neg e]; exact f1 1 28 i (by omega)
      · rw [up3_off (by omega)]; exact f2 i
      · rw [up3_off (by omega), f3 m hm40]
        by_cases e : E 1 12 (40 * j + m) = 1
        · have : m < k := by
            rcases Nat.lt_or_ge m k with q | q
            · exact q
            · obtain ⟨-, -, -, -, -, -, -, -, -, -, -, -, -, zr⟩ := hm.st
              have := zr.2.1 j m (by omega) hm40 (Or.inr q)
              rw [hm.e (by decide)] at this
              rw [this] at e; exact absurd e (by decide)
          rw [if_pos ⟨this, e⟩, if_pos e]
        · rw [if_neg (fun z => e z.2), if_neg e]
    | succ r ih =>
      intro k fu I2 hk hf hm2 f1 f2 f3
      obtain ⟨fu, rfl⟩ : ∃ z, fu = z + 1 := ⟨fu - 1, by omega⟩
      have hkn : k < nm := by omega
      have e0 : ¬ nI nm ≤ nI k := by rw [nI_leI (by omega) (by omega)]; omega
      have b := (hm2.st.2.2.2.2.2.2.2.1 j k hj (by omega)).1 (by omega)
      rw [hm2.e (by decide)] at b
      have ez : E 1 12 (40 * j + k) = 0 ↔ ¬ E 1 12 (40 * j + k) = 1 := ⟨fun z => by rw [z]; decide, fun z => b.resolve_right z⟩
      rw [wp_X12_frees_L14]
      simp only [fr_23 h, fm_12 h, fm_33 h, hi_q h, hj_q h, si_q h, sj_q h, vv_5 h, vs_5 h, vv_7 h, vs_7 h, vv_8 h, vs_8 h, vv_9 h, vs_9 h, vv_11 h, vs_11 h, vv_17 h, vs_17 h, vv_18 h, vs_18 h, vj_3 h, vj_4 h, vj_5 h, ex_some, ex_def, all_def, true_and, and_true, Nat.reduceLT, hm2.cn.2.2.1, e0, not_false_eq_true, true_implies, not_true_eq_false, false_implies, true_and, and_true, false_and, and_false, forall_const, imp_self, implies_true, if_true, if_false, eq_self, Bool.true_eq_false, Bool.false_eq_true, false_or, or_false, true_or, or_true, i40, nI_clamp (show 40 * j + k < 2 ^ 31 by omega), vin (show 40 * j + k < 8000 by omega) (show 8000 < 2 ^ 31 by decide), nI_clamp (show k < 2 ^ 31 by omega), vin (show k < 40 by omega) (show 40 < 2 ^ 31 by decide), hm2.e (show 12 < 26 by decide), ez, ← nI_succ]
      refine ⟨fun z => ih (k + 1) fu I2 (by omega) (by omega) hm2 f1 f2 (fun m hm40 => ?_), fun z => ih (k + 1) fu _ (by omega) (by omega) (hm2.up rfl) (fun c i p a => ?_) (fun i => ?_) (fun m hm40 => ?_)⟩
      · rw [f3 m hm40]
        have : (m < k + 1 ∧ E 1 12 (40 * j + m) = 1) ↔ (m < k ∧ E 1 12 (40 * j + m) = 1) := ⟨fun ⟨a, b⟩ => ⟨by
          have : m ≠ k := fun q => z (by rw [← q]; exact b)
          omega, b⟩, fun ⟨a, b⟩ => ⟨by omega, b⟩⟩
        simp only [this]
      · rw [up3_off (by omega)]; exact f1 c i p a
      · rw [up3_off (by omega)]; exact f2 i
      · by_cases q : m = k
        · rw [q, up3_same, if_pos ⟨by omega, Classical.not_not.mp z⟩]
        · rw [up3_off (by omega), f3 m hm40]
          have : (m < k + 1 ∧ E 1 12 (40 * j + m) = 1) ↔ (m < k ∧ E 1 12 (40 * j + m) = 1) := ⟨fun ⟨a, b⟩ => ⟨by omega, b⟩, fun ⟨a, b⟩ => ⟨by omega, b⟩⟩
          simp only [this]
  refine key nm 0 FU _ (by omega) (by unfold FU; omega) (hm.up rfl) (fun c i p a => ?_) (fun i => ?_) (fun m hm40 => ?_)
  · rw [up3_off (by omega)]
  · by_cases e : i = w
    · rw [e, up3_same, if_pos rfl]
    · rw [up3_off (by omega), if_neg e]
  · rw [up3_off (by omega), if_neg (by omega)]
end MR
