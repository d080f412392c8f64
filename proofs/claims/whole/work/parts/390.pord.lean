/-! the paths: heads, tails, the chain -/
def paI (c i p : Nat) : Bool := (c == 0 && (i == 2 || i == 10)) || (c == 3 && (p == 13 || p == 14))
def paR (c i _p : Nat) : Bool := c == 0 && (i == 9 || i == 11)
/-- the class reckons its paths: E R0 as it began, with the lists of the jobs -/
def pX (A : Nat → Nat → Nat) (B : Nat → Nat × Nat) (S : Hp) (nc nw nm nj : Nat) (cw jc : Nat → Nat) (bn : Nat → Nat) (bl : Nat → Nat → Nat) (an : Nat → Nat) (al : Nat → Nat → Nat) (E : FI) (J : FJ) (R0 : FR) (I : FI) (R : FR) : Prop := Sh A B S nj nc ∧ vSt A S nc nw nm nj cw jc E J R0 ∧ lsA A S E R0 4 17 nj bn bl ∧ lsA A S E R0 5 18 nj an al ∧ (∀ j b, j < nj → b < nj → (E 1 10 (200 * j + b) = 0 ∨ E 1 10 (200 * j + b) = 1) ∧ (E 1 10 (200 * j + b) = 1 ↔ ∃ i, i < bn j ∧ bl j i = b) ∧ (E 1 10 (200 * j + b) = 1 ↔ ∃ i, i < an b ∧ al b i = j)) ∧ (∀ j i i', j < nj → i < bn j → i' < bn j → bl j i = bl j i' → i = i') ∧ (∀ j i i', j < nj → i < an j → i' < an j → al j i = al j i' → i = i') ∧ Ag (fun c i p => !paI c i p) E I ∧ Ag (fun c i p => !paR c i p) R0 R
section PO
variable {A : Nat → Nat → Nat} {B : Nat → Nat × Nat} {S : Hp} {nc nw nm nj : Nat} {cw jc : Nat → Nat} {I : FI} {J : FJ} {R : FR} {xs : Nat → Int32} {L : Nat} {l4 : Int32}
variable {E : FI} {R0 : FR} {bn an : Nat → Nat} {bl al : Nat → Nat → Nat} {j : Nat}
theorem pX.fy (h : pX A B S nc nw nm nj cw jc bn bl an al E J R0 I R) : Fy E J R0 I J R := ⟨h.2.2.2.2.2.2.2.1.mo (fun c i p e => by
  simp only [paI, dyI, Bool.and_eq_true, Bool.or_eq_true, beq_iff_eq, Bool.not_eq_true', Bool.or_eq_false_iff, Bool.and_eq_false_iff, beq_eq_false_iff_ne, decide_eq_true_eq, decide_eq_false_iff_not, ne_eq] at e ⊢
  omega), Ag.rf, h.2.2.2.2.2.2.2.2.mo (fun c i p e => by
  simp only [paR, dyR, Bool.and_eq_true, Bool.or_eq_true, beq_iff_eq, Bool.not_eq_true', Bool.or_eq_false_iff, Bool.and_eq_false_iff, beq_eq_false_iff_ne, decide_eq_true_eq, decide_eq_false_iff_not, ne_eq] at e ⊢
  omega)⟩
theorem pX.st (h : pX A B S nc nw nm nj cw jc bn bl an al E J R0 I R) : vSt A S nc nw nm nj cw jc I J R := vSt_c h.fy h.2.1
theorem pX.up (h : pX A B S nc nw nm nj cw jc bn bl an al E J R0 I R) {c i p : Nat} {v : Int32} (hd : paI c i p = true) : pX A B S nc nw nm nj cw jc bn bl an al E J R0 (up3 I c i p v) R := ⟨h.1, h.2.1, h.2.2.1, h.2.2.2.1, h.2.2.2.2.1, h.2.2.2.2.2.1, h.2.2.2.2.2.2.1, h.2.2.2.2.2.2.2.1.up (by show (!paI c i p) = false; rw [hd]; rfl), h.2.2.2.2.2.2.2.2⟩
theorem pX.uR (h : pX A B S nc nw nm nj cw jc bn bl an al E J R0 I R) {c i p : Nat} {v : Option Nat} (hd : paR c i p = true) : pX A B S nc nw nm nj cw jc bn bl an al E J R0 I (up3 R c i p v) := ⟨h.1, h.2.1, h.2.2.1, h.2.2.2.1, h.2.2.2.2.1, h.2.2.2.2.2.1, h.2.2.2.2.2.2.1, h.2.2.2.2.2.2.2.1, h.2.2.2.2.2.2.2.2.up (by show (!paR c i p) = false; rw [hd]; rfl)⟩
theorem pX.i (h : pX A B S nc nw nm nj cw jc bn bl an al E J R0 I R) {c i p : Nat} (e : paI c i p = false) : I c i p = E c i p := h.2.2.2.2.2.2.2.1 c i p (by show (!paI c i p) = true; rw [e]; rfl)
theorem pX.r (h : pX A B S nc nw nm nj cw jc bn bl an al E J R0 I R) {c i p : Nat} (e : paR c i p = false) : R c i p = R0 c i p := h.2.2.2.2.2.2.2.2 c i p (by show (!paR c i p) = true; rw [e]; rfl)
theorem pX.gl (h : pX A B S nc nw nm nj cw jc bn bl an al E J R0 I R) : Ag gLs E I ∧ Ag kLs R0 R := ⟨h.2.2.2.2.2.2.2.1.mo (fun c i p e => by
  simp only [paI, gLs, Bool.and_eq_true, Bool.or_eq_true, beq_iff_eq, Bool.not_eq_true', Bool.or_eq_false_iff, Bool.and_eq_false_iff, beq_eq_false_iff_ne, ne_eq] at e ⊢
  omega), h.2.2.2.2.2.2.2.2.mo (fun c i p e => by
  simp only [paR, kLs, Bool.and_eq_true, Bool.or_eq_true, beq_iff_eq, Bool.not_eq_true', Bool.or_eq_false_iff, Bool.and_eq_false_iff, beq_eq_false_iff_ne, ne_eq] at e ⊢
  omega)⟩
theorem pX.lb (h : pX A B S nc nw nm nj cw jc bn bl an al E J R0 I R) : lsA A S I R 4 17 nj bn bl := lsA_c (Or.inl ⟨rfl, rfl⟩) h.gl.1 h.gl.2 (fun _ => rfl) (fun _ => rfl) rfl h.2.2.1
theorem pX.la (h : pX A B S nc nw nm nj cw jc bn bl an al E J R0 I R) : lsA A S I R 5 18 nj an al := lsA_c (Or.inr ⟨rfl, rfl⟩) h.gl.1 h.gl.2 (fun _ => rfl) (fun _ => rfl) rfl h.2.2.2.1
theorem pX.n4 (h : pX A B S nc nw nm nj cw jc bn bl an al E J R0 I R) : nj ≤ 200 := h.2.1.1.2.2.2.1
theorem pX.c7 (h : pX A B S nc nw nm nj cw jc bn bl an al E J R0 I R) : I 0 1 7 = nI nj := h.st.2.1.2.2.2.1
theorem pX.jo (h : pX A B S nc nw nm nj cw jc bn bl an al E J R0 I R) (hj : j < nj) : R 0 7 j = some (A 3 j) ∧ I 3 j 0 = nI j ∧ I 3 j 2 = E 1 8 j ∧ 1 ≤ (E 1 8 j).toInt ∧ (E 1 8 j).toInt ≤ 10000 := by
  have a := h.st.2.2.2.1 j hj
  have b := h.2.1.2.2.2.1 j hj
  refine ⟨a.1, a.2.1, ?_, b.2.2.2.2.2.1, b.2.2.2.2.2.2.1⟩
  rw [h.i (c := 3) (p := 2) rfl]; exact b.2.2.2.2.1
theorem php {N n : Nat} {f : Nat → Nat} (h1 : ∀ q, q < n → f q < N) (h2 : ∀ q q', q < n → q' < n → f q = f q' → q = q') : n ≤ N := by
  have := cntN_ls (N := N) (f := f) (n := n) (p := fun b => decide (∃ i, i < n ∧ f i = b)) h1 h2 (fun b _ => decide_eq_true_iff)
  rw [← this]; exact cntN_le _ _
/-- the sorted row -/
def so1 (A : Nat → Nat → Nat) (nj n : Nat) (so : Nat → Nat) (I : FI) (R : FR) : Prop := (∀ q, q < n → so q < nj) ∧ (∀ q q', q < n → q' < n → so q = so q' → q = q') ∧ I 0 2 3 = nI n ∧ ∀ q, q < n → R 0 9 q = some (A 3 (so q))
theorem so1_u {n : Nat} {so : Nat → Nat} (h1 : ∀ q, q < n → so q < nj) (h2 : ∀ q q', q < n → q' < n → so q = so q' → q = q') (hj : j < nj) (hn : ∀ q, q < n → so q ≠ j) : (∀ q, q < n + 1 → u1 so n j q < nj) ∧ ∀ q q', q < n + 1 → q' < n + 1 → u1 so n j q = u1 so n j q' → q = q' := by
  refine ⟨fun q hq => ?_, fun q q' hq hq' e => ?_⟩
  · by_cases z : q = n
    · rw [z, u1_s]; exact hj
    · rw [u1_o z]; exact h1 q (by omega)
  · by_cases z : q = n
    · by_cases z' : q' = n
      · rw [z, z']
      · rw [z, u1_s, u1_o z'] at e; exact absurd e.symm (hn q' (by omega))
    · by_cases z' : q' = n
      · rw [z', u1_s, u1_o z] at e; exact absurd e (hn q (by omega))
      · rw [u1_o z, u1_o z'] at e; exact h2 q q' (by omega) (by omega) e
theorem p_puts {n : Nat} {so : Nat → Nat} {Q : Hp → Prop} (hX : pX A B S nc nw nm nj cw jc bn bl an al E J R0 I R) (hj : j < nj) (h1 : so1 A nj n so I R) (hn : ∀ q, q < n → so q ≠ j) (hQ : ∀ I' R', pX A B S nc nw nm nj cw jc bn bl an al E J R0 I' R' → (∀ c i p, ¬ (c = 0 ∧ i = 2) → I' c i p = I c i p) → so1 A nj (n + 1) (u1 so n j) I' R' → Q (hq A B S I' J R')) : wp_X6_putSorted (hq A B S I J R) (A 0 2) (some (A 3 j)) Q := by
  have h := hX.1
  have n4 := hX.n4
  obtain ⟨a1, a2, a3, a4⟩ := h1
  obtain ⟨b1, b2⟩ := so1_u a1 a2 hj hn
  have hnj : n + 1 ≤ nj := php b1 b2
  have e0 : ¬ (200 : Int32) ≤ nI n := by rw [show (200 : Int32) = nI 200 from rfl, nI_leI (by decide) (by omega)]; omega
  unfold wp_X6_putSorted
  simp only [fr_2 h, fr_9 h, fj_3 h hj, hi_q h, hj_q h, si_q h, sj_q h, vv_5 h, vs_5 h, vv_7 h, vs_7 h, vv_8 h, vs_8 h, vv_9 h, vs_9 h, vv_11 h, vs_11 h, vv_17 h, vs_17 h, vv_18 h, vs_18 h, vj_3 h, vj_4 h, vj_5 h, ex_some, ex_def, all_def, true_and, and_true, Nat.reduceLT, exists_eq_left, Option.some.injEq, exists_eq_left', a3, e0, not_false_eq_true, true_implies, not_true_eq_false, false_implies, true_and, and_true, false_and, and_false, forall_const, imp_self, implies_true, if_true, if_false, eq_self, Bool.true_eq_false, Bool.false_eq_true, false_or, or_false, true_or, or_true, nI_clamp (show n < 2 ^ 31 by omega), vin (show n < 200 by omega) (show 200 < 2 ^ 31 by decide), ← nI_succ]
  refine hQ _ _ ((hX.up rfl).uR rfl) (fun c i p z => up3_off (by omega)) ⟨b1, b2, up3_same _ _ _ _ _, fun q hq => ?_⟩
  by_cases z : q = n
  · rw [z, up3_same, u1_s]
  · rw [up3_off (by omega), u1_o z]; exact a4 q (by omega)
/-- the edge from b to j is done with, when i of the row are, and k of the jobs after the next one -/
abbrev pz (so : Nat → Nat) (al : Nat → Nat → Nat) (i k b j : Nat) : Prop := (∃ q, q < i ∧ so q = b) ∨ (b = so i ∧ ∃ t, t < k ∧ al b t = j)
def opn (E : FI) (nj : Nat) (so : Nat → Nat) (al : Nat → Nat → Nat) (i k j : Nat) : Nat := cntN nj (fun b => decide (E 1 10 (200 * j + b) = 1 ∧ ¬ pz so al i k b j))
theorem opn_cg {so so' : Nat → Nat} {i k i' k' : Nat} (h : ∀ b, b < nj → E 1 10 (200 * j + b) = 1 → (pz so al i k b j ↔ pz so' al i' k' b j)) : opn E nj so al i k j = opn E nj so' al i' k' j := by
  unfold opn
  refine cntN_cg (fun b hb => ?_)
  rw [decide_eq_decide]
  exact ⟨fun ⟨a, c⟩ => ⟨a, fun z => c ((h b hb a).mpr z)⟩, fun ⟨a, c⟩ => ⟨a, fun z => c ((h b hb a).mp z)⟩⟩
theorem opn_0 {so : Nat → Nat} {i k : Nat} : opn E nj so al i k j = 0 ↔ ∀ b, b < nj → E 1 10 (200 * j + b) = 1 → pz so al i k b j := by
  unfold opn
  rw [cntN_0]
  constructor
  · intro h b hb e
    have := of_decide_eq_false (h b hb)
    exact Classical.not_not.mp (fun z => this ⟨e, z⟩)
  · intro h b hb
    exact decide_eq_false (fun z => z.2 (h b hb z.1))
theorem opn_dec {so : Nat → Nat} {i k : Nat} (hb : so i < nj) (he : E 1 10 (200 * al (so i) k + so i) = 1) (hn : ¬ pz so al i k (so i) (al (so i) k)) : opn E nj so al i k (al (so i) k) = opn E nj so al i (k + 1) (al (so i) k) + 1 := by
  unfold opn
  refine cntN_up hb (fun b _ z => ?_) ?_ ?_
  · rw [decide_eq_decide]
    have : pz so al i k b (al (so i) k) ↔ pz so al i (k + 1) b (al (so i) k) := ⟨fun y => y.imp id (fun ⟨w, _⟩ => absurd w z), fun y => y.imp id (fun ⟨w, _⟩ => absurd w z)⟩
    rw [this]
  · exact decide_eq_false (fun y => y.2 (Or.inr ⟨rfl, k, by omega, rfl⟩))
  · exact decide_eq_true ⟨he, hn⟩
theorem opn_same {so : Nat → Nat} {i k : Nat} (hj : j ≠ al (so i) k) : opn E nj so al i (k + 1) j = opn E nj so al i k j := opn_cg (fun b _ _ => ⟨fun y => y.imp id (fun ⟨w, t, ht, e⟩ => ⟨w, t, by
  have : t ≠ k := fun z => hj (by rw [← e, z, w])
  omega, e⟩), fun y => y.imp id (fun ⟨w, t, ht, e⟩ => ⟨w, t, by omega, e⟩)⟩)
def so2 (E : FI) (nj : Nat) (so : Nat → Nat) (al : Nat → Nat → Nat) (n i k : Nat) (I : FI) : Prop := (∀ j, j < nj → I 0 10 j = nI (opn E nj so al i k j)) ∧ (∀ j, j < nj → (opn E nj so al i k j = 0 ↔ ∃ q, q < n ∧ so q = j)) ∧ ∀ q, q < n → ∀ b, b < nj → E 1 10 (200 * so q + b) = 1 → ∃ q', q' < q ∧ so q' = b
/-- an order of all jobs, each behind those before it -/
def pO (E : FI) (nj : Nat) (so : Nat → Nat) : Prop := (∀ q, q < nj → so q < nj) ∧ (∀ q q', q < nj → q' < nj → so q = so q' → q = q') ∧ (∀ j, j < nj → ∃ q, q < nj ∧ so q = j) ∧ ∀ q, q < nj → ∀ b, b < nj → E 1 10 (200 * so q + b) = 1 → ∃ q', q' < q ∧ so q' = b
theorem so_all {so : Nat → Nat} {n : Nat} (hl : vLn nj E J) (hd : ∀ j, j < nj → (opn E nj so al n 0 j = 0 ↔ ∃ q, q < n ∧ so q = j)) : ∀ j, j < nj → ∃ q, q < n ∧ so q = j := by
  obtain ⟨-, l2, l3, l4, l5⟩ := hl
  have key : ∀ m j, j < nj → cntN nj (fun x => decide (E 1 11 (200 * j + x) = 1)) < m → ∃ q, q < n ∧ so q = j := by
    intro m
    induction m with
    | zero => intro j _ h; omega
    | succ m ih =>
      intro j hj hm
      refine (hd j hj).mp (opn_0.mpr (fun b hb e => Or.inl (ih b hb ?_)))
      have ejb := l5 j b hj hb e
      have := cntN_lt (p := fun x => decide (E 1 11 (200 * b + x) = 1)) (q := fun x => decide (E 1 11 (200 * j + x) = 1)) (n := nj) hb (fun x hx w => decide_eq_true (l4 j b x hj hb hx ejb (of_decide_eq_true w))) (decide_eq_false (fun w => by rw [l3 b hb] at w; exact absurd w (by decide))) (decide_eq_true ejb)
      omega
  exact fun j hj => key _ j hj (Nat.lt_succ_self _)
end PO
