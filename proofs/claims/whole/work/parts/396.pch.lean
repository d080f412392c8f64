section PC
variable {A : Nat → Nat → Nat} {B : Nat → Nat × Nat} {S : Hp} {nc nw nm nj : Nat} {cw jc : Nat → Nat} {I : FI} {J : FJ} {R : FR} {xs : Nat → Int32} {L : Nat} {l4 : Int32}
variable {E : FI} {R0 : FR} {bn an : Nat → Nat} {bl al : Nat → Nat → Nat} {j x : Nat} {so : Nat → Nat} {tc : Nat → Int32} {T : Nat → Int} {ok ok' : Nat → Prop}
theorem pBst_cg {b : Option Nat} (h : ∀ k, k < nj → (ok k ↔ ok' k)) (hb : pBst nj ok T b) : pBst nj ok' T b := by
  cases b with
  | none => exact fun k hk o => hb k hk ((h k hk).mpr o)
  | some b => exact ⟨hb.1, (h b hb.1).mp hb.2.1, fun k hk o => hb.2.2 k hk ((h k hk).mpr o)⟩
theorem pBst_u {b b' : Option Nat} (h : pBst nj ok T b) (h' : pBst nj ok T b') : b = b' := by
  cases b with
  | none =>
    cases b' with
    | none => rfl
    | some b' => exact absurd h'.2.1 (h b' h'.1)
  | some b =>
    cases b' with
    | none => exact absurd h.2.1 (h' b h.1)
    | some b' =>
      have x1 := h.2.2 b' h'.1 h'.2.1
      have x2 := h'.2.2 b h.1 h.2.1
      congr 1; omega
theorem p_lof {b : Option Nat} {Q : Option Nat → Hp → Prop} (hX : pX A B S nc nw nm nj cw jc bn bl an al E J R0 I R) (hT : ∀ j, I 3 j 14 = tc j) (hx : x < nj) (hb : pBst nj ok (fun j => (tc j).toInt) b) (hQ : ∀ b', pBst nj (fun k => ok k ∨ k = x) (fun j => (tc j).toInt) b' → Q (b'.map (fun j => A 3 j)) (hq A B S I J R)) : wp_X6_longerOf (hq A B S I J R) (b.map (fun j => A 3 j)) (some (A 3 x)) Q := by
  have h := hX.1
  have n4 := hX.n4
  unfold wp_X6_longerOf
  cases b with
  | none =>
    refine ⟨fun _ => hQ (some x) ⟨hx, Or.inr rfl, fun k hk o => ?_⟩, fun z => absurd rfl z⟩
    rcases o with o | o
    · exact absurd o (hb k hk)
    · rw [o]; exact Or.inr ⟨rfl, Nat.le_refl _⟩
  | some b =>
    obtain ⟨b1, b2, b3⟩ := hb
    have keep : (tc x).toInt < (tc b).toInt ∨ (tc x).toInt = (tc b).toInt ∧ b ≤ x → Q (some (A 3 b)) (hq A B S I J R) := fun z => hQ (some b) ⟨b1, Or.inl b2, fun k hk o => by
      rcases o with o | o
      · exact b3 k hk o
      · rw [o]; exact z⟩
    have take : (tc b).toInt < (tc x).toInt ∨ (tc b).toInt = (tc x).toInt ∧ x ≤ b → Q (some (A 3 x)) (hq A B S I J R) := fun z => hQ (some x) ⟨hx, Or.inr rfl, fun k hk o => by
      rcases o with o | o
      · have := b3 k hk o
        simp only at this ⊢
        omega
      · rw [o]; exact Or.inr ⟨rfl, Nat.le_refl _⟩⟩
    refine ⟨fun z => (by cases z), fun _ => ⟨A 3 x, rfl, (fj_3 h hx _ _ _).1, A 3 b, rfl, (fj_3 h b1 _ _ _).1, ?_⟩⟩
    have nl : nI b ≤ nI x ↔ b ≤ x := nI_leI (by omega) (by omega)
    simp only [hi_q h, hj_q h, si_q h, sj_q h, vv_5 h, vs_5 h, vv_7 h, vs_7 h, vv_8 h, vs_8 h, vv_9 h, vs_9 h, vv_11 h, vs_11 h, vv_17 h, vs_17 h, vv_18 h, vs_18 h, vj_3 h, vj_4 h, vj_5 h, ex_some, ex_def, all_def, true_and, and_true, Nat.reduceLT, hT, (hX.jo hx).2.1, (hX.jo b1).2.1, nl]
    refine ⟨fun z => ⟨fun z2 => ⟨fun z3 => keep (Or.inr ⟨by rw [z2], z3⟩), fun z3 => take (Or.inr ⟨by rw [z2], by omega⟩)⟩, fun z2 => keep (Or.inl ?_)⟩, fun z => take (Or.inl ?_)⟩
    · rw [Int32.le_iff_toInt_le] at z
      have : (tc x).toInt ≠ (tc b).toInt := fun w => z2 (Int32.toInt_inj.mp w)
      omega
    · rw [Int32.le_iff_toInt_le] at z; omega
theorem p_lbh {Q : Option Nat → Hp → Prop} (hX : pX A B S nc nw nm nj cw jc bn bl an al E J R0 I R) (hT : ∀ j, I 3 j 14 = tc j) (hj : j < nj) (hQ : ∀ b, pBst nj (fun k => E 1 10 (200 * k + j) = 1) (fun j => (tc j).toInt) b → Q (b.map (fun j => A 3 j)) (hq A B S I J R)) : wp_X6_longestBehind (hq A B S I J R) (some (A 3 j)) Q := by
  have h := hX.1
  have ha := (hX.la j hj).2.1
  obtain ⟨dd, hA, -⟩ := al_q (J := J) h (Or.inr ⟨rfl, rfl⟩) hX.la hj
  unfold wp_X6_longestBehind
  have key : ∀ (r k fu : Nat) (b : Option Nat), k + r = an j → r < fu → pBst nj (fun x => ∃ t, t < k ∧ al j t = x) (fun j => (tc j).toInt) b → wp_X6_longestBehind_L4 (some (A 3 j)) Q fu (hq A B S I J R) (b.map (fun j => A 3 j)) (nI k) := by
    intro r
    induction r with
    | zero =>
      intro k fu b hk hf hb
      obtain ⟨fu, rfl⟩ : ∃ z, fu = z + 1 := ⟨fu - 1, by omega⟩
      have hkn : k = an j := by omega
      subst hkn
      rw [wp_X6_longestBehind_L4]
      simp only [fj_3 h hj, fj_5 h hj, hi_q h, hj_q h, si_q h, sj_q h, vv_5 h, vs_5 h, vv_7 h, vs_7 h, vv_8 h, vs_8 h, vv_9 h, vs_9 h, vv_11 h, vs_11 h, vv_17 h, vs_17 h, vv_18 h, vs_18 h, vj_3 h, vj_4 h, vj_5 h, ex_some, ex_def, all_def, true_and, and_true, Nat.reduceLT, exists_eq_left, Option.some.injEq, exists_eq_left']
      exact p_lsize hA ⟨fun _ => hQ b (pBst_cg (fun k hk => (hX.2.2.2.2.1 k j hk hj).2.2.symm) hb), fun z => absurd (Int32.le_refl _) z⟩
    | succ r ih =>
      intro k fu b hk hf hb
      obtain ⟨fu, rfl⟩ : ∃ z, fu = z + 1 := ⟨fu - 1, by omega⟩
      have hkn : k < an j := by omega
      have hi := ((hX.la j hj).2.2.2 k hkn).1
      have e0 : ¬ nI (an j) ≤ nI k := by rw [nI_leI (by omega) (by omega)]; omega
      rw [wp_X6_longestBehind_L4]
      simp only [fj_3 h hj, fj_5 h hj, hi_q h, hj_q h, si_q h, sj_q h, vv_5 h, vs_5 h, vv_7 h, vs_7 h, vv_8 h, vs_8 h, vv_9 h, vs_9 h, vv_11 h, vs_11 h, vv_17 h, vs_17 h, vv_18 h, vs_18 h, vj_3 h, vj_4 h, vj_5 h, ex_some, ex_def, all_def, true_and, and_true, Nat.reduceLT, exists_eq_left, Option.some.injEq, exists_eq_left']
      refine p_lsize hA ⟨fun z => absurd z e0, fun _ => ?_⟩
      simp only [fj_3 h hj, fj_5 h hj, hi_q h, hj_q h, si_q h, sj_q h, vv_5 h, vs_5 h, vv_7 h, vs_7 h, vv_8 h, vs_8 h, vv_9 h, vs_9 h, vv_11 h, vs_11 h, vv_17 h, vs_17 h, vv_18 h, vs_18 h, vj_3 h, vj_4 h, vj_5 h, ex_some, ex_def, all_def, true_and, and_true, Nat.reduceLT, exists_eq_left, Option.some.injEq, exists_eq_left']
      refine p_lget hA hkn ?_
      simp only [fj_3 h hi, hi_q h, hj_q h, si_q h, sj_q h, vv_5 h, vs_5 h, vv_7 h, vs_7 h, vv_8 h, vs_8 h, vv_9 h, vs_9 h, vv_11 h, vs_11 h, vv_17 h, vs_17 h, vv_18 h, vs_18 h, vj_3 h, vj_4 h, vj_5 h, ex_some, ex_def, all_def, true_and, and_true, Nat.reduceLT, exists_eq_left, Option.some.injEq, exists_eq_left', ← nI_succ]
      refine p_lof hX hT hi hb (fun b' hb' => ih (k + 1) fu b' (by omega) (by omega) (pBst_cg (fun x _ => ?_) hb'))
      constructor
      · rintro (⟨t, ht, e⟩ | e)
        · exact ⟨t, by omega, e⟩
        · exact ⟨k, by omega, e.symm⟩
      · rintro ⟨t, ht, e⟩
        by_cases z : t = k
        · rw [z] at e; exact Or.inr e.symm
        · exact Or.inl ⟨t, by omega, e⟩
  exact key _ 0 FU none (Nat.zero_add _) (by unfold FU; omega) (fun k _ ⟨t, ht, _⟩ => by omega)
theorem p_fc4 {K2 : Hp → Option Nat → Prop} {Q : Hp → Prop} (hX : pX A B S nc nw nm nj cw jc bn bl an al E J R0 I R) (hT : ∀ j, I 3 j 14 = tc j) (hK : ∀ b, pBst nj (fun _ => True) (fun j => (tc j).toInt) b → K2 (hq A B S I J R) (b.map (fun j => A 3 j))) : ∀ (r i fu : Nat) (b : Option Nat), i + r = nj → r < fu → pBst nj (fun x => x < i) (fun j => (tc j).toInt) b → wp_X6_followChain_L4 (A 0 2) K2 Q fu (hq A B S I J R) (b.map (fun j => A 3 j)) (nI i) := by
  have h := hX.1
  have n4 := hX.n4
  intro r
  induction r with
  | zero =>
    intro i fu b hi hf hb
    obtain ⟨fu, rfl⟩ : ∃ z, fu = z + 1 := ⟨fu - 1, by omega⟩
    have : i = nj := by omega
    subst this
    rw [wp_X6_followChain_L4]
    simp only [fr_2 h, fr_1 h, hi_q h, hj_q h, si_q h, sj_q h, vv_5 h, vs_5 h, vv_7 h, vs_7 h, vv_8 h, vs_8 h, vv_9 h, vs_9 h, vv_11 h, vs_11 h, vv_17 h, vs_17 h, vv_18 h, vs_18 h, vj_3 h, vj_4 h, vj_5 h, ex_some, ex_def, all_def, true_and, and_true, Nat.reduceLT, exists_eq_left, Option.some.injEq, exists_eq_left', hX.c7]
    exact ⟨fun _ => hK b (pBst_cg (fun k hk => ⟨fun _ => trivial, fun _ => hk⟩) hb), fun z => absurd (Int32.le_refl _) z⟩
  | succ r ih =>
    intro i fu b hi hf hb
    obtain ⟨fu, rfl⟩ : ∃ z, fu = z + 1 := ⟨fu - 1, by omega⟩
    have hj : i < nj := by omega
    have e0 : ¬ nI nj ≤ nI i := by rw [nI_leI (by omega) (by omega)]; omega
    rw [wp_X6_followChain_L4]
    simp only [fr_2 h, fr_1 h, fr_7 h, hi_q h, hj_q h, si_q h, sj_q h, vv_5 h, vs_5 h, vv_7 h, vs_7 h, vv_8 h, vs_8 h, vv_9 h, vs_9 h, vv_11 h, vs_11 h, vv_17 h, vs_17 h, vv_18 h, vs_18 h, vj_3 h, vj_4 h, vj_5 h, ex_some, ex_def, all_def, true_and, and_true, Nat.reduceLT, exists_eq_left, Option.some.injEq, exists_eq_left', hX.c7, e0, not_false_eq_true, true_implies, not_true_eq_false, false_implies, true_and, and_true, false_and, and_false, forall_const, imp_self, implies_true, if_true, if_false, eq_self, Bool.true_eq_false, Bool.false_eq_true, false_or, or_false, true_or, or_true, nI_clamp (show i < 2 ^ 31 by omega), vin (show i < 200 by omega) (show 200 < 2 ^ 31 by decide), (hX.jo hj).1, ← nI_succ]
    exact p_lof hX hT hj hb (fun b' hb' => ih (i + 1) fu b' (by omega) (by omega) (pBst_cg (fun x _ => ⟨fun o => by omega, fun o => by omega⟩) hb'))
/-- c jobs of the chain, next comes nx -/
def lnk (E : FI) (nj : Nat) (T : Nat → Int) (c : Nat) (ch : Nat → Nat) (nx : Option Nat) : Prop := pBst nj (fun _ => True) T (if c = 0 then nx else some (ch 0)) ∧ ∀ i, i < c → pBst nj (fun k => E 1 10 (200 * k + ch i) = 1) T (if i + 1 = c then nx else some (ch (i + 1)))
theorem p_ch56 {P : FI → Prop} (hP : ∀ I v, P I → P (up3 I 0 2 5 v)) (hPT : ∀ I, P I → ∀ j, I 3 j 14 = tc j) {Q : Hp → Prop} (hO : pO E nj so) (hQ : ∀ c ch I' R', pX A B S nc nw nm nj cw jc bn bl an al E J R0 I' R' → P I' → c ≤ nj → I' 0 2 5 = nI c → (∀ i, i < c → R' 0 11 i = some (A 3 (ch i)) ∧ ch i < nj) → lnk E nj (fun j => (tc j).toInt) c ch none → Q (hq A B S I' J R')) : ∀ (r c fu : Nat) (ch : Nat → Nat) (nx : Option Nat) (I : FI) (R : FR), c + r = nj → r < fu → pX A B S nc nw nm nj cw jc bn bl an al E J R0 I R → P I → I 0 2 5 = nI c → (∀ i, i < c → R 0 11 i = some (A 3 (ch i)) ∧ ch i < nj) → lnk E nj (fun j => (tc j).toInt) c ch nx → (∀ j, nx = some j → ∃ q, c ≤ q ∧ q < nj ∧ so q = j) → wp_X6_followChain_L56 (A 0 2) Q fu (hq A B S I J R) (nx.map (fun j => A 3 j)) := by
  obtain ⟨o1, o2, o3, o4⟩ := hO
  intro r
  induction r with
  | zero =>
    intro c fu ch nx I R hc hf hX hp h5 hR hl hq
    obtain ⟨fu, rfl⟩ : ∃ z, fu = z + 1 := ⟨fu - 1, by omega⟩
    cases nx with
    | none =>
      rw [wp_X6_followChain_L56]
      exact ⟨fun _ => hQ c ch I R hX hp (by omega) h5 hR hl, fun z => absurd rfl z⟩
    | some j => obtain ⟨q, a, b, -⟩ := hq j rfl; omega
  | succ r ih =>
    intro c fu ch nx I R hc hf hX hp h5 hR hl hq'
    obtain ⟨fu, rfl⟩ : ∃ z, fu = z + 1 := ⟨fu - 1, by omega⟩
    cases nx with
    | none =>
      rw [wp_X6_followChain_L56]
      exact ⟨fun _ => hQ c ch I R hX hp (by omega) h5 hR hl, fun z => absurd rfl z⟩
    | some j =>
      obtain ⟨q, a, b, e⟩ := hq' j rfl
      subst e
      have h := hX.1
      have n4 := hX.n4
      have hj := o1 q b
      have e0 : ¬ (200 : Int32) ≤ nI c := by rw [show (200 : Int32) = nI 200 from rfl, nI_leI (by decide) (by omega)]; omega
      have ns : ¬ (some (so q)).map (fun j => A 3 j) = none := fun z => by cases z
      rw [wp_X6_followChain_L56]
      refine ⟨fun z => absurd z ns, fun _ => ?_⟩
      simp only [fr_2 h, fr_11 h, fj_3 h hj, hi_q h, hj_q h, si_q h, sj_q h, vv_5 h, vs_5 h, vv_7 h, vs_7 h, vv_8 h, vs_8 h, vv_9 h, vs_9 h, vv_11 h, vs_11 h, vv_17 h, vs_17 h, vv_18 h, vs_18 h, vj_3 h, vj_4 h, vj_5 h, ex_some, ex_def, all_def, true_and, and_true, Nat.reduceLT, exists_eq_left, Option.map_some, Option.some.injEq, exists_eq_left', h5, e0, not_false_eq_true, true_implies, not_true_eq_false, false_implies, true_and, and_true, false_and, and_false, forall_const, imp_self, implies_true, if_true, if_false, eq_self, Bool.true_eq_false, Bool.false_eq_true, false_or, or_false, true_or, or_true, nI_clamp (show c < 2 ^ 31 by omega), vin (show c < 200 by omega) (show 200 < 2 ^ 31 by decide), ← nI_succ]
      have X1 : pX A B S nc nw nm nj cw jc bn bl an al E J R0 (up3 I 0 2 5 (nI (c + 1))) (up3 R 0 11 c (some (A 3 (so q)))) := (hX.up rfl).uR rfl
      have P1 := hP I (nI (c + 1)) hp
      refine p_lbh X1 (hPT _ P1) hj (fun b' hb' => ih (c + 1) fu (u1 ch c (so q)) b' _ _ (by omega) (by omega) X1 P1 (up3_same _ _ _ _ _) (fun i hi => ?_) ⟨?_, fun i hi => ?_⟩ (fun j' e' => ?_))
      · by_cases z : i = c
        · rw [z, up3_same, u1_s]; exact ⟨rfl, hj⟩
        · rw [up3_off (by omega), u1_o z]; exact hR i (by omega)
      · rw [if_neg (by omega)]
        have l1 := hl.1
        by_cases z : c = 0
        · rw [if_pos z] at l1; rw [z, u1_s]; exact l1
        · rw [if_neg z] at l1; rw [u1_o (by omega)]; exact l1
      · by_cases z : i = c
        · rw [z, if_pos rfl, u1_s]; exact hb'
        · have l2 := hl.2 i (by omega)
          rw [if_neg (by omega), u1_o z]
          by_cases z2 : i + 1 = c
          · rw [if_pos z2] at l2; rw [z2, u1_s]; exact l2
          · rw [if_neg z2] at l2; rw [u1_o z2]; exact l2
      · subst e'
        obtain ⟨q', hq2, e3⟩ := o3 j' hb'.1
        have ed := hb'.2.1
        rw [← e3] at ed
        obtain ⟨q'', w1, w2⟩ := o4 q' hq2 (so q) hj ed
        have := o2 q'' q (by omega) b w2
        exact ⟨q', by omega, hq2, e3⟩
theorem p_chain {P : FI → Prop} {Q : Hp → Prop} (hP : ∀ I v, P I → P (up3 I 0 2 5 v)) (hP6 : ∀ I v, P I → P (up3 I 0 2 6 v)) (hPT : ∀ I, P I → ∀ j, I 3 j 14 = tc j) (hO : pO E nj so) (hX : pX A B S nc nw nm nj cw jc bn bl an al E J R0 I R) (hp : P I) (hQ : ∀ c ch I' R', pX A B S nc nw nm nj cw jc bn bl an al E J R0 I' R' → P I' → c ≤ nj → I' 0 2 5 = nI c → (∀ i, i < c → R' 0 11 i = some (A 3 (ch i)) ∧ ch i < nj) → lnk E nj (fun j => (tc j).toInt) c ch none → I' 0 2 6 = (if c = 0 then 0 else tc (ch 0)) → Q (hq A B S I' J R')) : wp_X6_followChain (hq A B S I J R) (A 0 2) Q := by
  have h := hX.1
  have n4 := hX.n4
  unfold wp_X6_followChain
  refine p_fc4 hX (hPT I hp) (fun b hb => ?_) nj 0 FU none (by omega) (by unfold FU; omega) (fun k _ z => by omega)
  have go : ∀ v : Int32, ((b = none ∧ v = 0) ∨ ∃ b', b = some b' ∧ v = tc b') → wp_X6_followChain_L56 (A 0 2) Q FU (sI (sI (hq A B S I J R) (A 0 2) 6 v) (A 0 2) 5 0) (b.map (fun j => A 3 j)) := fun v hv => by
    rw [si_q h (by decide), si_q h (by decide)]
    have key := p_ch56 (A := A) (B := B) (S := S) (nc := nc) (nw := nw) (nm := nm) (nj := nj) (cw := cw) (jc := jc) (J := J) (E := E) (R0 := R0) (bn := bn) (an := an) (bl := bl) (al := al) (so := so) (tc := tc) (P := fun I => P I ∧ I 0 2 6 = v) (Q := Q) (fun I w z => ⟨hP I w z.1, z.2⟩) (fun I z => hPT I z.1) hO (fun c ch I' R' X' p' c' h5 hR hl => hQ c ch I' R' X' p'.1 c' h5 hR hl ?_) nj 0 FU (fun _ => 0) b (up3 (up3 I 0 2 6 v) 0 2 5 0) R (by omega) (by unfold FU; omega) ((hX.up rfl).up rfl) ⟨hP _ _ (hP6 _ _ hp), up3_same (f := I) 0 2 6 v⟩ (up3_same _ _ _ _ _) (fun i hi => by omega) ⟨by rw [if_pos rfl]; exact hb, fun i hi => by omega⟩ (fun j e => ?_)
    · exact key
    · have e := pBst_u hb hl.1
      rw [p'.2]
      by_cases z : c = 0
      · rw [if_pos z] at e ⊢
        rcases hv with ⟨_, w⟩ | ⟨b', w, _⟩
        · exact w
        · rw [e] at w; cases w
      · rw [if_neg z] at e ⊢
        rcases hv with ⟨w, _⟩ | ⟨b', w, w2⟩
        · rw [e] at w; cases w
        · rw [e] at w; cases w; exact w2
    · rw [e] at hb
      obtain ⟨q, hq, e2⟩ := hO.2.2.1 j hb.1
      exact ⟨q, Nat.zero_le _, hq, e2⟩
  refine ⟨_, rfl, fun z => ⟨A 0 2, rfl, (fr_2 h _ _ _).1, ?_, ?_⟩, fun z => ?_⟩
  · rw [si_q h (by decide)]; exact (fr_2 h _ _ _).1
  · cases b with
    | none => exact go 0 (Or.inl ⟨rfl, rfl⟩)
    | some b => cases z
  · cases b with
    | none => exact absurd rfl z
    | some b =>
      refine ⟨A 3 b, rfl, (fj_3 h hb.1 _ _ _).1, A 0 2, rfl, (fr_2 h _ _ _).1, ?_, ?_⟩
      · rw [si_q h (by decide)]; exact (fr_2 h _ _ _).1
      · rw [hi_q h (by decide), hPT I hp b]; exact go _ (Or.inr ⟨b, rfl, rfl⟩)
end PC
section PR
variable {A : Nat → Nat → Nat} {B : Nat → Nat × Nat} {S : Hp} {nc nw nm nj : Nat} {cw jc : Nat → Nat} {I : FI} {J : FJ} {R : FR} {xs : Nat → Int32} {L : Nat} {l4 : Int32}
variable {Q : Hp → Prop}
theorem p_reckon (hv : iv A B S nc nw nm nj cw jc I J R) (hQ : ∀ I' R', Ag (fun c i p => !paI c i p) I I' → iv A B S nc nw nm nj cw jc I' J R' → I' 0 2 7 = 1 → Q (hq A B S I' J R')) : wp_X6_reckon (hq A B S I J R) (A 0 2) Q := by
  have h := hv.1
  obtain ⟨hE, bn, bl, an, al, y1, y2, y3, y4, y5⟩ := hv.2.1.2.2.2.2.2.1
  have hX : pX A B S nc nw nm nj cw jc bn bl an al I J R I R := ⟨h, hv.2.1, y1, y2, y3, y4, y5, Ag.rf, Ag.rf⟩
  unfold wp_X6_reckon
  simp only [fr_2 h, hi_q h, hj_q h, si_q h, sj_q h, vv_5 h, vs_5 h, vv_7 h, vs_7 h, vv_8 h, vs_8 h, vv_9 h, vs_9 h, vv_11 h, vs_11 h, vv_17 h, vs_17 h, vv_18 h, vs_18 h, vj_3 h, vj_4 h, vj_5 h, ex_some, ex_def, all_def, true_and, and_true, Nat.reduceLT]
  refine ⟨fun _ => p_sort hX (fun so I1 R1 X1 hO c3 r9 => ?_), fun z => hQ I R Ag.rf hv ?_⟩
  · simp only [fr_2 h, hi_q h, hj_q h, si_q h, sj_q h, vv_5 h, vs_5 h, vv_7 h, vs_7 h, vv_8 h, vs_8 h, vv_9 h, vs_9 h, vv_11 h, vs_11 h, vv_17 h, vs_17 h, vv_18 h, vs_18 h, vj_3 h, vj_4 h, vj_5 h, ex_some, ex_def, all_def, true_and, and_true, Nat.reduceLT]
    refine p_heads X1 c3 hO r9 (fun I2 X2 c32 hd => ?_)
    simp only [fr_2 h, hi_q h, hj_q h, si_q h, sj_q h, vv_5 h, vs_5 h, vv_7 h, vs_7 h, vv_8 h, vs_8 h, vv_9 h, vs_9 h, vv_11 h, vs_11 h, vv_17 h, vs_17 h, vv_18 h, vs_18 h, vj_3 h, vj_4 h, vj_5 h, ex_some, ex_def, all_def, true_and, and_true, Nat.reduceLT]
    refine p_tails (P := fun X => ∀ k, X 3 k 13 = I2 3 k 13) (fun X j v z k => by rw [up3_off (by omega)]; exact z k) X2 (fun _ => rfl) c32 hO r9 (fun I3 X3 p3 tl => ?_)
    simp only [fr_2 h, hi_q h, hj_q h, si_q h, sj_q h, vv_5 h, vs_5 h, vv_7 h, vs_7 h, vv_8 h, vs_8 h, vv_9 h, vs_9 h, vv_11 h, vs_11 h, vv_17 h, vs_17 h, vv_18 h, vs_18 h, vj_3 h, vj_4 h, vj_5 h, ex_some, ex_def, all_def, true_and, and_true, Nat.reduceLT]
    refine p_chain (tc := fun j => I3 3 j 14) (P := fun X => (∀ j, X 3 j 14 = I3 3 j 14) ∧ ∀ j, X 3 j 13 = I3 3 j 13) (fun X v z => z) (fun X v z => z) (fun X z => z.1) hO X3 ⟨fun _ => rfl, fun _ => rfl⟩ (fun c ch I4 R4 X4 p4 c4 h5 hR hl h6 => ?_)
    simp only [fr_2 h, hi_q h, hj_q h, si_q h, sj_q h, vv_5 h, vs_5 h, vv_7 h, vs_7 h, vv_8 h, vs_8 h, vv_9 h, vs_9 h, vv_11 h, vs_11 h, vv_17 h, vs_17 h, vv_18 h, vs_18 h, vj_3 h, vj_4 h, vj_5 h, ex_some, ex_def, all_def, true_and, and_true, Nat.reduceLT]
    have X5 : pX A B S nc nw nm nj cw jc bn bl an al I J R (up3 I4 0 2 7 1) R4 := X4.up rfl
    have e8 : ∀ j, up3 I4 0 2 7 1 1 8 j = I 1 8 j := fun j => X5.i rfl
    have e10 : ∀ j, up3 I4 0 2 7 1 1 10 j = I 1 10 j := fun j => X5.i rfl
    have e14 : ∀ j, up3 I4 0 2 7 1 3 j 14 = I3 3 j 14 := p4.1
    have e13 : ∀ j, up3 I4 0 2 7 1 3 j 13 = I3 3 j 13 := p4.2
    refine hQ _ R4 X5.2.2.2.2.2.2.2.1 ⟨h, X5.st, vRn_c (X5.2.2.2.2.2.2.2.1.mo (fun c i p e => ?_)) Ag.rf hv.2.2.1, Or.inr ⟨up3_same _ _ _ _ _, ?_, ?_, c, ch, by have := hX.n4; omega, h5, hR, ?_, fun i hi => ?_, ?_⟩⟩ (up3_same _ _ _ _ _)
    · simp only [paI, gRn, Bool.and_eq_true, Bool.or_eq_true, beq_iff_eq, Bool.not_eq_true', Bool.or_eq_false_iff, Bool.and_eq_false_iff, beq_eq_false_iff_ne, ne_eq] at e ⊢
      omega
    · simp only [e8, e10, e14]; exact tl
    · simp only [e8, e10, e13, p3]; exact hd
    · simp only [e14]; exact hl.1
    · simp only [e14, e10]; exact hl.2 i hi
    · simp only [e14]; exact h6
  · rcases hv.2.2.2 with w | w
    · exact absurd w z
    · exact w.1
end PR
