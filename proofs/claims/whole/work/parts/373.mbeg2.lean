section MB2
variable {A : Nat → Nat → Nat} {B : Nat → Nat × Nat} {S : Hp} {nc nw nm nj : Nat} {cw jc : Nat → Nat} {I : FI} {J : FJ} {R : FR} {xs : Nat → Int32} {L : Nat} {l4 : Int32}
variable {E K : FI} {L' : FJ} {od : Nat → Nat} {s : Rs} {j : Nat} {K2 Q : Hp → Prop}
theorem p_b266 {P : FI → Prop} (hP : ∀ I I' : FI, (∀ c i p, ¬ (c = 0 ∧ i = 23 ∧ p = 25) → ¬ (c = 1 ∧ (i = 36 ∨ i = 37 ∨ i = 38)) → I' c i p = I c i p) → P I → P I') (h5 : ∀ I, P I → ∀ k, k < nj → (I 1 26 k = 5 ↔ hpl E nj cw jc k)) (h24 : ∀ I, P I → I 0 23 24 = nI 0) (hQ : ∀ I', mx A B S nc nw nm nj cw jc od E K L' I' J R → P I' → rEv nj (s0 E nj cw jc) I' → Q (hq A B S I' J R)) : ∀ (r i fu : Nat) (I : FI), i + r = nj → r < fu → mx A B S nc nw nm nj cw jc od E K L' I J R → P I → rEv nj (par s00 (fun k => decide (k < i ∧ hpl E nj cw jc k)) (fun _ => 5)) I → wp_X12_begins_L266 (A 0 23) Q fu (hq A B S I J R) (nI i) := by
  intro r
  induction r with
  | zero =>
    intro i fu I hi hf hm hp he
    obtain ⟨fu, rfl⟩ : ∃ z, fu = z + 1 := ⟨fu - 1, by omega⟩
    have h := hm.1
    have : i = nj := by omega
    subst this
    rw [wp_X12_begins_L266]
    refine ⟨fr_23 h _ _ _, fun _ => hQ I hm hp he, fun z => absurd ?_ z⟩
    rw [hi_q h (by decide), hm.cn.2.2.2]; exact Int32.le_refl _
  | succ r ih =>
    intro i fu I hi hf hm hp he
    obtain ⟨fu, rfl⟩ : ∃ z, fu = z + 1 := ⟨fu - 1, by omega⟩
    have h := hm.1
    have n4 := hm.n.2.2.2
    have hin : i < nj := by omega
    have e0 : ¬ nI nj ≤ nI i := by rw [nI_leI (by omega) (by omega)]; omega
    have os : oS (par s00 (fun k => decide (k < i ∧ hpl E nj cw jc k)) (fun _ => 5)) i = 0 := by
      rw [par_s, if_neg (fun z => by have := of_decide_eq_true z; omega)]; rfl
    have o6 : ∀ k, k < nj → oS (par s00 (fun k => decide (k < i ∧ hpl E nj cw jc k)) (fun _ => 5)) k ≤ 6 := fun k _ => by
      rw [par_s]
      split
      · decide
      · exact Nat.zero_le _
    rw [wp_X12_begins_L266]
    simp only [fr_23 h, fm_26 h, hi_q h, hj_q h, si_q h, sj_q h, vv_5 h, vs_5 h, vv_7 h, vs_7 h, vv_8 h, vs_8 h, vv_9 h, vs_9 h, vv_11 h, vs_11 h, vv_17 h, vs_17 h, vv_18 h, vs_18 h, vj_3 h, vj_4 h, vj_5 h, ex_some, ex_def, all_def, true_and, and_true, Nat.reduceLT, hm.cn.2.2.2, e0, not_false_eq_true, true_implies, not_true_eq_false, false_implies, true_and, and_true, false_and, and_false, forall_const, imp_self, implies_true, if_true, if_false, eq_self, Bool.true_eq_false, Bool.false_eq_true, false_or, or_false, true_or, or_true, nI_clamp (show i < 2 ^ 31 by omega), vin (show i < 200 by omega) (show 200 < 2 ^ 31 by decide), h5 I hp i hin, ← nI_succ]
    refine ⟨fun z => ?_, fun z => ?_⟩
    · have e : par s00 (fun k => decide (k < i + 1 ∧ hpl E nj cw jc k)) (fun _ => 5) = mv (par s00 (fun k => decide (k < i ∧ hpl E nj cw jc k)) (fun _ => 5)) i 5 := par_mv (v := fun _ => 5) (fun k => by
        rw [← Bool.decide_or, decide_eq_decide]
        constructor
        · rintro ⟨a, b⟩
          by_cases q : k = i
          · exact Or.inr q
          · exact Or.inl ⟨by omega, b⟩
        · rintro (⟨a, b⟩ | a)
          · exact ⟨by omega, b⟩
          · rw [a]; exact ⟨by omega, z⟩)
      refine p_telm (k := 6) (m := 0) (s' := mv (par s00 (fun k => decide (k < i ∧ hpl E nj cw jc k)) (fun _ => 5)) i 5) hm he (h24 I hp) hin (by rw [os]; decide) (by decide) (by decide) (ev_new n4 o6 hin (Or.inl os) (by decide) (by omega)) (evs_mv (x := 5) hin (b := 1) (by rw [os]; rfl)) (fun z => ev_mv (x := 5) hin (Or.inl os) (by rw [os]; rfl) (by decide) z) (fun I' m' f' e' => ih (i + 1) fu I' (by omega) (by omega) m' (hP _ _ f' hp) (by rw [e]; exact e'))
    · have e : par s00 (fun k => decide (k < i + 1 ∧ hpl E nj cw jc k)) (fun _ => 5) = par s00 (fun k => decide (k < i ∧ hpl E nj cw jc k)) (fun _ => 5) := par_cg (fun k => by
        rw [decide_eq_decide]
        constructor
        · rintro ⟨a, b⟩
          have : k ≠ i := fun q => z (by rw [← q]; exact b)
          exact ⟨by omega, b⟩
        · rintro ⟨a, b⟩; exact ⟨by omega, b⟩)
      exact ih (i + 1) fu I (by omega) (by omega) hm hp (by rw [e]; exact he)
theorem s0_c (k : Nat) : oS (s0 E nj cw jc) k = 0 ∨ oS (s0 E nj cw jc) k = 5 := by
  rw [s0, par_s]
  split
  · exact Or.inr rfl
  · exact Or.inl rfl
theorem lft_s0 (x : Nat) : lft E nj (s0 E nj cw jc) x = (E 1 6 x).toInt64 := by
  unfold lft
  rw [sumJ_0 (fun i => ?_)]
  · grind
  · unfold dlt
    rcases s0_c (E := E) (nj := nj) (cw := cw) (jc := jc) i with q | q <;> rw [q] <;> rfl
theorem p_begm (hm : mx A B S nc nw nm nj cw jc od E K L' I J R) (hQ : ∀ I' J', mx A B S nc nw nm nj cw jc od E K L' I' J' R → rR E nj (s0 E nj cw jc) I' J' → Q (hq A B S I' J' R)) : wp_X12_begins (hq A B S I J R) (A 0 23) Q := by
  have h := hm.1
  have n4 := hm.n.2.2.2
  unfold wp_X12_begins
  refine ⟨fr_23 h _ _ _, ?_⟩
  rw [si_q h (by decide), si_q h (by decide), si_q h (by decide)]
  have m0 : mx A B S nc nw nm nj cw jc od E K L' (up3 (up3 (up3 I 0 23 25 0) 0 23 24 0) 0 23 39 0) J R := ((hm.up rfl).up rfl).up rfl
  refine p_b17 (P := fun I => I 0 23 25 = 0 ∧ I 0 23 24 = 0 ∧ I 0 23 39 = 0) (fun I p v z => z) (fun I1 m1 p1 a1 => ?_) 32 0 FU _ (by omega) (by unfold FU; omega) m0 ⟨rfl, rfl, rfl⟩ (fun w hw => by omega)
  refine p_b38 (P := fun I => (I 0 23 25 = 0 ∧ I 0 23 24 = 0 ∧ I 0 23 39 = 0) ∧ ∀ w, w < 32 → I 1 32 w = -1) (fun I p v w z => z) (fun I2 m2 p2 a2 => ?_) 40 0 FU _ (by omega) (by unfold FU; omega) m1 ⟨p1, a1⟩ (fun w hw => by omega)
  refine p_b66 (fun J' m3 a3 => ?_) 60 0 FU J (by omega) (by unfold FU; omega) m2 (fun w hw => by omega)
  refine p_b93 (P := fun I => ((I 0 23 25 = 0 ∧ I 0 23 24 = 0 ∧ I 0 23 39 = 0) ∧ ∀ w, w < 32 → I 1 32 w = -1) ∧ ∀ m, m < 40 → I 1 33 m = -1 ∧ I 1 34 m = -1) (fun I p v1 v2 v3 v4 v5 v6 z => z) (fun I4 m4 p4 a4 => ?_) nj 0 FU _ (by omega) (by unfold FU; omega) m3 ⟨p2, a2⟩ (fun w hw => by omega)
  refine p_b151 (P := fun I => (((I 0 23 25 = 0 ∧ I 0 23 24 = 0 ∧ I 0 23 39 = 0) ∧ ∀ w, w < 32 → I 1 32 w = -1) ∧ ∀ m, m < 40 → I 1 33 m = -1 ∧ I 1 34 m = -1) ∧ ∀ k, k < nj → I 1 26 k = 0 ∧ tr6 I k) (fun I p v z => z) (fun I5 m5 p5 a5 => ?_) nj 0 FU _ (by omega) (by unfold FU; omega) m4 ⟨p4, a4⟩ (fun w hw => by omega)
  refine p_b178 (P := fun I => (((I 0 23 25 = 0 ∧ I 0 23 24 = 0 ∧ I 0 23 39 = 0) ∧ ∀ w, w < 32 → I 1 32 w = -1) ∧ ∀ m, m < 40 → I 1 33 m = -1 ∧ I 1 34 m = -1) ∧ (∀ k, k < nj → tr6 I k) ∧ ∀ k, k < nj → (I 1 44 k = 0 ↔ ¬ hop E nj cw jc k)) (fun I p v z => z) (fun I z => z.2.2) (fun I6 m6 p6 a6 => ?_) nj 0 FU _ (by omega) (by unfold FU; omega) m5 ⟨p5.1, fun k hk => (p5.2 k hk).2, a5⟩ (fun k hk => ⟨fun z => by omega, fun _ => (p5.2 k hk).1⟩)
  obtain ⟨⟨⟨⟨q25, q24, q39⟩, q32⟩, q33⟩, q6, -⟩ := p6
  have n6 : ∀ k, oS (s0 E nj cw jc) k ≠ 6 := fun k => by rcases s0_c (E := E) (nj := nj) (cw := cw) (jc := jc) k with q | q <;> omega
  have nb : ∀ k, ¬ bgn (oS (s0 E nj cw jc) k) = true := fun k => by rcases s0_c (E := E) (nj := nj) (cw := cw) (jc := jc) k with q | q <;> rw [q] <;> decide
  have ne : ∀ k, ¬ edd (oS (s0 E nj cw jc) k) = true := fun k => by rcases s0_c (E := E) (nj := nj) (cw := cw) (jc := jc) k with q | q <;> rw [q] <;> decide
  have n4' : ∀ k, oS (s0 E nj cw jc) k ≠ 4 := fun k => by rcases s0_c (E := E) (nj := nj) (cw := cw) (jc := jc) k with q | q <;> omega
  have n2 : ∀ k, oS (s0 E nj cw jc) k ≠ 2 := fun k => by rcases s0_c (E := E) (nj := nj) (cw := cw) (jc := jc) k with q | q <;> omega
  have tr : rTr E nj (s0 E nj cw jc) I6 := fun k hk => by
    obtain ⟨t1, t2, t3, t4, t5⟩ := q6 k hk
    have b0 : bgI (s0 E nj cw jc) k = -1 := by unfold bgI; rw [if_neg (nb k)]
    have m0 : emI (s0 E nj cw jc) k = -1 := by unfold emI; rw [if_neg (ne k)]
    have k0 : wkI (s0 E nj cw jc) k = -1 := by unfold wkI; rw [if_neg (nb k)]
    have o0 : noI E (s0 E nj cw jc) k = 0 := by unfold noI; rw [if_neg (n4' k)]
    have g0 : fkI E (s0 E nj cw jc) k = 0 := by unfold fkI; rw [if_neg (n2 k)]
    rw [b0, m0, k0, o0, g0]
    refine ⟨?_, t1, t2, t3, t4, t5⟩
    rw [s0, par_s]
    by_cases z : hpl E nj cw jc k
    · rw [if_pos (decide_eq_true ⟨hk, z⟩)]; exact (a6 k hk).1 hk z
    · rw [if_neg (fun w => z (of_decide_eq_true w).2)]; exact (a6 k hk).2 (fun w => z w.2)
  have e00 : par s00 (fun k => decide (k < 0 ∧ hpl E nj cw jc k)) (fun _ => 5) = s00 := par_0 (fun k => decide_eq_false (fun z => by omega))
  have es : sumN nj (fun j => evn (oS s00 j)) = 0 := by
    have : ∀ n, sumN n (fun j => evn (oS s00 j)) = 0 := by
      intro n
      induction n with
      | zero => rfl
      | succ n ih => rw [sumN, ih]; rfl
    exact this nj
  refine p_b266 (P := fun I => rTr E nj (s0 E nj cw jc) I ∧ rAw nj (s0 E nj cw jc) I ∧ rAm E nj (s0 E nj cw jc) I ∧ rHd (s0 E nj cw jc) I ∧ rMi (s0 E nj cw jc) I) (fun I I' e z => ?_) (fun I z k hk => ?_) (fun I z => z.2.2.2.2.1) (fun I' m' p' e' => hQ I' J' m' ⟨p'.1, p'.2.1, p'.2.2.1, p'.2.2.2.1, fun x hx => (a3 x hx).trans (lft_s0 x).symm, e', p'.2.2.2.2⟩) nj 0 FU _ (by omega) (by unfold FU; omega) m6 ⟨tr, fun w hw => Or.inl ⟨q32 w hw, fre_t.mpr (fun k _ z => absurd z (n6 k))⟩, fun m hm => ⟨fun _ ⟨k, _, z, _⟩ => n6 k z, fun _ => (q33 m hm).1⟩, fun m hm => (q33 m hm).2, q24, q39⟩ ?_
  · obtain ⟨z1, z2, z3, z4, z5, z6⟩ := z
    refine ⟨fun k hk => ?_, fun w hw => ?_, fun m hm => ?_, fun m hm => ?_, ?_, ?_⟩
    · rw [e 1 26 k (by omega) (by omega), e 1 27 k (by omega) (by omega), e 1 28 k (by omega) (by omega), e 1 29 k (by omega) (by omega), e 1 30 k (by omega) (by omega), e 1 31 k (by omega) (by omega)]; exact z1 k hk
    · rw [e 1 32 w (by omega) (by omega)]; exact z2 w hw
    · rw [e 1 33 m (by omega) (by omega)]; exact z3 m hm
    · rw [e 1 34 m (by omega) (by omega)]; exact z4 m hm
    · rw [e 0 23 24 (by omega) (by omega)]; exact z5
    · rw [e 0 23 39 (by omega) (by omega)]; exact z6
  · rw [(z.1 k hk).1, s0, par_s]
    by_cases w : hpl E nj cw jc k
    · rw [if_pos (decide_eq_true ⟨hk, w⟩)]; exact ⟨fun _ => w, fun _ => rfl⟩
    · rw [if_neg (fun q => w (of_decide_eq_true q).2)]; exact ⟨fun q => absurd q (by show ¬ nI 0 = 5; decide), fun q => absurd q w⟩
  · rw [e00]
    refine ⟨fun _ => 0, ?_, fun i hi => ?_, fun i i' hi => ?_, fun z => ?_⟩
    · rw [es]; exact q25
    · rw [es] at hi; omega
    · rw [es] at hi; omega
    · rw [es]
      exact ⟨fun ⟨i, hi, _⟩ => absurd hi (by omega), fun ⟨k, _, z⟩ => z.elim (fun w => absurd w.1 (z0b k)) (fun w => absurd rfl w.1.1)⟩
end MB2
