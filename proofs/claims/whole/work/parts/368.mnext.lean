section MN
variable {A : Nat → Nat → Nat} {B : Nat → Nat × Nat} {S : Hp} {nc nw nm nj : Nat} {cw jc : Nat → Nat} {I : FI} {J : FJ} {R : FR} {xs : Nat → Int32} {L : Nat} {l4 : Int32}
variable {E K : FI} {L' : FJ} {od : Nat → Nat} {s : Rs} {j x d : Nat} {Q : Int32 → Hp → Prop}
/-- job k may be asked: of craft c, not yet asked, ready -/
def okN (E : FI) (nj : Nat) (jc : Nat → Nat) (s : Rs) (I : FI) (c k : Nat) : Prop := jc k = c ∧ I 1 45 k = 0 ∧ rdy E nj s k
/-- b is asked first -/
def frs (E : FI) (b k : Nat) : Prop := E 1 9 b < E 1 9 k ∨ E 1 9 b = E 1 9 k ∧ b ≤ k
theorem p_nrm {c : Nat} (hm : mx A B S nc nw nm nj cw jc od E K L' I J R) (hw : wf E nj nw cw jc s) (hr : rTr E nj s I) (hc : c < nc) (hQ1 : ∀ b, b < nj → okN E nj jc s I c b → (∀ k, k < nj → okN E nj jc s I c k → frs E b k) → Q (nI b) (hq A B S I J R)) (hQ0 : (∀ k, k < nj → ¬ okN E nj jc s I c k) → Q (-1) (hq A B S I J R)) : wp_X12_nextReady (hq A B S I J R) (A 0 23) (nI c) Q := by
  have h := hm.1
  have n4 := hm.n.2.2.2
  have n1 := hm.n.1
  unfold wp_X12_nextReady
  have key : ∀ (r i fu : Nat) (b : Int32), i + r = nj → r < fu → ((b = -1 ∧ ∀ k, k < i → ¬ okN E nj jc s I c k) ∨ ∃ b', b = nI b' ∧ b' < i ∧ okN E nj jc s I c b' ∧ ∀ k, k < i → okN E nj jc s I c k → frs E b' k) → wp_X12_nextReady_L4 (A 0 23) (nI c) Q fu (hq A B S I J R) b (nI i) := by
    intro r
    induction r with
    | zero =>
      intro i fu b hi hf hb
      obtain ⟨fu, rfl⟩ : ∃ z, fu = z + 1 := ⟨fu - 1, by omega⟩
      have : i = nj := by omega
      subst this
      rw [wp_X12_nextReady_L4]
      simp only [fr_23 h, hi_q h, hj_q h, si_q h, sj_q h, vv_5 h, vs_5 h, vv_7 h, vs_7 h, vv_8 h, vs_8 h, vv_9 h, vs_9 h, vv_11 h, vs_11 h, vv_17 h, vs_17 h, vv_18 h, vs_18 h, vj_3 h, vj_4 h, vj_5 h, ex_some, ex_def, all_def, true_and, and_true, Nat.reduceLT, hm.cn.2.2.2]
      refine ⟨fun _ => ?_, fun z => absurd (Int32.le_refl _) z⟩
      rcases hb with ⟨rfl, hb⟩ | ⟨b', rfl, h1, h2, h3⟩
      · exact hQ0 hb
      · exact hQ1 b' h1 h2 h3
    | succ r ih =>
      intro i fu b hi hf hb
      obtain ⟨fu, rfl⟩ : ∃ z, fu = z + 1 := ⟨fu - 1, by omega⟩
      have hj : i < nj := by omega
      have e0 : ¬ nI nj ≤ nI i := by rw [nI_leI (by omega) (by omega)]; omega
      obtain ⟨e7, hjc⟩ := hm.jce hj
      have ec : nI (jc i) = nI c ↔ jc i = c := nI_eq (by omega) (by omega)
      have skip : ¬ okN E nj jc s I c i → wp_X12_nextReady_L4 (A 0 23) (nI c) Q fu (hq A B S I J R) b (nI (i + 1)) := fun z => ih (i + 1) fu b (by omega) (by omega) (hb.imp (fun ⟨a, q⟩ => ⟨a, fun k hk => by
        by_cases e : k = i
        · rw [e]; exact z
        · exact q k (by omega)⟩) (fun ⟨b', a1, a2, a3, a4⟩ => ⟨b', a1, by omega, a3, fun k hk ok => by
        by_cases e : k = i
        · rw [e] at ok; exact absurd ok z
        · exact a4 k (by omega) ok⟩))
      rw [wp_X12_nextReady_L4]
      simp only [fr_23 h, fm_7 h, fm_45 h, hi_q h, hj_q h, si_q h, sj_q h, vv_5 h, vs_5 h, vv_7 h, vs_7 h, vv_8 h, vs_8 h, vv_9 h, vs_9 h, vv_11 h, vs_11 h, vv_17 h, vs_17 h, vv_18 h, vs_18 h, vj_3 h, vj_4 h, vj_5 h, ex_some, ex_def, all_def, true_and, and_true, Nat.reduceLT, exists_eq_left, Option.some.injEq, exists_eq_left', hm.cn.2.2.2, e0, not_false_eq_true, true_implies, not_true_eq_false, false_implies, true_and, and_true, false_and, and_false, forall_const, imp_self, implies_true, if_true, if_false, eq_self, Bool.true_eq_false, Bool.false_eq_true, false_or, or_false, true_or, or_true, nI_clamp (show i < 2 ^ 31 by omega), vin (show i < 200 by omega) (show 200 < 2 ^ 31 by decide), hm.e (show 7 < 26 by decide), e7, ec, ← nI_succ]
      refine ⟨fun z1 => ⟨fun z2 => ?_, fun z2 => skip (fun w => z2 w.2.1)⟩, fun z1 => skip (fun w => z1 w.1)⟩
      refine p_rdym hm hw hr hj (fun z3 => ⟨fun q => absurd q (by decide), fun _ => ?_⟩) (fun z3 => ⟨fun _ => skip (fun w => z3 w.2.2), fun q => absurd rfl q⟩)
      have oki : okN E nj jc s I c i := ⟨z1, z2, z3⟩
      rcases hb with ⟨rfl, hb⟩ | ⟨b', rfl, h1, h2, h3⟩
      · refine ⟨fun _ => ih (i + 1) fu (nI i) (by omega) (by omega) (Or.inr ⟨i, rfl, by omega, oki, fun k hk ok => ?_⟩), fun q => absurd rfl q⟩
        by_cases e : k = i
        · rw [e]; exact Or.inr ⟨rfl, Nat.le_refl _⟩
        · exact absurd ok (hb k (by omega))
      · refine ⟨fun q => absurd q (nI_nm1 (by omega)), fun _ => ?_⟩
        simp only [fr_23 h, fm_9 h, hi_q h, hj_q h, si_q h, sj_q h, vv_5 h, vs_5 h, vv_7 h, vs_7 h, vv_8 h, vs_8 h, vv_9 h, vs_9 h, vv_11 h, vs_11 h, vv_17 h, vs_17 h, vv_18 h, vs_18 h, vj_3 h, vj_4 h, vj_5 h, ex_some, ex_def, all_def, true_and, and_true, Nat.reduceLT, exists_eq_left, Option.some.injEq, exists_eq_left', nI_clamp (show i < 2 ^ 31 by omega), vin (show i < 200 by omega) (show 200 < 2 ^ 31 by decide), nI_clamp (show b' < 2 ^ 31 by omega), vin (show b' < 200 by omega) (show 200 < 2 ^ 31 by decide), hm.e (show 9 < 26 by decide)]
        refine ⟨fun q => ih (i + 1) fu (nI b') (by omega) (by omega) (Or.inr ⟨b', rfl, by omega, h2, fun k hk ok => ?_⟩), fun q => ih (i + 1) fu (nI i) (by omega) (by omega) (Or.inr ⟨i, rfl, by omega, oki, fun k hk ok => ?_⟩)⟩
        · by_cases e : k = i
          · rw [e]
            unfold frs
            by_cases e2 : E 1 9 b' = E 1 9 i
            · exact Or.inr ⟨e2, by omega⟩
            · left
              rw [Int32.lt_iff_toInt_lt]
              rw [Int32.le_iff_toInt_le] at q
              have : (E 1 9 b').toInt ≠ (E 1 9 i).toInt := fun w => e2 (Int32.toInt_inj.mp w)
              omega
          · exact h3 k (by omega) ok
        · by_cases e : k = i
          · rw [e]; exact Or.inr ⟨rfl, Nat.le_refl _⟩
          · have q' := i_nle.mp q
            left
            rcases h3 k (by omega) ok with w | ⟨w, -⟩
            · rw [Int32.lt_iff_toInt_lt] at *; omega
            · rw [← w]; exact q'
  exact key nj 0 FU (-1) (by omega) (by unfold FU; omega) (Or.inl ⟨rfl, fun k hk => by omega⟩)
/-- readiness, of those not yet come to, stays -/
theorem bgR_rdy : ∀ {n : Nat} {s t : Rs} {k : Nat}, bgR E nj cw jc od n s t → (rdy E nj t k → rdy E nj s k) ∧ ((∀ p, p < n → od p ≠ k) → rdy E nj s k → rdy E nj t k) := by
  intro n
  induction n with
  | zero => intro s t k h; rw [show t = s from h]; exact ⟨id, fun _ => id⟩
  | succ n ih =>
    intro s t k h
    obtain ⟨a, a1, a2⟩ := h
    obtain ⟨i1, i2⟩ := ih (k := k) a1
    rcases a2 with ⟨w, p1, p2, p3⟩ | ⟨p1, p2⟩
    · subst p3
      have o1 : ∀ m, oS (beg E a (od n) w) m = 1 ↔ oS a m = 1 := fun m => by
        by_cases e : m = od n
        · rw [e, bg_s, p1.1.1]; omega
        · rw [bg_o e]
      refine ⟨fun q => i1 ⟨?_, fun m hm e => (o1 m).mp (q.2 m hm e)⟩, fun hk q => ?_⟩
      · have := q.1
        by_cases e : k = od n
        · rw [e, bg_s] at this; omega
        · rw [bg_o e] at this; exact this
      · have q' := i2 (fun p hp => hk p (by omega)) q
        exact ⟨by rw [bg_o (fun z => hk n (by omega) z.symm)]; exact q'.1, fun m hm e => (o1 m).mpr (q'.2 m hm e)⟩
    · subst p2
      exact ⟨i1, fun hk => i2 (fun p hp => hk p (by omega))⟩
end MN
