/-- those that can begin, in the order od, up to place n -/
def bgR (E : FI) (nj : Nat) (cw jc od : Nat → Nat) : Nat → Rs → Rs → Prop
  | 0, s, t => t = s
  | n + 1, s, t => ∃ s', bgR E nj cw jc od n s s' ∧ ((∃ w, can E nj cw jc s' (od n) ∧ lfw nj cw s' (jc (od n)) w ∧ t = beg E s' (od n) w) ∨ (¬ can E nj cw jc s' (od n) ∧ t = s'))
def wW (E : FI) (nj nw : Nat) (cw jc : Nat → Nat) (s : Rs) : Prop := wf E nj nw cw jc s ∧ wg E nj s ∧ nng E nj s
section BR
variable {E : FI} {nj nw : Nat} {cw jc od : Nat → Nat} {s t : Rs}
theorem lfw_u {c w w' : Nat} (h : lfw nj cw s c w) (h' : lfw nj cw s c w') : w = w' := by
  obtain ⟨i, a1, a2, a3, a4⟩ := h
  obtain ⟨i', b1, b2, b3, b4⟩ := h'
  rcases Nat.lt_trichotomy i i' with q | q | q
  · have := b4 i q; rw [← a2, a3] at this; cases this
  · omega
  · have := a4 i' q; rw [← b2, b3] at this; cases this
theorem bgR_det : ∀ {n : Nat} {s t t' : Rs}, bgR E nj cw jc od n s t → bgR E nj cw jc od n s t' → t = t' := by
  intro n
  induction n with
  | zero => intro s t t' h h'; exact Eq.trans h h'.symm
  | succ n ih =>
    intro s t t' h h'
    obtain ⟨a, a1, a2⟩ := h
    obtain ⟨b, b1, b2⟩ := h'
    have e := ih a1 b1
    subst e
    rcases a2 with ⟨w, p1, p2, p3⟩ | ⟨p1, p2⟩
    · rcases b2 with ⟨w', q1, q2, q3⟩ | ⟨q1, q2⟩
      · rw [p3, q3, lfw_u p2 q2]
      · exact absurd p1 q1
    · rcases b2 with ⟨w', q1, q2, q3⟩ | ⟨q1, q2⟩
      · exact absurd q1 p1
      · rw [p2, q2]
theorem bgR_st : ∀ {n : Nat} {s t : Rs} {k : Nat}, bgR E nj cw jc od n s t → (∀ p, p < n → od p ≠ k) → oS t k = oS s k := by
  intro n
  induction n with
  | zero => intro s t k h _; rw [show t = s from h]
  | succ n ih =>
    intro s t k h hk
    obtain ⟨a, a1, a2⟩ := h
    have e := ih a1 (fun p hp => hk p (by omega))
    rcases a2 with ⟨w, p1, p2, p3⟩ | ⟨p1, p2⟩
    · rw [p3, bg_o (fun z => hk n (by omega) z.symm)]; exact e
    · rw [p2]; exact e
theorem bgR_m : ∀ {n : Nat} {s t : Rs}, bgR E nj cw jc od n s t → oM t = oM s := by
  intro n
  induction n with
  | zero => intro s t h; rw [show t = s from h]
  | succ n ih =>
    intro s t h
    obtain ⟨a, a1, a2⟩ := h
    rcases a2 with ⟨w, p1, p2, p3⟩ | ⟨p1, p2⟩
    · rw [p3]; show oM a = oM s; exact ih a1
    · rw [p2]; exact ih a1
theorem bgR_skip (hi : ∀ a b, a < nj → b < nj → od a = od b → a = b) {u v : Nat} (h : bgR E nj cw jc od u s t) (hu : u ≤ v) (hv : v ≤ nj) (h0 : ∀ p, u ≤ p → p < v → ¬ rdy E nj t (od p)) : bgR E nj cw jc od v s t := by
  obtain ⟨d, rfl⟩ : ∃ d, v = u + d := ⟨v - u, by omega⟩
  induction d with
  | zero => exact h
  | succ d ih =>
    have := ih (by omega) (by omega) (fun p a b => h0 p a (by omega))
    exact ⟨t, this, Or.inr ⟨fun c => h0 (u + d) (by omega) (by omega) c.1, rfl⟩⟩
theorem wW_bg (hs : sB E nj) (hW : wW E nj nw cw jc s) {j w : Nat} (hj : j < nj) (hc : can E nj cw jc s j) (hl : lfw nj cw s (jc j) w) (hnw : w < nw) : wW E nj nw cw jc (beg E s j w) := ⟨wf_bg hW.1 hj hc hl hnw, wg_bg hW.2.1 hc.1.1, nng_bg hs hW.2.1 hW.2.2 hj hc⟩
end BR
section BS
variable {A : Nat → Nat → Nat} {B : Nat → Nat × Nat} {S : Hp} {nc nw nm nj : Nat} {cw jc : Nat → Nat} {I : FI} {J : FJ} {R : FR} {xs : Nat → Int32} {L : Nat} {l4 : Int32}
variable {E : FI} {J0 : FJ} {R0 : FR} {od : Nat → Nat} {s : Rs} {j x : Nat} {Q : Hp → Prop}
theorem p_begs_L {n : Nat} {qp : Nat → Nat} (hs : sB E nj) (hq1 : ∀ t, t < n → qp t < nj ∧ oS s (od (qp t)) ≠ 6) (hq2 : ∀ t t', t < t' → t' < n → qp t < qp t') (hq3 : ∀ u, u < nj → oS s (od u) = 0 → ∃ t, t < n ∧ qp t = u) (hn : n ≤ nj) (v16 : Int32) (m20 : Nat → Int64) (hQ : ∀ t I' J' R', bgR E nj cw jc od nj s t → wW E nj nw cw jc t → rx A B S nc nw nm nj cw jc od E J0 R0 I' J' R' → cR A E nc nj cw od t I' J' R' → I' 0 4 16 = v16 → J' 0 20 = m20 → Q (hq A B S I' J' R')) : ∀ (r i fu k u : Nat) (I : FI) (J : FJ) (R : FR) (su : Rs) (qk : Nat → Nat), i + r = n → r < fu → rx A B S nc nw nm nj cw jc od E J0 R0 I J R → wW E nj nw cw jc su → cN A E nc nj cw su I J R → bgR E nj cw jc od u s su → u ≤ nj → (i < n → u ≤ qp i) → (∀ t, t < i → qp t < u) → k ≤ i → I 0 4 14 = nI n → (∀ t, i ≤ t → t < n → R 0 18 t = some (A 3 (od (qp t)))) → (∀ t, t < k → qk t < u ∧ R 0 18 t = some (A 3 (od (qk t))) ∧ oS su (od (qk t)) = 0) → (∀ t t', t < t' → t' < k → qk t < qk t') → (∀ p, p < u → oS su (od p) = 0 → ∃ t, t < k ∧ qk t = p) → I 0 4 16 = v16 → J 0 20 = m20 → wp_X8_beginJobs_L4 (A 0 4) Q fu (hq A B S I J R) (nI k) (nI i) := by
  intro r
  induction r with
  | zero =>
    intro i fu k u I J R su qk hi hf hr hW hc hb hu h1 h2 hk hqn h3 h4 h5 h6 h7 h8
    obtain ⟨fu, rfl⟩ : ∃ z, fu = z + 1 := ⟨fu - 1, by omega⟩
    have h := hr.1
    have hin : i = n := by omega
    subst hin
    have inj := fun a b (ha : a < nj) (hb : b < nj) => hr.oi ha hb
    have un : ∀ p, u ≤ p → p < nj → oS su (od p) = oS s (od p) := fun p a b => bgR_st hb (fun q hq e => by have := inj q p (by omega) b e; omega)
    have no : ∀ p, u ≤ p → p < nj → ¬ oS su (od p) = 0 := fun p a b e => by
      rw [un p a b] at e
      obtain ⟨t, ht, et⟩ := hq3 p b e
      have := h2 t ht
      omega
    have bf := bgR_skip inj hb hu (Nat.le_refl _) (fun p a b c => no p a b c.1)
    rw [wp_X8_beginJobs_L4]
    simp only [fr_4 h, hi_q h, hj_q h, si_q h, sj_q h, vv_5 h, vs_5 h, vv_7 h, vs_7 h, vv_8 h, vs_8 h, vv_9 h, vs_9 h, vv_11 h, vs_11 h, vv_17 h, vs_17 h, vv_18 h, vs_18 h, vj_3 h, vj_4 h, vj_5 h, ex_some, ex_def, all_def, true_and, and_true, Nat.reduceLT, hqn]
    refine ⟨fun _ => hQ su _ _ _ bf hW (hr.fx (hr.2.2.1.I rfl)) ?_ h7 h8, fun z => absurd (Int32.le_refl _) z⟩
    obtain ⟨q1, q2, q3, q4, q5, q6, q12, q13⟩ := hc
    refine ⟨q1, q2, q3, q4, q5, q6, ⟨k, qk, up3_same _ _ _ _ _, by omega, fun t ht => ?_, h5, fun p hp e => ?_⟩, q12, q13⟩
    · obtain ⟨a, b, c⟩ := h4 t ht
      exact ⟨by omega, b, by rw [c]; decide⟩
    · rcases Nat.lt_or_ge p u with q | q
      · exact h6 p q e
      · exact absurd e (no p q hp)
  | succ r ih =>
    intro i fu k u I J R su qk hi hf hr hW hc hb hu h1 h2 hk hqn h3 h4 h5 h6 h7 h8
    obtain ⟨fu, rfl⟩ : ∃ z, fu = z + 1 := ⟨fu - 1, by omega⟩
    have h := hr.1
    have n4 : nj ≤ 200 := hr.2.1.1.2.2.2.1
    have hin : i < n := by omega
    have inj := fun a b (ha : a < nj) (hb : b < nj) => hr.oi ha hb
    have hqi := (hq1 i hin).1
    have hui := h1 hin
    have un : ∀ p, u ≤ p → p < nj → oS su (od p) = oS s (od p) := fun p a b => bgR_st hb (fun q hq e => by have := inj q p (by omega) b e; omega)
    have no : ∀ p, u ≤ p → p < qp i → ¬ oS su (od p) = 0 := fun p a b e => by
      rw [un p a (by omega)] at e
      obtain ⟨t, ht, et⟩ := hq3 p (by omega) e
      rcases Nat.lt_trichotomy t i with q | q | q
      · have := h2 t q; omega
      · rw [q] at et; omega
      · have := hq2 i t q ht; omega
    have bi := bgR_skip inj hb hui (by omega) (fun p a b c => no p a b c.1)
    have hj := (hr.2.2.2.1 (qp i) hqi).1
    have oj : oS su (od (qp i)) = oS s (od (qp i)) := un (qp i) hui hqi
    have n6 : oS su (od (qp i)) ≠ 6 := by rw [oj]; exact (hq1 i hin).2
    have e0 : ¬ nI n ≤ nI i := by rw [nI_leI (by omega) (by omega)]; omega
    have nxt1 : i + 1 < n → qp i + 1 ≤ qp (i + 1) := fun q => hq2 i (i + 1) (by omega) q
    have nxt2 : ∀ t, t < i + 1 → qp t < qp i + 1 := fun t ht => by
      rcases Nat.lt_or_ge t i with q | q
      · have := hq2 t i q hin; omega
      · have : t = i := by omega
        rw [this]; omega
    have l6 : ∀ p, p < qp i → oS su (od p) = 0 → ∃ t, t < k ∧ qk t = p := fun p hp e => by
      rcases Nat.lt_or_ge p u with q | q
      · exact h6 p q e
      · exact absurd e (no p q hp)
    rw [wp_X8_beginJobs_L4]
    simp only [fr_4 h, fr_18 h, hi_q h, hj_q h, si_q h, sj_q h, vv_5 h, vs_5 h, vv_7 h, vs_7 h, vv_8 h, vs_8 h, vv_9 h, vs_9 h, vv_11 h, vs_11 h, vv_17 h, vs_17 h, vv_18 h, vs_18 h, vj_3 h, vj_4 h, vj_5 h, ex_some, ex_def, all_def, true_and, and_true, Nat.reduceLT, exists_eq_left, Option.some.injEq, exists_eq_left', hqn, e0, not_false_eq_true, true_implies, not_true_eq_false, false_implies, true_and, and_true, false_and, and_false, forall_const, imp_self, implies_true, if_true, if_false, eq_self, Bool.true_eq_false, Bool.false_eq_true, false_or, or_false, true_or, or_true, nI_clamp (show i < 2 ^ 31 by omega), vin (show i < 200 by omega) (show 200 < 2 ^ 31 by decide), h3 i (Nat.le_refl _) hin, ← nI_succ]
    refine p_canB hr hW.1 hW.2.2 hc hj n6 (fun cn => ⟨fun z => absurd z (by decide), fun _ => ⟨(fr_4 h _ _ _).1, ?_⟩⟩) (fun cn => ⟨fun _ => ?_, fun z => absurd rfl z⟩)
    · refine p_beg hr hW.1 hc hj cn (fun w I' J' R' hl hnw r1 r2 r3 r4 r5 r6 => ?_)
      have kn : ∀ t, t < k → ¬ od (qk t) = od (qp i) := fun t ht e => by
        have := inj (qk t) (qp i) (by have := (h4 t ht).1; omega) hqi e
        have := (h4 t ht).1
        omega
      refine ih (i + 1) fu k (qp i + 1) I' J' R' (beg E su (od (qp i)) w) qk (by omega) (by omega) r1 (wW_bg hs hW hj cn hl hnw) r2 ⟨su, bi, Or.inl ⟨w, cn, hl, rfl⟩⟩ (by omega) nxt1 nxt2 (by omega) (r4.trans hqn) (fun t a b => by rw [r3]; exact h3 t (by omega) b) (fun t ht => ?_) h5 (fun p hp e => ?_) (r5.trans h7) (r6.trans h8)
      · obtain ⟨a, b, c⟩ := h4 t ht
        exact ⟨by omega, by rw [r3]; exact b, by rw [bg_o (kn t ht)]; exact c⟩
      · by_cases q : p = qp i
        · rw [q, bg_s] at e; exact absurd e (by decide)
        · rw [bg_o (fun z => q (inj p (qp i) (by omega) hqi z))] at e
          exact l6 p (by omega) e
    · have bj : bgR E nj cw jc od (qp i + 1) s su := ⟨su, bi, Or.inr ⟨cn, rfl⟩⟩
      have tr := (hc.1 (od (qp i)) hj).1
      have e16 : I 16 (od (qp i)) 0 = 0 ↔ oS su (od (qp i)) = 0 := by
        rw [tr]; unfold cS; rw [if_neg n6, nI_zero (by have := hW.1.1 _ hj; omega)]
      simp only [fr_4 h, fr_18 h, fj_3 h hj, fj_16 h hj, hi_q h, hj_q h, si_q h, sj_q h, vv_5 h, vs_5 h, vv_7 h, vs_7 h, vv_8 h, vs_8 h, vv_9 h, vs_9 h, vv_11 h, vs_11 h, vv_17 h, vs_17 h, vv_18 h, vs_18 h, vj_3 h, vj_4 h, vj_5 h, ex_some, ex_def, all_def, true_and, and_true, Nat.reduceLT, exists_eq_left, Option.some.injEq, exists_eq_left', e16, nI_clamp (show k < 2 ^ 31 by omega), vin (show k < 200 by omega) (show 200 < 2 ^ 31 by decide)]
      refine ⟨fun z => ?_, fun z => ?_⟩
      · refine ih (i + 1) fu (k + 1) (qp i + 1) I J _ su (u1 qk k (qp i)) (by omega) (by omega) (hr.fx (hr.2.2.1.R rfl)) hW ?_ bj (by omega) nxt1 nxt2 (by omega) hqn (fun t a b => ?_) (fun t ht => ?_) (fun t t' a b => ?_) (fun p hp e => ?_) h7 h8
        · obtain ⟨q1, q2, q3, q4, q5, q6, q12, q13⟩ := hc
          exact ⟨q1, q2, q3, q4, q5, q6, q12, q13⟩
        · rw [up3_off (by omega)]; exact h3 t (by omega) b
        · by_cases q : t = k
          · rw [q, u1_s, up3_same]; exact ⟨by omega, rfl, z⟩
          · rw [u1_o q, up3_off (by omega)]
            obtain ⟨a, b, c⟩ := h4 t (by omega)
            exact ⟨by omega, b, c⟩
        · by_cases q : t' = k
          · rw [q, u1_s, u1_o (by omega)]
            have := (h4 t (by omega)).1
            omega
          · rw [u1_o q, u1_o (by omega)]; exact h5 t t' a (by omega)
        · by_cases q : p = qp i
          · exact ⟨k, by omega, by rw [u1_s, q]⟩
          · obtain ⟨t, ht, et⟩ := l6 p (by omega) e
            exact ⟨t, by omega, by rw [u1_o (by omega)]; exact et⟩
      · refine ih (i + 1) fu k (qp i + 1) I J R su qk (by omega) (by omega) hr hW hc bj (by omega) nxt1 nxt2 (by omega) hqn (fun t a b => h3 t (by omega) b) (fun t ht => ?_) h5 (fun p hp e => ?_) h7 h8
        · obtain ⟨a, b, c⟩ := h4 t ht
          exact ⟨by omega, b, c⟩
        · by_cases q : p = qp i
          · rw [q] at e; exact absurd e z
          · exact l6 p (by omega) e
theorem p_begs (hs : sB E nj) (hr : rx A B S nc nw nm nj cw jc od E J0 R0 I J R) (hW : wW E nj nw cw jc s) (hc : cR A E nc nj cw od s I J R) (hQ : ∀ t I' J' R', bgR E nj cw jc od nj s t → wW E nj nw cw jc t → rx A B S nc nw nm nj cw jc od E J0 R0 I' J' R' → cR A E nc nj cw od t I' J' R' → I' 0 4 16 = I 0 4 16 → J' 0 20 = J 0 20 → Q (hq A B S I' J' R')) : wp_X8_beginJobs (hq A B S I J R) (A 0 4) Q := by
  obtain ⟨q1, q2, q3, q4, q5, q6, ⟨n, qp, k1, k2, k3, k4, k5⟩, q12, q13⟩ := hc
  have n4 : nj ≤ 200 := hr.2.1.1.2.2.2.1
  exact p_begs_L hs (fun t ht => ⟨(k3 t ht).1, (k3 t ht).2.2⟩) k4 k5 k2 _ _ hQ n 0 FU 0 0 I J R s (fun _ => 0) (by omega) (by unfold FU; omega) hr hW ⟨q1, q2, q3, q4, q5, q6, q12, q13⟩ rfl (by omega) (fun _ => by omega) (fun t ht => by omega) (Nat.le_refl _) k1 (fun t _ b => (k3 t b).2.1) (fun t ht => by omega) (fun t t' _ b => by omega) (fun p hp => by omega) rfl rfl
theorem p_some {Q : Int32 → Hp → Prop} (hr : rx A B S nc nw nm nj cw jc od E J0 R0 I J R) (hW : wW E nj nw cw jc s) (hc : cR A E nc nj cw od s I J R) (hQ1 : (∃ j, j < nj ∧ can E nj cw jc s j) → Q 1 (hq A B S I J R)) (hQ0 : (¬ ∃ j, j < nj ∧ can E nj cw jc s j) → Q 0 (hq A B S I J R)) : wp_X8_someoneWouldBegin (hq A B S I J R) (A 0 4) Q := by
  obtain ⟨q1, q2, q3, q4, q5, q6, ⟨n, qp, k1, k2, k3, k4, k5⟩, q12, q13⟩ := hc
  have n4 : nj ≤ 200 := hr.2.1.1.2.2.2.1
  have h := hr.1
  have key : ∀ (r i fu : Nat), i + r = n → r < fu → (∀ t, t < i → ¬ can E nj cw jc s (od (qp t))) → wp_X8_someoneWouldBegin_L2 (A 0 4) Q fu (hq A B S I J R) (nI i) := by
    intro r
    induction r with
    | zero =>
      intro i fu hi hf hy
      obtain ⟨fu, rfl⟩ : ∃ z, fu = z + 1 := ⟨fu - 1, by omega⟩
      have hin : i = n := by omega
      subst hin
      rw [wp_X8_someoneWouldBegin_L2]
      simp only [fr_4 h, hi_q h, hj_q h, si_q h, sj_q h, vv_5 h, vs_5 h, vv_7 h, vs_7 h, vv_8 h, vs_8 h, vv_9 h, vs_9 h, vv_11 h, vs_11 h, vv_17 h, vs_17 h, vv_18 h, vs_18 h, vj_3 h, vj_4 h, vj_5 h, ex_some, ex_def, all_def, true_and, and_true, Nat.reduceLT, k1]
      refine ⟨fun _ => hQ0 (fun ⟨j, hj, c⟩ => ?_), fun z => absurd (Int32.le_refl _) z⟩
      obtain ⟨u, hu, eu⟩ := hr.2.2.2.2.2 j hj
      obtain ⟨t, ht, et⟩ := k5 u hu (by rw [eu]; exact c.1.1)
      exact hy t ht (by rw [et, eu]; exact c)
    | succ r ih =>
      intro i fu hi hf hy
      obtain ⟨fu, rfl⟩ : ∃ z, fu = z + 1 := ⟨fu - 1, by omega⟩
      have hin : i < n := by omega
      obtain ⟨g1, g2, g3⟩ := k3 i hin
      have hj := (hr.2.2.2.1 (qp i) g1).1
      have e0 : ¬ nI n ≤ nI i := by rw [nI_leI (by omega) (by omega)]; omega
      rw [wp_X8_someoneWouldBegin_L2]
      simp only [fr_4 h, fr_18 h, hi_q h, hj_q h, si_q h, sj_q h, vv_5 h, vs_5 h, vv_7 h, vs_7 h, vv_8 h, vs_8 h, vv_9 h, vs_9 h, vv_11 h, vs_11 h, vv_17 h, vs_17 h, vv_18 h, vs_18 h, vj_3 h, vj_4 h, vj_5 h, ex_some, ex_def, all_def, true_and, and_true, Nat.reduceLT, exists_eq_left, Option.some.injEq, exists_eq_left', k1, e0, not_false_eq_true, true_implies, not_true_eq_false, false_implies, true_and, and_true, false_and, and_false, forall_const, imp_self, implies_true, if_true, if_false, eq_self, Bool.true_eq_false, Bool.false_eq_true, false_or, or_false, true_or, or_true, nI_clamp (show i < 2 ^ 31 by omega), vin (show i < 200 by omega) (show 200 < 2 ^ 31 by decide), g2, ← nI_succ]
      refine p_canB hr hW.1 hW.2.2 ⟨q1, q2, q3, q4, q5, q6, q12, q13⟩ hj g3 (fun cn => ⟨fun z => absurd z (by decide), fun _ => hQ1 ⟨_, hj, cn⟩⟩) (fun cn => ⟨fun _ => ih (i + 1) fu (by omega) (by omega) (fun t ht => ?_), fun z => absurd rfl z⟩)
      by_cases q : t = i
      · rw [q]; exact cn
      · exact hy t (by omega)
  exact key n 0 FU (by omega) (by unfold FU; omega) (fun t ht => by omega)
end BS
