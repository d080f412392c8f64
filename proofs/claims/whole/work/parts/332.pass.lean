def setM (s : Rs) (m : Nat) : Rs := (oS s, oB s, oE s, oW s, oH s, m)
def awk (nj : Nat) (s : Rs) : Prop := ∃ k, k < nj ∧ oS s k = 6
/-- one turn of a run with the deadline d -/
def trn (E : FI) (nj : Nat) (cw jc od : Nat → Nat) (d : Nat) (s t : Rs) (a : Option Int32) : Prop :=
  (oM s = d ∧ ((awk nj (cans E nj (ends E nj s)) ∧ t = ints nj (cans E nj (ends E nj s)) ∧ a = some 2) ∨ (¬ awk nj (cans E nj (ends E nj s)) ∧ (∃ j, j < nj ∧ can E nj cw jc (cans E nj (ends E nj s)) j) ∧ t = cans E nj (ends E nj s) ∧ a = some 2) ∨ (¬ awk nj (cans E nj (ends E nj s)) ∧ (¬ ∃ j, j < nj ∧ can E nj cw jc (cans E nj (ends E nj s)) j) ∧ t = nevs nj (cans E nj (ends E nj s)) ∧ a = some (ansW nj (cans E nj (ends E nj s)))))) ∨
  (oM s ≠ d ∧ ∃ s3, bgR E nj cw jc od nj (cans E nj (ends E nj s)) s3 ∧ ((¬ awk nj s3 ∧ t = nevs nj s3 ∧ a = some (ansW nj s3)) ∨ (awk nj s3 ∧ ∃ m, nxt E nj s3 d m ∧ t = setM s3 m ∧ a = none)))
def Rn (E : FI) (nj : Nat) (cw jc od : Nat → Nat) (d : Nat) : Nat → Rs → Rs → Int32 → Prop
  | 0, _, _, _ => False
  | n + 1, s, t, a => trn E nj cw jc od d s t (some a) ∨ ∃ s', trn E nj cw jc od d s s' none ∧ Rn E nj cw jc od d n s' t a
/-- something happens in this minute -/
def zZ (E : FI) (nj d : Nat) (s : Rs) : Prop := oM s = d ∨ ∃ k, k < nj ∧ oS s k = 6 ∧ endN E s k = oM s
/-- jobs that are over -/
def fz (nj : Nat) (s : Rs) : Nat := cntN nj (fun j => !(oS s j == 0) && !(oS s j == 6))
section PM
variable {E : FI} {nj nw d : Nat} {cw jc od : Nat → Nat} {s t : Rs}
theorem cntN_mo {p q : Nat → Bool} : ∀ {n : Nat}, (∀ i, i < n → p i = true → q i = true) → cntN n p ≤ cntN n q := by
  intro n
  induction n with
  | zero => intro _; exact Nat.le_refl _
  | succ n ih =>
    intro h
    rw [cntN, cntN]
    have := ih (fun i hi => h i (by omega))
    by_cases e : p n = true
    · rw [if_pos e, if_pos (h n (by omega) e)]; omega
    · rw [if_neg e]; omega
theorem cntN_lt {p q : Nat → Bool} {n j : Nat} (hj : j < n) (h : ∀ i, i < n → p i = true → q i = true) (h1 : p j = false) (h2 : q j = true) : cntN n p < cntN n q := by
  have := cntN_mo (p := fun i => if i = j then true else p i) (q := q) (n := n) (fun i hi e => by
    by_cases z : i = j
    · rw [z]; exact h2
    · simp only [z, if_false] at e; exact h i hi e)
  have e := cntN_up (p := p) (q := fun i => if i = j then true else p i) hj (fun i hi z => by simp [z]) h1 (by simp)
  omega
theorem fz_par {P : Nat → Bool} {v : Nat → Nat} (hp : pok nj s P v) : fz nj s ≤ fz nj (par s P v) ∧ ((∃ k, k < nj ∧ P k = true) → fz nj s < fz nj (par s P v)) := by
  have h : ∀ i, i < nj → (!(oS s i == 0) && !(oS s i == 6)) = true → (!(oS (par s P v) i == 0) && !(oS (par s P v) i == 6)) = true := fun i hi e => by
    rw [par_s]
    by_cases z : P i = true
    · rcases hp i z with ⟨a, b⟩ | ⟨a, b⟩ <;> rw [a] at e <;> exact absurd e (by decide)
    · rw [if_neg z]; exact e
  refine ⟨cntN_mo h, fun ⟨k, hk, e⟩ => cntN_lt hk h ?_ ?_⟩
  · rcases hp k e with ⟨a, b⟩ | ⟨a, b⟩ <;> rw [a] <;> rfl
  · rw [par_s, if_pos e]
    rcases hp k e with ⟨a, b | b | b⟩ | ⟨a, b | b⟩ <;> rw [b] <;> rfl
theorem fz_bgR : ∀ {n : Nat} {s t : Rs}, n ≤ nj → (∀ p, p < nj → od p < nj) → bgR E nj cw jc od n s t → fz nj t = fz nj s := by
  intro n
  induction n with
  | zero => intro s t _ _ h; rw [show t = s from h]
  | succ n ih =>
    intro s t hn ho h
    obtain ⟨a, a1, a2⟩ := h
    have e := ih (by omega) ho a1
    rcases a2 with ⟨w, p1, p2, p3⟩ | ⟨p1, p2⟩
    · rw [p3, ← e]
      refine cntN_cg (fun i hi => ?_)
      by_cases z : i = od n
      · rw [z, bg_s, p1.1.1]; rfl
      · rw [bg_o z]
    · rw [p2]; exact e
theorem pok_ends : pok nj s (fun k => decide (k < nj ∧ oS s k = 6 ∧ endN E s k = oM s)) (endV E) := fun j h => by
  have h := of_decide_eq_true h
  refine Or.inl ⟨h.2.1, ?_⟩
  rcases endV_c (E := E) j with q | q <;> omega
theorem pok_cans : pok nj s (fun k => decide (k < nj ∧ oS s k = 0 ∧ ∃ m, m < nj ∧ E 1 11 (200 * k + m) = 1 ∧ oS s m = 2 ∧ oE s m = oM s)) (fun _ => 3) := fun j h => by
  have h := of_decide_eq_true h
  exact Or.inr ⟨h.2.1, Or.inl rfl⟩
theorem pok_ints : pok nj s (fun k => decide (k < nj ∧ oS s k = 6)) (fun _ => 4) := fun j h => by
  have h := of_decide_eq_true h
  exact Or.inl ⟨h.2, Or.inr (Or.inr rfl)⟩
theorem pok_nevs : pok nj s (fun k => decide (k < nj ∧ oS s k = 0)) (fun _ => 5) := fun j h => by
  have h := of_decide_eq_true h
  exact Or.inr ⟨h.2, Or.inr rfl⟩
/-- who is at work after the begins will end later -/
theorem later (hw : wg E nj s) (hs : sB E nj) : ∀ {n : Nat} {t : Rs}, bgR E nj cw jc od n (cans E nj (ends E nj s)) t → ∀ k, k < nj → oS t k = 6 → oM s < endN E t k := by
  intro n
  induction n with
  | zero =>
    intro t h k hk h6
    have e : t = cans E nj (ends E nj s) := h
    subst e
    have g : oS (ends E nj s) k = 6 := by
      rw [cans, par_s] at h6
      split at h6
      · omega
      · exact h6
    have g2 : oS s k = 6 ∧ ¬ endN E s k = oM s := by
      rw [ends, par_s] at g
      split at g
      · rcases endV_c (E := E) k with q | q <;> omega
      · rename_i z
        refine ⟨g, fun q => z (decide_eq_true ⟨hk, g, q⟩)⟩
    have := (hw.1 k hk g2.1).2
    have g3 : ¬ endN E s k = oM s := g2.2
    show oM s < oB s k + dur E k
    unfold endN at g3
    omega
  | succ n ih =>
    intro t h k hk h6
    have em := bgR_m h
    obtain ⟨a, a1, a2⟩ := h
    rcases a2 with ⟨w, p1, p2, p3⟩ | ⟨p1, p2⟩
    · subst p3
      by_cases z : k = od n
      · have ea : oM a = oM s := (bgR_m a1).trans rfl
        show oM s < oB (beg E a (od n) w) k + dur E k
        rw [z, bg_b, ea]
        have := (hs.2.1 k hk).2.2.1
        rw [z] at this
        omega
      · rw [bg_o z] at h6
        show oM s < oB (beg E a (od n) w) k + dur E k
        rw [bg_bo z]; exact ih a1 k hk h6
    · subst p2; exact ih a1 k hk h6
end PM
section PN
variable {A : Nat → Nat → Nat} {B : Nat → Nat × Nat} {S : Hp} {nc nw nm nj : Nat} {cw jc : Nat → Nat} {I : FI} {J : FJ} {R : FR} {xs : Nat → Int32} {L : Nat} {l4 : Int32}
variable {E : FI} {J0 : FJ} {R0 : FR} {od : Nat → Nat} {s : Rs} {d : Nat} {Q : Int32 → Hp → Prop}
theorem p_pass (hs : sB E nj) (hd : d ≤ 1000000) (hr : rx A B S nc nw nm nj cw jc od E J0 R0 I J R) (hW : wW E nj nw cw jc s) (hc : cR A E nc nj cw od s I J R) (hm : cMk I J (mks nj s)) (hmd : oM s ≤ d) (hQ1 : ∀ t a I' J' R', trn E nj cw jc od d s t (some a) → wW E nj nw cw jc t → rx A B S nc nw nm nj cw jc od E J0 R0 I' J' R' → cR A E nc nj cw od t I' J' R' → I' 0 4 9 = a → Q 1 (hq A B S I' J' R')) (hQ0 : ∀ t I' J' R', trn E nj cw jc od d s t none → wW E nj nw cw jc t → rx A B S nc nw nm nj cw jc od E J0 R0 I' J' R' → cR A E nc nj cw od t I' J' R' → cMk I' J' (mks nj t) → oM t ≤ d → Q 0 (hq A B S I' J' R')) : wp_X8_passMinute (hq A B S I J R) (A 0 4) (nI d) Q := by
  have h := hr.1
  have n4 : nj ≤ 200 := hr.2.1.1.2.2.2.1
  unfold wp_X8_passMinute
  refine ⟨(fr_4 h _ _ _).1, p_ends hr hW.1 hc hm (fun I1 J1 R1 r1 w1 c1 m1 => ⟨(fr_4 h _ _ _).1, p_cancel r1 w1 c1 m1 (fun I2 J2 r2 w2 c2 m2 => ?_)⟩)⟩
  have W2 : wW E nj nw cw jc (cans E nj (ends E nj s)) := ⟨w2, wg_par pok_cans (wg_par pok_ends hW.2.1), nng_par hs pok_cans (wg_par pok_ends hW.2.1) (nng_par hs pok_ends hW.2.1 hW.2.2)⟩
  have now : I2 0 4 10 = nI (oM s) := c2.2.2.2.2.2.2.2.2.1
  have mM : oM s ≤ 1000000 := hW.1.2.2.2.2.2.2
  have lt : nI (oM s) < nI d ↔ oM s < d := nI_lti (by omega) (by omega)
  simp only [fr_4 h, hi_q h, hj_q h, si_q h, sj_q h, vv_5 h, vs_5 h, vv_7 h, vs_7 h, vv_8 h, vs_8 h, vv_9 h, vs_9 h, vv_11 h, vs_11 h, vv_17 h, vs_17 h, vv_18 h, vs_18 h, vj_3 h, vj_4 h, vj_5 h, ex_some, ex_def, all_def, true_and, and_true, Nat.reduceLT, now, lt]
  have aw0 : ∀ t, cntN nj (fun j => oS t j == 6) = 0 ↔ ¬ awk nj t := fun t => by
    rw [cntN_0]
    exact ⟨fun z ⟨k, hk, e⟩ => by have := z k hk; rw [beq_eq_false_iff_ne] at this; exact this e, fun z k hk => beq_eq_false_iff_ne.mpr (fun e => z ⟨k, hk, e⟩)⟩
  have cl : ∀ t, cntN nj (fun j => oS t j == 6) ≤ 200 := fun t => Nat.le_trans (cntN_le _ _) n4
  refine ⟨fun z => p_begs hs r2 W2 c2 (fun s3 I3 J3 R3 b3 W3 r3 c3 v3 j3 => ?_), fun z => ?_⟩
  · have wk3 : I3 0 4 15 = nI (cntN nj (fun j => oS s3 j == 6)) := c3.2.2.2.2.2.1.1
    have e3 : nI (cntN nj (fun j => oS s3 j == 6)) = 0 ↔ ¬ awk nj s3 := by rw [nI_zero (by have := cl s3; omega), aw0]
    have em3 : oM s3 = oM s := (bgR_m b3).trans rfl
    simp only [fr_4 h, hi_q h, hj_q h, si_q h, sj_q h, vv_5 h, vs_5 h, vv_7 h, vs_7 h, vv_8 h, vs_8 h, vv_9 h, vs_9 h, vv_11 h, vs_11 h, vv_17 h, vs_17 h, vv_18 h, vs_18 h, vj_3 h, vj_4 h, vj_5 h, ex_some, ex_def, all_def, true_and, and_true, Nat.reduceLT, wk3, e3]
    refine ⟨fun q => p_give r3 W3.1 c3 (fun I' J' r4 w4 c4 a4 => hQ1 _ _ _ _ _ (Or.inr ⟨by omega, s3, b3, Or.inl ⟨q, rfl, rfl⟩⟩) ⟨w4, wg_par pok_nevs W3.2.1, nng_par hs pok_nevs W3.2.1 W3.2.2⟩ r4 c4 a4), fun q => p_next hd r3 W3.1 c3 (fun m hn => ?_)⟩
    simp only [fr_4 h, hi_q h, hj_q h, si_q h, sj_q h, vv_5 h, vs_5 h, vv_7 h, vs_7 h, vv_8 h, vs_8 h, vv_9 h, vs_9 h, vv_11 h, vs_11 h, vv_17 h, vs_17 h, vv_18 h, vs_18 h, vj_3 h, vj_4 h, vj_5 h, ex_some, ex_def, all_def, true_and, and_true, Nat.reduceLT]
    have q' : awk nj s3 := Classical.not_not.mp q
    have mgt : oM s < m := by
      rcases hn.2.2 with e | ⟨k, hk, h6, e⟩
      · omega
      · rw [← e]; exact later hW.2.1 hs b3 k hk h6
    obtain ⟨f1, f2, f3, f4, f5, f6, f7⟩ := W3.1
    refine hQ0 (setM s3 m) _ _ _ (Or.inr ⟨by omega, s3, b3, Or.inr ⟨q', m, hn, rfl, rfl⟩⟩) ⟨⟨f1, f2, f3, f4, fun j hj e => ?_, fun j hj e1 e2 => ?_, ?_⟩, ⟨fun j hj e => ?_, fun j hj e => ?_, ?_⟩, W3.2.2⟩ (r3.fx (r3.2.2.1.I rfl)) ?_ ⟨fun k hk => ?_, ?_⟩ hn.1
    · have := f5 j hj e; show oB s3 j ≤ m; omega
    · have := f6 j hj e1 e2; show oE s3 j ≤ m; omega
    · have := hn.1; show m ≤ 1000000; omega
    · have a := W3.2.1.1 j hj e
      have b := hn.2.1 j hj e
      exact ⟨by show oB s3 j ≤ m; omega, b⟩
    · have a := W3.2.1.2.1 j hj e
      exact ⟨a.1, a.2.1, by show oE s3 j ≤ m; omega⟩
    · have := hn.1; show m ≤ 1000000; omega
    · obtain ⟨q1, q2, q3, q4, q5, q6, q11, q12, q13⟩ := c3
      exact ⟨q1, q2, q3, q4, q5, q6, q11, q12, up3_same _ _ _ _ _, q13.2.1, q13.2.2⟩
    · rw [j3, m2.1 k hk]
      refine ⟨False.elim, fun ⟨a, b, c⟩ => ?_⟩
      have g6 : oE s3 k ≤ oM s3 := f6 k a (fun e => by rw [show oS s3 k = 2 from b] at e; omega) (fun e => by rw [show oS s3 k = 2 from b] at e; omega)
      have : oE s3 k = m := c
      omega
    · rcases m2.2 with ⟨a, -⟩ | a
      · refine Or.inl ⟨v3.trans a, fun k hk ⟨a, b, c⟩ => ?_⟩
        have g6 : oE s3 k ≤ oM s3 := f6 k a (fun e => by rw [show oS s3 k = 2 from b] at e; omega) (fun e => by rw [show oS s3 k = 2 from b] at e; omega)
        have : oE s3 k = m := c
        omega
      · exact Or.inr (v3.trans a)
  · have ed : oM s = d := by omega
    have wk2 : I2 0 4 15 = nI (cntN nj (fun j => oS (cans E nj (ends E nj s)) j == 6)) := c2.2.2.2.2.2.1.1
    have e2 : nI (cntN nj (fun j => oS (cans E nj (ends E nj s)) j == 6)) ≤ 0 ↔ ¬ awk nj (cans E nj (ends E nj s)) := by rw [show (0 : Int32) = nI 0 from rfl, nI_leI (by have := cl (cans E nj (ends E nj s)); omega) (by decide), Nat.le_zero, aw0]
    unfold wp_X8_stopAtDeadline
    simp only [fr_4 h, hi_q h, hj_q h, si_q h, sj_q h, vv_5 h, vs_5 h, vv_7 h, vs_7 h, vv_8 h, vs_8 h, vv_9 h, vs_9 h, vv_11 h, vs_11 h, vv_17 h, vs_17 h, vv_18 h, vs_18 h, vj_3 h, vj_4 h, vj_5 h, ex_some, ex_def, all_def, true_and, and_true, Nat.reduceLT, wk2, e2]
    refine ⟨fun q => p_some r2 W2 c2 (fun y => ⟨fun w => absurd w (by decide), fun _ => ?_⟩) (fun y => ⟨fun _ => ⟨(fr_4 h _ _ _).1, ?_⟩, fun w => absurd rfl w⟩), fun q => ?_⟩
    · simp only [fr_4 h, hi_q h, hj_q h, si_q h, sj_q h, vv_5 h, vs_5 h, vv_7 h, vs_7 h, vv_8 h, vs_8 h, vv_9 h, vs_9 h, vv_11 h, vs_11 h, vv_17 h, vs_17 h, vv_18 h, vs_18 h, vj_3 h, vj_4 h, vj_5 h, ex_some, ex_def, all_def, true_and, and_true, Nat.reduceLT]
      exact hQ1 _ 2 _ _ _ (Or.inl ⟨ed, Or.inr (Or.inl ⟨q, y, rfl, rfl⟩)⟩) W2 (r2.fx (r2.2.2.1.I rfl)) c2 (up3_same _ _ _ _ _)
    · exact p_give r2 w2 c2 (fun I' J' r4 w4 c4 a4 => hQ1 _ _ _ _ _ (Or.inl ⟨ed, Or.inr (Or.inr ⟨q, y, rfl, rfl⟩)⟩) ⟨w4, wg_par pok_nevs W2.2.1, nng_par hs pok_nevs W2.2.1 W2.2.2⟩ r4 c4 a4)
    · refine p_ints r2 w2 c2 (fun I' J' R' r4 w4 c4 => ?_)
      simp only [fr_4 h, hi_q h, hj_q h, si_q h, sj_q h, vv_5 h, vs_5 h, vv_7 h, vs_7 h, vv_8 h, vs_8 h, vv_9 h, vs_9 h, vv_11 h, vs_11 h, vv_17 h, vs_17 h, vv_18 h, vs_18 h, vj_3 h, vj_4 h, vj_5 h, ex_some, ex_def, all_def, true_and, and_true, Nat.reduceLT]
      exact hQ1 _ 2 _ _ _ (Or.inl ⟨ed, Or.inl ⟨Classical.not_not.mp q, rfl, rfl⟩⟩) ⟨w4, wg_par pok_ints W2.2.1, nng_par hs pok_ints W2.2.1 W2.2.2⟩ (r4.fx (r4.2.2.1.I rfl)) c4 (up3_same _ _ _ _ _)
end PN
