/-! the shift's wipe and empty -/
/-- no run: what the class's cells then hold -/
def nRc (nj : Nat) (I : FI) : Prop := I 0 4 8 = 0 ∧ (∀ j, j < nj → I 16 j 0 = 0 ∧ I 16 j 1 = -1 ∧ I 16 j 2 = -1 ∧ I 16 j 3 = -1 ∧ I 16 j 4 = 0 ∧ I 16 j 5 = 0 ∧ I 16 j 6 = 0 ∧ I 16 j 7 = 0) ∧ (∀ m, m < 40 → I 0 16 m = -1) ∧ I 0 21 1 = 0 ∧ I 0 4 9 = -1 ∧ I 0 4 10 = 0 ∧ I 0 4 11 = 0 ∧ I 0 4 12 = 0 ∧ I 0 4 13 = 0 ∧ I 0 4 14 = 0 ∧ I 0 4 15 = 0 ∧ I 0 4 16 = 0
/-- behind a wipe also the rest is as new -/
def nWc (J : FJ) (R : FR) : Prop := (∀ w, w < 32 → R 0 17 w = none) ∧ J 0 4 17 = 0 ∧ ∀ k, k < 256 → jb (J 0 20 (k / 64)) (k % 64) = false
/-- the class's own cells of a run -/
def ruI (c i p : Nat) : Bool := c == 16 || (c == 0 && (i == 16 || i == 21 || i == 4)) || (c == 2 && p == 3)
def ruJ (c i _p : Nat) : Bool := c == 0 && (i == 4 || i == 20 || i == 14 || i == 15 || i == 22)
def ruR (c i _p : Nat) : Bool := c == 0 && (i == 17 || i == 18)
def Fx (I : FI) (J : FJ) (R : FR) (I' : FI) (J' : FJ) (R' : FR) : Prop := Ag (fun c i p => !ruI c i p) I I' ∧ Ag (fun c i p => !ruJ c i p) J J' ∧ Ag (fun c i p => !ruR c i p) R R'
theorem Fx.rf {I : FI} {J : FJ} {R : FR} : Fx I J R I J R := ⟨Ag.rf, Ag.rf, Ag.rf⟩
theorem Fx.tr {I I' I2 : FI} {J J' J2 : FJ} {R R' R2 : FR} (h : Fx I J R I' J' R') (h2 : Fx I' J' R' I2 J2 R2) : Fx I J R I2 J2 R2 := ⟨h.1.tr h2.1, h.2.1.tr h2.2.1, h.2.2.tr h2.2.2⟩
theorem Fx.I {I I' : FI} {J J' : FJ} {R R' : FR} (h : Fx I J R I' J' R') {c i p : Nat} {v : Int32} (hd : ruI c i p = true) : Fx I J R (up3 I' c i p v) J' R' := ⟨h.1.up (by rw [hd]; rfl), h.2.1, h.2.2⟩
theorem Fx.J {I I' : FI} {J J' : FJ} {R R' : FR} (h : Fx I J R I' J' R') {c i p : Nat} {v : Int64} (hd : ruJ c i p = true) : Fx I J R I' (up3 J' c i p v) R' := ⟨h.1, h.2.1.up (by rw [hd]; rfl), h.2.2⟩
theorem Fx.R {I I' : FI} {J J' : FJ} {R R' : FR} (h : Fx I J R I' J' R') {c i p : Nat} {v : Option Nat} (hd : ruR c i p = true) : Fx I J R I' J' (up3 R' c i p v) := ⟨h.1, h.2.1, h.2.2.up (by rw [hd]; rfl)⟩
theorem Fx.Jw {I I' : FI} {J J' : FJ} {R R' : FR} (h : Fx I J R I' J' R') {c i : Nat} {f : Nat → Int64} (hd : ∀ p, ruJ c i p = true) : Fx I J R I' (upR J' c i f) R' := ⟨h.1, h.2.1.ur (fun p => by rw [hd p]; rfl), h.2.2⟩
theorem Fx.y {I I' : FI} {J J' : FJ} {R R' : FR} (h : Fx I J R I' J' R') : Fy I J R I' J' R' := by
  refine ⟨h.1.mo ?_, h.2.1.mo ?_, h.2.2.mo ?_⟩
  all_goals
    intro c i p
    simp only [ruI, ruJ, ruR, dyI, dyJ, dyR, Bool.and_eq_true, Bool.or_eq_true, beq_iff_eq, Bool.not_eq_true', Bool.or_eq_false_iff, Bool.and_eq_false_iff, beq_eq_false_iff_ne, decide_eq_true_eq, decide_eq_false_iff_not, ne_eq]
    omega
section EM
variable {A : Nat → Nat → Nat} {B : Nat → Nat × Nat} {S : Hp} {nc nw nm nj : Nat} {cw jc : Nat → Nat} {I : FI} {J : FJ} {R : FR} {K Q : Hp → Prop}
def wpd (p : Nat) : Int32 := if p = 1 ∨ p = 2 ∨ p = 3 then -1 else 0
theorem p_wipe2 (h : Sh A B S nj nc) (hn : nj ≤ 200) (hJo : ∀ j, j < nj → R 0 7 j = some (A 3 j)) (hc : I 0 1 7 = nI nj) (hk : K (hq A B S (fun c i p => if c = 16 ∧ i < nj ∧ p < 8 then wpd p else I c i p) J R)) :
    ∀ (r k n : Nat), k + r = nj → r < n → wp_X8_wipe_L2 (A 0 4) K Q n (hq A B S (fun c i p => if c = 16 ∧ i < k ∧ p < 8 then wpd p else I c i p) J R) (nI k) := by
  intro r
  induction r with
  | zero =>
    intro k n e hr
    obtain ⟨n, rfl⟩ : ∃ m, n = m + 1 := ⟨n - 1, by omega⟩
    obtain rfl : k = nj := by omega
    rw [wp_X8_wipe_L2]
    simp only [fr_4 h, fr_1 h, hi_q h, hj_q h, si_q h, sj_q h, vv_5 h, vs_5 h, vv_7 h, vs_7 h, vv_8 h, vs_8 h, vv_9 h, vs_9 h, vv_11 h, vs_11 h, vv_17 h, vs_17 h, vv_18 h, vs_18 h, vj_3 h, vj_4 h, vj_5 h, ex_some, ex_def, all_def, true_and, and_true, Nat.reduceLT]
    simp only [show ¬ ((0 : Nat) = 16) by decide, false_and, if_false, hc]
    exact ⟨fun _ => hk, fun z => absurd (nI_le (Nat.le_refl _) (by omega)) z⟩
  | succ r ih =>
    intro k n e hr
    obtain ⟨n, rfl⟩ : ∃ m, n = m + 1 := ⟨n - 1, by omega⟩
    have hkn : k < nj := by omega
    rw [wp_X8_wipe_L2]
    simp only [fr_4 h, fr_1 h, fr_7 h, fj_3 h hkn, fj_16 h hkn, hi_q h, hj_q h, si_q h, sj_q h, vv_5 h, vs_5 h, vv_7 h, vs_7 h, vv_8 h, vs_8 h, vv_9 h, vs_9 h, vv_11 h, vs_11 h, vv_17 h, vs_17 h, vv_18 h, vs_18 h, vj_3 h, vj_4 h, vj_5 h, ex_some, ex_def, all_def, true_and, and_true, Nat.reduceLT]
    simp only [show ¬ ((0 : Nat) = 16) by decide, false_and, if_false, hc, nI_clamp (show k < 2 ^ 31 by omega), hJo k hkn, ex_some, fj_3 h hkn, fj_16 h hkn, wp_X10_wipe, si_q h, Nat.reduceLT, true_and]
    refine ⟨fun z => absurd z (nI_ge hkn (by omega)), fun _ => ⟨vin (by omega) (by decide), ?_⟩⟩
    rw [show nI k + 1 = nI (k + 1) from (nI_succ k).symm]
    refine (congrArg (fun F => wp_X8_wipe_L2 (A 0 4) K Q n (hq A B S F J R) (nI (k + 1))) ?_).mpr (ih (k + 1) n (by omega) (by omega))
    funext c i p
    unfold up3 wpd
    by_cases h16 : c = 16
    · subst h16
      by_cases hik : i = k
      · subst hik
        by_cases hp : p < 8
        · have : p = 0 ∨ p = 1 ∨ p = 2 ∨ p = 3 ∨ p = 4 ∨ p = 5 ∨ p = 6 ∨ p = 7 := by omega
          rcases this with rfl | rfl | rfl | rfl | rfl | rfl | rfl | rfl <;> simp
        · have q0 : ¬ p = 0 := by omega
          have q1 : ¬ p = 1 := by omega
          have q2 : ¬ p = 2 := by omega
          have q3 : ¬ p = 3 := by omega
          have q4 : ¬ p = 4 := by omega
          have q5 : ¬ p = 5 := by omega
          have q6 : ¬ p = 6 := by omega
          have q7 : ¬ p = 7 := by omega
          simp [hp, q0, q1, q2, q3, q4, q5, q6, q7]
      · have : i < k + 1 ↔ i < k := by omega
        simp [hik, this]
    · simp [h16]
theorem p_wipe36 (h : Sh A B S nj nc) (hk : K (hq A B S (fun c i p => if c = 0 ∧ i = 16 ∧ p < 40 then -1 else I c i p) J R)) :
    ∀ (r k n : Nat), k + r = 40 → r < n → wp_X8_wipe_L36 (A 0 4) K Q n (hq A B S (fun c i p => if c = 0 ∧ i = 16 ∧ p < k then -1 else I c i p) J R) (nI k) := by
  intro r
  induction r with
  | zero =>
    intro k n e hr
    obtain ⟨n, rfl⟩ : ∃ m, n = m + 1 := ⟨n - 1, by omega⟩
    obtain rfl : k = 40 := by omega
    rw [wp_X8_wipe_L36]
    exact ⟨fun _ => hk, fun z => absurd (nI_le (a := 40) (b := 40) (Nat.le_refl _) (by decide)) z⟩
  | succ r ih =>
    intro k n e hr
    obtain ⟨n, rfl⟩ : ∃ m, n = m + 1 := ⟨n - 1, by omega⟩
    rw [wp_X8_wipe_L36]
    simp only [fr_4 h, fr_16 h, hi_q h, hj_q h, si_q h, sj_q h, vv_5 h, vs_5 h, vv_7 h, vs_7 h, vv_8 h, vs_8 h, vv_9 h, vs_9 h, vv_11 h, vs_11 h, vv_17 h, vs_17 h, vv_18 h, vs_18 h, vj_3 h, vj_4 h, vj_5 h, ex_some, ex_def, all_def, true_and, and_true, Nat.reduceLT, nI_clamp (show k < 2 ^ 31 by omega)]
    refine ⟨fun z => absurd z (nI_ge (b := 40) (by omega) (by decide)), fun _ => ⟨vin (by omega) (by decide), ?_⟩⟩
    rw [show nI k + 1 = nI (k + 1) from (nI_succ k).symm]
    refine (congrArg (fun F => wp_X8_wipe_L36 (A 0 4) K Q n (hq A B S F J R) (nI (k + 1))) ?_).mpr (ih (k + 1) n (by omega) (by omega))
    funext c i p
    unfold up3
    by_cases z : c = 0 ∧ i = 16
    · obtain ⟨rfl, rfl⟩ := z
      by_cases q : p = k
      · subst q; simp
      · have : p < k + 1 ↔ p < k := by omega
        simp [q, this]
    · have z2 : ¬ (c = 0 ∧ i = 16 ∧ p = k) := fun w => z ⟨w.1, w.2.1⟩
      have z3 : ¬ (c = 0 ∧ i = 16 ∧ p < k) := fun w => z ⟨w.1, w.2.1⟩
      have z4 : ¬ (c = 0 ∧ i = 16 ∧ p < k + 1) := fun w => z ⟨w.1, w.2.1⟩
      simp only [z2, z3, z4, if_false]
theorem p_wipe57 (h : Sh A B S nj nc) (hk : K (hq A B S I J (fun c i p => if c = 0 ∧ i = 17 ∧ p < 32 then none else R c i p))) :
    ∀ (r k n : Nat), k + r = 32 → r < n → wp_X8_wipe_L57 (A 0 4) K Q n (hq A B S I J (fun c i p => if c = 0 ∧ i = 17 ∧ p < k then none else R c i p)) (nI k) := by
  intro r
  induction r with
  | zero =>
    intro k n e hr
    obtain ⟨n, rfl⟩ : ∃ m, n = m + 1 := ⟨n - 1, by omega⟩
    obtain rfl : k = 32 := by omega
    rw [wp_X8_wipe_L57]
    exact ⟨fun _ => hk, fun z => absurd (nI_le (a := 32) (b := 32) (Nat.le_refl _) (by decide)) z⟩
  | succ r ih =>
    intro k n e hr
    obtain ⟨n, rfl⟩ : ∃ m, n = m + 1 := ⟨n - 1, by omega⟩
    rw [wp_X8_wipe_L57]
    simp only [fr_4 h, fr_17 h, hi_q h, hj_q h, si_q h, sj_q h, vv_5 h, vs_5 h, vv_7 h, vs_7 h, vv_8 h, vs_8 h, vv_9 h, vs_9 h, vv_11 h, vs_11 h, vv_17 h, vs_17 h, vv_18 h, vs_18 h, vj_3 h, vj_4 h, vj_5 h, ex_some, ex_def, all_def, true_and, and_true, Nat.reduceLT, nI_clamp (show k < 2 ^ 31 by omega)]
    refine ⟨fun z => absurd z (nI_ge (b := 32) (by omega) (by decide)), fun _ => ⟨vin (by omega) (by decide), ?_⟩⟩
    rw [show nI k + 1 = nI (k + 1) from (nI_succ k).symm]
    refine (congrArg (fun F => wp_X8_wipe_L57 (A 0 4) K Q n (hq A B S I J F) (nI (k + 1))) ?_).mpr (ih (k + 1) n (by omega) (by omega))
    funext c i p
    unfold up3
    by_cases z : c = 0 ∧ i = 17
    · obtain ⟨rfl, rfl⟩ := z
      by_cases q : p = k
      · subst q; simp
      · have : p < k + 1 ↔ p < k := by omega
        simp [q, this]
    · have z2 : ¬ (c = 0 ∧ i = 17 ∧ p = k) := fun w => z ⟨w.1, w.2.1⟩
      have z3 : ¬ (c = 0 ∧ i = 17 ∧ p < k) := fun w => z ⟨w.1, w.2.1⟩
      have z4 : ¬ (c = 0 ∧ i = 17 ∧ p < k + 1) := fun w => z ⟨w.1, w.2.1⟩
      simp only [z2, z3, z4, if_false]
theorem js_q (h : Sh A B S nj nc) : isJS (hq A B S I J R) (A 0 19) (A 0 20) := ⟨fr_19 h _ _ _ |>.1, fr_19 h _ _ _ |>.2, fr_20 h _ _ _ |>.1, fr_20 h _ _ _ |>.2⟩
theorem p_forget (h : Sh A B S nj nc) (hk : ∀ f, (∀ i, i < 256 → jb (f (i / 64)) (i % 64) = false) → K (hq A B S (up3 I 0 4 16 0) (upR J 0 20 f) R)) : wp_X8_forgetMarks (hq A B S I J R) (A 0 4) K := by
  unfold wp_X8_forgetMarks
  simp only [fr_4 h, fr_19 h, hi_q h, hj_q h, si_q h, sj_q h, vv_5 h, vs_5 h, vv_7 h, vs_7 h, vv_8 h, vs_8 h, vv_9 h, vs_9 h, vv_11 h, vs_11 h, vv_17 h, vs_17 h, vv_18 h, vs_18 h, vj_3 h, vj_4 h, vj_5 h, ex_some, ex_def, all_def, true_and, and_true, Nat.reduceLT]
  refine p_clear (js_q h) (fun f hf => ?_)
  simp only [sWJ_hq h.1 (show 0 < 20 by decide), fr_4 h, hi_q h, hj_q h, si_q h, sj_q h, vv_5 h, vs_5 h, vv_7 h, vs_7 h, vv_8 h, vs_8 h, vv_9 h, vs_9 h, vv_11 h, vs_11 h, vv_17 h, vs_17 h, vv_18 h, vs_18 h, vj_3 h, vj_4 h, vj_5 h, ex_some, ex_def, all_def, true_and, and_true, Nat.reduceLT]
  exact hk f hf
theorem p_wipe (h : Sh A B S nj nc) (hn : nj ≤ 200) (hJo : ∀ j, j < nj → R 0 7 j = some (A 3 j)) (hc : I 0 1 7 = nI nj) (hk : ∀ I' J' R', Fx I J R I' J' R' → nRc nj I' → nWc J' R' → K (hq A B S I' J' R')) : wp_X8_wipe (hq A B S I J R) (A 0 4) K := by
  unfold wp_X8_wipe
  have e0 : (fun (c i p : Nat) => if c = 16 ∧ i < 0 ∧ p < 8 then wpd p else I c i p) = I := by funext c i p; simp
  have w := p_wipe2 (K := fun (S13 : Hp) => wp_X8_wipe_L36 (A 0 4) (fun (S19 : Hp) => wp_X8_wipe_L57 (A 0 4) (fun (S25 : Hp) => hK S25 (A 0 4) = 10 ∧ ∃ b27 : Nat, (hR S25 (A 0 4) 7) = some b27 ∧ hK S25 b27 = 5 ∧ wp_X8_forgetMarks (sJ (sI (sI (sI (sI (sI (sI (sI (sI (sI S25 b27 1 0) (A 0 4) 8 0) (A 0 4) 9 (-1)) (A 0 4) 10 0) (A 0 4) 11 0) (A 0 4) 12 0) (A 0 4) 13 0) (A 0 4) 14 0) (A 0 4) 15 0) (A 0 4) 17 0) (A 0 4) (fun S29 => K S29)) K FU S19 0) K FU S13 0) (Q := K) (I := I) (J := J) (R := R) h hn hJo hc ?_ nj 0 FU (by omega) (fu_pos (by omega))
  · rw [e0] at w; exact w
  · generalize hI2 : (fun (c i p : Nat) => if c = 16 ∧ i < nj ∧ p < 8 then wpd p else I c i p) = I2
    have e1 : (fun (c i p : Nat) => if c = 0 ∧ i = 16 ∧ p < 0 then (-1 : Int32) else I2 c i p) = I2 := by funext c i p; simp
    have w := p_wipe36 (K := fun (S19 : Hp) => wp_X8_wipe_L57 (A 0 4) (fun (S25 : Hp) => hK S25 (A 0 4) = 10 ∧ ∃ b27 : Nat, (hR S25 (A 0 4) 7) = some b27 ∧ hK S25 b27 = 5 ∧ wp_X8_forgetMarks (sJ (sI (sI (sI (sI (sI (sI (sI (sI (sI S25 b27 1 0) (A 0 4) 8 0) (A 0 4) 9 (-1)) (A 0 4) 10 0) (A 0 4) 11 0) (A 0 4) 12 0) (A 0 4) 13 0) (A 0 4) 14 0) (A 0 4) 15 0) (A 0 4) 17 0) (A 0 4) (fun S29 => K S29)) K FU S19 0) (Q := K) (I := I2) (J := J) (R := R) h ?_ 40 0 FU (by omega) (fu_pos (by omega))
    · rw [e1] at w; exact w
    · generalize hI3 : (fun (c i p : Nat) => if c = 0 ∧ i = 16 ∧ p < 40 then (-1 : Int32) else I2 c i p) = I3
      have e2 : (fun (c i p : Nat) => if c = 0 ∧ i = 17 ∧ p < 0 then none else R c i p) = R := by funext c i p; simp
      have w := p_wipe57 (K := fun (S25 : Hp) => hK S25 (A 0 4) = 10 ∧ ∃ b27 : Nat, (hR S25 (A 0 4) 7) = some b27 ∧ hK S25 b27 = 5 ∧ wp_X8_forgetMarks (sJ (sI (sI (sI (sI (sI (sI (sI (sI (sI S25 b27 1 0) (A 0 4) 8 0) (A 0 4) 9 (-1)) (A 0 4) 10 0) (A 0 4) 11 0) (A 0 4) 12 0) (A 0 4) 13 0) (A 0 4) 14 0) (A 0 4) 15 0) (A 0 4) 17 0) (A 0 4) (fun S29 => K S29)) (Q := K) (I := I3) (J := J) (R := R) h ?_ 32 0 FU (by omega) (fu_pos (by omega))
      · rw [e2] at w; exact w
      · simp only [fr_4 h, fr_21 h, hi_q h, hj_q h, si_q h, sj_q h, vv_5 h, vs_5 h, vv_7 h, vs_7 h, vv_8 h, vs_8 h, vv_9 h, vs_9 h, vv_11 h, vs_11 h, vv_17 h, vs_17 h, vv_18 h, vs_18 h, vj_3 h, vj_4 h, vj_5 h, ex_some, ex_def, all_def, true_and, and_true, Nat.reduceLT]
        refine p_forget h (fun f hf => ?_)
        have g : ∀ c i p, ruI c i p = false → I3 c i p = I c i p := by
          intro c i p e
          rw [← hI3, ← hI2]
          have a1 : ¬ (c = 0 ∧ i = 16 ∧ p < 40) := by rintro ⟨rfl, rfl, -⟩; cases e
          have a2 : ¬ (c = 16 ∧ i < nj ∧ p < 8) := by rintro ⟨rfl, -, -⟩; cases e
          simp only [a1, a2, if_false]
        refine hk _ _ _ ?_ ?_ ?_
        · refine ⟨?_, ?_, ?_⟩
          · have g0 : Ag (fun c i p => !ruI c i p) I I3 := fun c i p e => g c i p (by simpa using e)
            exact (((((((((((g0.up rfl).up rfl).up rfl).up rfl).up rfl).up rfl).up rfl).up rfl).up rfl).up rfl))
          · exact (Ag.up Ag.rf rfl).ur (fun p => rfl)
          · intro c i p e
            have a1 : ¬ (c = 0 ∧ i = 17 ∧ p < 32) := by rintro ⟨rfl, rfl, -⟩; cases e
            simp only [a1, if_false]
        · refine ⟨by simp [up3], fun j hj => ?_, fun m hm => ?_, by simp [up3], by simp [up3], by simp [up3], by simp [up3], by simp [up3], by simp [up3], by simp [up3], by simp [up3], by simp [up3]⟩
          · have z : ∀ p, p < 8 → I3 16 j p = wpd p := fun p hp => by
              rw [← hI3, ← hI2]; simp [hj, hp]
            simp [up3, z, wpd]
          · have z : I3 0 16 m = -1 := by rw [← hI3]; simp [hm]
            simp [up3, z]
        · refine ⟨fun w hw => by simp [hw], by simp [upR, up3], fun k hk => by simp [upR]; exact hf k hk⟩
theorem p_empty {Q : Int32 → Hp → Prop} (h : Sh A B S nj nc) (hn : nj ≤ 200) (hJo : ∀ j, j < nj → R 0 7 j = some (A 3 j)) (hc : I 0 1 7 = nI nj) (hr : nRc nj I ∨ I 0 4 8 = 1) (hk : ∀ I' J' R', Fx I J R I' J' R' → nRc nj I' → Q (I 0 4 8) (hq A B S I' J' R')) : wp_X8_empty (hq A B S I J R) (A 0 4) Q := by
  unfold wp_X8_empty
  simp only [fr_4 h, hi_q h, hj_q h, si_q h, sj_q h, vv_5 h, vs_5 h, vv_7 h, vs_7 h, vv_8 h, vs_8 h, vv_9 h, vs_9 h, vv_11 h, vs_11 h, vv_17 h, vs_17 h, vv_18 h, vs_18 h, vj_3 h, vj_4 h, vj_5 h, ex_some, ex_def, all_def, true_and, and_true, Nat.reduceLT]
  refine ⟨fun z => ⟨Or.inl z, ?_⟩, fun z => ?_⟩
  · rcases hr with hr | hr
    · exact hk I J R Fx.rf hr
    · rw [hr] at z; exact absurd z (by decide)
  · have z1 : I 0 4 8 = 1 := by
      rcases hr with hr | hr
      · exact absurd hr.1 z
      · exact hr
    exact p_wipe h hn hJo hc (fun I' J' R' f g _ => ⟨Or.inr z1, hk I' J' R' f g⟩)
end EM
