/-- how a turn finds the run -/
def zA (nj : Nat) (s : Rs) : Prop := awk nj s ∨ (oM s = 0 ∧ ∀ k, k < nj → oS s k = 0 ∨ (oS s k = 5 ∧ oE s k = 0))
/-- something happened in the last minute -/
def lE (nj : Nat) (t : Rs) : Prop := (∃ k, k < nj ∧ oS t k ≠ 0 ∧ oS t k ≠ 6 ∧ oE t k = oM t) ∨ (oM t = 0 ∧ nj = 0)
section EN
variable {E : FI} {nj nw d : Nat} {cw jc od : Nat → Nat} {s t : Rs} {a : Int32}
theorem bgR_keep : ∀ {n : Nat} {s t : Rs} {k : Nat}, bgR E nj cw jc od n s t → oE t k = oE s k ∧ (oS s k ≠ 0 → oS t k = oS s k) ∧ (oS s k = 0 → oS t k = 0 ∨ oS t k = 6) := by
  intro n
  induction n with
  | zero => intro s t k h; rw [show t = s from h]; exact ⟨rfl, fun _ => rfl, Or.inl⟩
  | succ n ih =>
    intro s t k h
    obtain ⟨b, a1, a2⟩ := h
    obtain ⟨i1, i2, i3⟩ := ih (k := k) a1
    rcases a2 with ⟨w, p1, p2, p3⟩ | ⟨p1, p2⟩
    · subst p3
      refine ⟨i1, fun q => ?_, fun q => ?_⟩
      · have e : ¬ k = od n := fun z => by
          have := p1.1.1
          rw [← z, i2 q] at this; exact q this
        rw [bg_o e]; exact i2 q
      · by_cases e : k = od n
        · rw [e, bg_s]; exact Or.inr rfl
        · rw [bg_o e]; exact i3 q
    · subst p2; exact ⟨i1, i2, i3⟩
theorem ke {k : Nat} (hk : k < nj) (h6 : oS s k = 6) : oS (cans E nj (ends E nj s)) k = 6 ∨ ((oS (cans E nj (ends E nj s)) k = 1 ∨ oS (cans E nj (ends E nj s)) k = 2) ∧ oE (cans E nj (ends E nj s)) k = oM s) := by
  have c : ∀ s' : Rs, oS s' k ≠ 0 → oS (cans E nj s') k = oS s' k ∧ oE (cans E nj s') k = oE s' k := fun s' q => by
    rw [cans, par_s, par_e, if_neg (fun z => q (of_decide_eq_true z).2.1), if_neg (fun z => q (of_decide_eq_true z).2.1)]
    exact ⟨rfl, rfl⟩
  by_cases z : endN E s k = oM s
  · have p : decide (k < nj ∧ oS s k = 6 ∧ endN E s k = oM s) = true := decide_eq_true ⟨hk, h6, z⟩
    have e1 : oS (ends E nj s) k = endV E k := by rw [ends, par_s, if_pos p]
    have e2 : oE (ends E nj s) k = oM s := by rw [ends, par_e, if_pos p]
    have ev : endV E k = 1 ∨ endV E k = 2 := endV_c k
    obtain ⟨c1, c2⟩ := c (ends E nj s) (by rw [e1]; omega)
    right
    rw [c1, c2, e1, e2]
    exact ⟨ev, rfl⟩
  · have p : ¬ decide (k < nj ∧ oS s k = 6 ∧ endN E s k = oM s) = true := fun w => z (of_decide_eq_true w).2.2
    have e1 : oS (ends E nj s) k = 6 := by rw [ends, par_s, if_neg p]; exact h6
    left
    rw [(c (ends E nj s) (by rw [e1]; decide)).1]; exact e1
theorem nev_k {k : Nat} (h : oS s k ≠ 0) : oS (nevs nj s) k = oS s k ∧ oE (nevs nj s) k = oE s k := by
  rw [nevs, par_s, par_e, if_neg (fun z => h (of_decide_eq_true z).2), if_neg (fun z => h (of_decide_eq_true z).2)]
  exact ⟨rfl, rfl⟩
theorem nev_a (h : ¬ awk nj s) : ¬ awk nj (nevs nj s) := fun ⟨k, hk, e⟩ => by
  rw [nevs, par_s] at e
  split at e
  · omega
  · exact h ⟨k, hk, e⟩
theorem trn_fin (hd : 1 ≤ d) (hz : zA nj s) (h : trn E nj cw jc od d s t (some a)) : lE nj t ∧ ¬ awk nj t := by
  rcases h with ⟨ed, h⟩ | ⟨nd, s3, b3, h⟩
  · rcases h with ⟨⟨k, hk, e6⟩, et, -⟩ | ⟨na, -, et, -⟩ | ⟨na, -, et, -⟩
    · subst et
      have p : decide (k < nj ∧ oS (cans E nj (ends E nj s)) k = 6) = true := decide_eq_true ⟨hk, e6⟩
      refine ⟨Or.inl ⟨k, hk, ?_, ?_, ?_⟩, fun ⟨i, hi, e⟩ => ?_⟩
      · rw [ints, par_s, if_pos p]; decide
      · rw [ints, par_s, if_pos p]; decide
      · rw [ints, par_e, if_pos p]; rfl
      · rw [ints, par_s] at e
        split at e
        · omega
        · rename_i z
          exact z (decide_eq_true ⟨hi, e⟩)
    all_goals
      subst et
      rcases hz with ⟨k, hk, h6⟩ | ⟨z, -⟩
      · rcases ke (E := E) hk h6 with q | ⟨q, q2⟩
        · exact absurd ⟨k, hk, q⟩ na
        · first
            | exact ⟨Or.inl ⟨k, hk, by omega, by omega, q2⟩, na⟩
            | exact ⟨Or.inl ⟨k, hk, by rw [(nev_k (by omega)).1]; omega, by rw [(nev_k (by omega)).1]; omega, by rw [(nev_k (by omega)).2]; exact q2⟩, nev_a na⟩
      · omega
  · rcases h with ⟨na, et, -⟩ | ⟨-, m, -, -, e⟩
    · subst et
      have em : oM s3 = oM s := (bgR_m b3).trans rfl
      refine ⟨?_, nev_a na⟩
      rcases hz with ⟨k, hk, h6⟩ | ⟨z, hall⟩
      · obtain ⟨k1, k2, k3⟩ := bgR_keep (k := k) b3
        rcases ke (E := E) hk h6 with q | ⟨q, q2⟩
        · exact absurd ⟨k, hk, by rw [k2 (by omega)]; exact q⟩ na
        · have o3 : oS s3 k = 1 ∨ oS s3 k = 2 := by rw [k2 (by omega)]; exact q
          refine Or.inl ⟨k, hk, ?_, ?_, ?_⟩
          · rw [(nev_k (by omega)).1]; omega
          · rw [(nev_k (by omega)).1]; omega
          · rw [(nev_k (by omega)).2, k1, q2]; exact em.symm
      · have e1 : ends E nj s = s := par_0 (fun k => decide_eq_false (fun ⟨hk, q, _⟩ => by rcases hall k hk with w | w <;> omega))
        have e2 : cans E nj s = s := par_0 (fun k => decide_eq_false (fun ⟨_, _, i, hi, _, q, _⟩ => by rcases hall i hi with w | w <;> omega))
        rw [e1, e2] at b3
        rcases Nat.eq_zero_or_pos nj with n0 | n0
        · exact Or.inr ⟨em.trans z, n0⟩
        · obtain ⟨k1, k2, k3⟩ := bgR_keep (k := 0) b3
          refine Or.inl ⟨0, n0, ?_⟩
          rcases hall 0 n0 with w | ⟨w, w2⟩
          · rcases k3 w with q | q
            · have p : decide (0 < nj ∧ oS s3 0 = 0) = true := decide_eq_true ⟨n0, q⟩
              rw [nevs, par_s, par_e, if_pos p, if_pos p]
              exact ⟨by decide, by decide, rfl⟩
            · exact absurd ⟨0, n0, q⟩ na
          · have o3 : oS s3 0 = 5 := by rw [k2 (by omega)]; exact w
            rw [(nev_k (by omega)).1, (nev_k (by omega)).2, o3, k1, w2]
            exact ⟨by decide, by decide, by show 0 = oM s3; omega⟩
    · cases e
theorem Rn_fin (hd : 1 ≤ d) : ∀ {n : Nat} {s : Rs}, zA nj s → Rn E nj cw jc od d n s t a → lE nj t ∧ ¬ awk nj t := by
  intro n
  induction n with
  | zero => intro s _ h; exact h.elim
  | succ n ih =>
    intro s hz h
    rcases h with h | ⟨s', h, hn⟩
    · exact trn_fin hd hz h
    · refine ih ?_ hn
      rcases h with ⟨-, ⟨-, -, e⟩ | ⟨-, -, -, e⟩ | ⟨-, -, -, e⟩⟩ | ⟨nd, s3, b3, ⟨-, -, e⟩ | ⟨aw, m, hx, et, -⟩⟩
      · cases e
      · cases e
      · cases e
      · cases e
      · subst et; exact Or.inl aw
theorem zA_0 : zA nj (s0 E nj cw jc) := by
  refine Or.inr ⟨rfl, fun k hk => ?_⟩
  rcases s0_c (E := E) (nj := nj) (cw := cw) (jc := jc) k with q | q
  · exact Or.inl q
  · refine Or.inr ⟨q, ?_⟩
    rw [s0, par_e]
    split <;> rfl
theorem mxI_of {f : Nat → Int32} {v : Nat} (hv : v < 2 ^ 31) {n : Nat} (h1 : ∀ j, j < n → f j = -1 ∨ ∃ e, f j = nI e ∧ e ≤ v) (h2 : v = 0 ∨ ∃ j, j < n ∧ f j = nI v) : mxI n f = nI v := by
  have aux : ∀ n, (∀ j, j < n → f j = -1 ∨ ∃ e, f j = nI e ∧ e ≤ v) → ∃ w, mxI n f = nI w ∧ w ≤ v ∧ ∀ j, j < n → ∀ e, e ≤ v → f j = nI e → e ≤ w := by
    intro n
    induction n with
    | zero => intro _; exact ⟨0, rfl, Nat.zero_le _, fun j hj => by omega⟩
    | succ n ih =>
      intro h
      obtain ⟨w, w1, w2, w3⟩ := ih (fun j hj => h j (by omega))
      rw [mxI, w1]
      rcases h n (by omega) with e | ⟨e, e1, e2⟩
      · rw [e]
        have nl : ¬ nI w < -1 := by
          rw [Int32.lt_iff_toInt_lt, nI_toInt (by omega)]
          have : (-1 : Int32).toInt = -1 := rfl
          omega
        rw [if_neg nl]
        refine ⟨w, rfl, w2, fun j hj x hx ex => ?_⟩
        by_cases q : j = n
        · rw [q, e] at ex; exact absurd ex.symm (nI_nm1 (by omega))
        · exact w3 j (by omega) x hx ex
      · rw [e1]
        have wl : nI w < nI e ↔ w < e := nI_lti (by omega) (by omega)
        by_cases q : w < e
        · rw [if_pos (wl.mpr q)]
          refine ⟨e, rfl, e2, fun j hj x hx ex => ?_⟩
          by_cases q2 : j = n
          · rw [q2, e1] at ex
            have := (nI_eq (by omega) (by omega)).mp ex; omega
          · have := w3 j (by omega) x hx ex; omega
        · rw [if_neg (fun z => q (wl.mp z))]
          refine ⟨w, rfl, w2, fun j hj x hx ex => ?_⟩
          by_cases q2 : j = n
          · rw [q2, e1] at ex
            have := (nI_eq (by omega) (by omega)).mp ex; omega
          · exact w3 j (by omega) x hx ex
  obtain ⟨w, w1, w2, w3⟩ := aux n h1
  rw [w1]
  rcases h2 with e | ⟨j, hj, e⟩
  · congr 1; omega
  · have := w3 j hj v (Nat.le_refl _) e
    congr 1; omega
end EN
section YR
variable {A : Nat → Nat → Nat} {B : Nat → Nat × Nat} {S : Hp} {nc nw nm nj : Nat} {cw jc : Nat → Nat} {I : FI} {J : FJ} {R : FR} {xs : Nat → Int32} {L : Nat} {l4 : Int32}
variable {E : FI} {od : Nat → Nat} {t : Rs} {a : Int32}
theorem yR_of {I1 I2 : FI} {J1 J2 : FJ} {R1 : FR} {ky : Nat → Nat} (n4 : nj ≤ 200) (hw : wf E nj nw cw jc t) (hl : lE nj t) (na : ¬ awk nj t) (hc : cR A E nc nj cw od t I1 J1 R1) (ha : I1 0 4 9 = a) (eI : ∀ c i p, moI c i p = false → I2 c i p = I1 c i p) (eJ : ∀ c i p, moJ c i p = false → J2 c i p = J1 c i p) (tr : rTr E nj t I2) (hd : rHd t I2) (lf : rLf E nj t J2) (m39 : I2 0 23 39 = 0) (m22 : I2 0 23 22 = 1) (m23 : I2 0 23 23 = a) (m25 : I2 0 23 25 = nI (sumN nj (fun j => evn (oS t j)))) (he : eT (sumN nj (fun j => evn (oS t j))) ky (EVs nj t) I2) (hs : ∀ i i', i < i' → i' < sumN nj (fun j => evn (oS t j)) → ky i < ky i') : yR nj I2 J2 := by
  obtain ⟨q1, q2, q3, q4, q5, ⟨q6, q7, q8, v, q9, q10⟩, q11, ⟨kc, q12, q13, q14⟩, q15, q16, q17⟩ := hc
  obtain ⟨w1, w2, w3, w4, w5, w6, w7⟩ := hw
  have n6 : ∀ j, j < nj → oS t j ≠ 6 := fun j hj e => na ⟨j, hj, e⟩
  have eb : ∀ x, edd x = true → bgn x = true := fun x => by unfold edd bgn; cases x == 1 <;> cases x == 2 <;> cases x == 4 <;> simp
  have en : ∀ x, edd x = true → x ≠ 0 ∧ x ≠ 6 := fun x z => ⟨fun e => by rw [e] at z; exact absurd z (by decide), fun e => by rw [e] at z; exact absurd z (by decide)⟩
  have Q2 : ∀ j, j < nj → (I2 1 26 j = 2 ↔ oS t j = 2) := fun j hj => by
    rw [(tr j hj).1]
    have := w1 j hj
    exact nI_eq (b := 2) (by omega) (by decide)
  have key : ∀ i, i < sumN nj (fun j => evn (oS t j)) → kc i = ky i := srt_eq q13.2.2 hs (fun z => by rw [q14 z, he.2.2 z])
  refine ⟨by rw [eI 0 4 8 rfl]; exact q16, m22, fun j hj => ?_, fun m hm => ?_, fun x hx => ?_, ?_, ⟨sumN nj (fun j => evn (oS t j)), q13.1, by rw [eI 0 21 1 rfl]; exact q12, m25, fun i hi => ?_, ?_⟩, ?_, ?_, m39⟩
  · obtain ⟨a1, a2, a3, a4, a5, a6, a7, a8⟩ := q1 j hj
    obtain ⟨b1, b2, b3, b4, b5, b6⟩ := tr j hj
    rw [eI 16 j 0 rfl, eI 16 j 1 rfl, eI 16 j 2 rfl, eI 16 j 3 rfl, eI 16 j 4 rfl, eI 16 j 5 rfl, eI 16 j 6 rfl, a1, a2, a3, a4, a5, a6, a7]
    simp only [Q2 j hj]
    rw [b1, b2, b3, b4, b5, b6]
    refine ⟨?_, rfl, rfl, rfl, ?_, rfl, ?_⟩
    · unfold cS; rw [if_neg (n6 j hj)]
    · unfold faI bgI emI
      by_cases z : edd (oS t j) = true
      · have o1 := w5 j hj (eb _ z)
        have o2 := w6 j hj (en _ z).1 (en _ z).2
        rw [if_pos z, if_pos z, if_pos (eb _ z), if_neg (nI_nm1 (by omega)), if_neg (nI_nm1 (by omega))]
      · rw [if_neg z, if_neg z, if_pos rfl]
        exact (ite_self _).symm
    · unfold fkI
      by_cases z : oS t j = 2
      · rw [if_pos z, if_pos z]
      · rw [if_neg z, if_neg z]
  · rw [eI 0 16 m rfl, q17 m hm, hd m hm]
  · rw [eJ 0 14 x rfl, q2 x hx, lf x hx]
  · rw [eI 0 4 9 rfl, ha, m23]
  · obtain ⟨m, k, j, c1, c2, c3, c4, c5, c6, c7⟩ := he.1 i hi
    refine ⟨m, k, j, c1, c2, c3, ?_, c5, c6, c7⟩
    rw [eJ 0 22 i rfl, (q13.2.1 i hi).1, key i hi, c4]
  · rw [eI 0 4 10 rfl, q15]
    generalize hN : sumN nj (fun j => evn (oS t j)) = N at *
    rcases hl with ⟨k, hk, k1, k2, k3⟩ | ⟨z, n0⟩
    · have w1k := w1 k hk
      obtain ⟨i, hi, ei⟩ := (he.2.2 (ekey (oE t k) (evk (oS t k)) k)).mpr ⟨k, hk, Or.inr ⟨⟨k1, k2⟩, rfl⟩⟩
      rw [if_neg (by omega)]
      obtain ⟨m, x, j, c1, c2, c3, c4, c5, c6, c7⟩ := he.1 (N - 1) (by omega)
      rw [c5]
      congr 1
      have le : ky i ≤ ky (N - 1) := by
        by_cases e : i = N - 1
        · rw [← e]; exact Nat.le_refl _
        · have := hs i (N - 1) (by omega) (by omega); omega
      have mm : m ≤ oM t := by
        obtain ⟨j', hj', ⟨y1, y2⟩ | ⟨y1, y2⟩⟩ := (he.2.2 (ky (N - 1))).mp ⟨N - 1, by omega, rfl⟩
        · rw [c4] at y2
          have := ekey_in c2 c3 (by decide) (by omega) y2
          have := w5 j' hj' y1
          omega
        · rw [c4] at y2
          have := ekey_in c2 c3 (evk_lt (w1 j' hj')) (by omega) y2
          have := w6 j' hj' y1.1 y1.2
          omega
      rw [ei, c4, k3] at le
      have := evk_lt w1k
      unfold ekey at le
      omega
    · subst n0
      have : N = 0 := by rw [← hN]; rfl
      rw [if_pos this, z]; rfl
  · rw [eI 0 4 11 rfl, q8, cntI_N]
    congr 1
    refine cntN_cg (fun j hj => ?_)
    rw [Bool.eq_iff_iff, beq_iff_eq, decide_eq_true_eq]
    exact (Q2 j hj).symm
  · rw [eI 0 4 13 rfl, q9]
    have vb : v ≤ 1000000 := by
      rcases q10.2 with e | ⟨j, hj, z, e⟩
      · omega
      · have := w6 j hj (en _ z).1 (en _ z).2; omega
    refine (mxI_of (by omega) (fun j hj => ?_) ?_).symm
    · show I2 1 28 j = -1 ∨ ∃ e, I2 1 28 j = nI e ∧ e ≤ v
      rw [(tr j hj).2.2.1]
      unfold emI
      by_cases z : edd (oS t j) = true
      · rw [if_pos z]; exact Or.inr ⟨_, rfl, q10.1 j hj z⟩
      · rw [if_neg z]; exact Or.inl rfl
    · rcases q10.2 with e | ⟨j, hj, z, e⟩
      · exact Or.inl e
      · refine Or.inr ⟨j, hj, ?_⟩
        show I2 1 28 j = nI v
        rw [(tr j hj).2.2.1]
        unfold emI
        rw [if_pos z, e]
end YR
