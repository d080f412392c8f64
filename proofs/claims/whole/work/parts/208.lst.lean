/-! ArrayList, of jobs -/
def isAL (S : Hp) (a d n : Nat) (el : Nat → Nat) : Prop := hK S a = 1 ∧ hI S a 2 = nI n ∧ hR S a 1 = some d ∧ n ≤ 200 ∧ (∀ i, i < n → hR S d i = some (el i)) ∧ ((hK S d = 20 ∧ n ≤ hN S d ∧ 1 ≤ hN S d ∧ hN S d ≤ 300) ∨ (n = 0 ∧ d = hT S ∧ hK S d = 21 ∧ hN S d = 0))
theorem isAL.ne {S : Hp} {a d n : Nat} {el : Nat → Nat} (h : isAL S a d n el) : a ≠ d := fun z => by
  have h1 := h.1
  rcases h.2.2.2.2.2 with g | g
  · have := g.1; rw [← z, h1] at this; exact absurd this (by decide)
  · have := g.2.2.1; rw [← z, h1] at this; exact absurd this (by decide)
theorem isAL.k0 {S : Hp} {a d n : Nat} {el : Nat → Nat} (h : isAL S a d n el) : hK S d ≠ 0 := by
  rcases h.2.2.2.2.2 with g | g
  · rw [g.1]; decide
  · rw [g.2.2.1]; decide
theorem isAL.on {P : Nat → Prop} {S S' : Hp} {a d n : Nat} {el : Nat → Nat} (h : isAL S a d n el) (ho : On P S S') (ha : ¬ P a) (hd : hK S d = 20 → ¬ P d) : isAL S' a d n el := by
  obtain ⟨h1, h2, h3, h4, h5, h6⟩ := h
  refine ⟨ho.k h1 (by decide), (ho.i h1 (by decide) ha 2).trans h2, (ho.r h1 (by decide) ha 1).trans h3, h4, fun i hi => ?_, ?_⟩
  · rcases h6 with g | g
    · exact (ho.r g.1 (by decide) (hd g.1) i).trans (h5 i hi)
    · omega
  · rcases h6 with g | g
    · exact Or.inl ⟨ho.k g.1 (by decide), by rw [ho.n g.1 (by decide)]; exact g.2⟩
    · exact Or.inr ⟨g.1, g.2.1.trans ho.1.symm, ho.k g.2.2.1 (by decide), by rw [ho.n g.2.2.1 (by decide)]; exact g.2.2.2⟩
theorem p_lsize {S : Hp} {a d n : Nat} {el : Nat → Nat} {Q : Int32 → Hp → Prop} (h : isAL S a d n el) (hq : Q (nI n) S) : wp_Jx4a65c_size_8abf5 S a Q := by
  unfold wp_Jx4a65c_size_8abf5
  rw [h.2.1]
  exact ⟨h.1, hq⟩
theorem p_lget {S : Hp} {a d n i : Nat} {el : Nat → Nat} {Q : Option Nat → Hp → Prop} (h : isAL S a d n el) (hi : i < n) (hq : Q (some (el i)) S) : wp_Jx4a65c_get_915e3 S a (nI i) Q := by
  obtain ⟨h1, h2, h3, h4, h5, h6⟩ := h
  unfold wp_Jx4a65c_get_915e3 wp_J15_checkIndex_7cf53 wp_J3_checkIndex_8e157 wp_Jx4a65c_elementData_915e3
  rw [h2]
  rcases h6 with g | g
  · refine ⟨h1, fun z => absurd z (nI_pos (by omega)), fun _ => ⟨fun _ => ⟨h1, h1, d, h3, g.1, nI_in (by omega) (by omega), ?_⟩, fun z => absurd (nI_lt hi (by omega)) z⟩⟩
    rw [nI_clamp (by omega), h5 i hi]
    exact hq
  · omega
theorem p_ladd {S : Hp} {a d n y : Nat} {el : Nat → Nat} {Q : Int32 → Hp → Prop} (h : isAL S a d n el) (hn : n < 200) (hy : hK S y = 6) (hel : ∀ i, i < n → hK S (el i) = 6)
    (hq : ∀ S' d', (d' = d ∧ hK S d = 20 ∨ hK S d' = 0 ∧ hK S' d' = 20) → On (fun b => b = a ∨ b = d ∧ hK S d = 20) S S' → isAL S' a d' (n + 1) (fun i => if i = n then y else el i) → Q 1 S') : wp_Jx4a65c_add_9ea2d S a (some y) Q := by
  have hne := h.ne
  have hd0 := h.k0
  obtain ⟨h1, h2, h3, h4, h5, h6⟩ := h
  have ha0 : hK S a ≠ 0 := by rw [h1]; decide
  have hy0 : hK S y ≠ 0 := by rw [hy]; decide
  unfold wp_Jx4a65c_add_9ea2d wp_Jx4a65c_add_72be8
  generalize hm : hI S a 0 + 1 = mc
  refine ⟨h1, d, h3, ?_, fun hfull => ?_, fun hnf => ?_⟩
  · rcases h6 with g | g
    · exact Or.inl g.1
    · exact Or.inr g.2.2.1
  · rw [hI_sI, if_neg (by simp), h2, hN_sI] at hfull
    rw [hI_sI, if_neg (by simp), h2]
    unfold wp_Jx4a65c_grow_d5877 wp_Jx4a65c_grow_92f84
    refine ⟨h1, h1, h1, d, h3, ?_, fun x4 hx4 => ⟨_, rfl, fun hpos => ?_, fun hz b7 hb7 => ⟨fun he => ?_, fun he => ?_⟩⟩⟩
    · rcases h6 with g | g
      · exact Or.inl g.1
      · exact Or.inr g.2.2.1
    · rcases h6 with g | g
      · have hnd : n = hN S d := (nI_eq (by omega) (by omega)).mp hfull
        rw [hN_sI, ← hnd] at hx4
        subst hx4
        rw [hI_sI, if_neg (by simp), h2, nI_1, show nI (n + 1) - nI n = nI 1 by rw [pk_sub (by omega)]; congr 1; omega, pk_shrN (by omega) _ 1 (by decide)]
        unfold wp_J8_newLength_cabcc
        intro x1 hx1
        have hx : x1 = nI (n + (if 1 < n / 2 then n / 2 else 1)) := by
          rw [hx1]
          by_cases z : 1 < n / 2
          · rw [if_pos (nI_lt (by omega) (by omega)), if_pos z, nI_add]
          · rw [if_neg (nI_nlt (by omega) (by omega)), if_neg z, nI_add]
        have hbd : (if 1 < n / 2 then n / 2 else 1) ≤ 100 ∧ 1 ≤ (if 1 < n / 2 then n / 2 else 1) := by split <;> omega
        generalize (if 1 < n / 2 then n / 2 else 1) = g1 at hx hbd
        subst hx
        refine ⟨fun z => absurd z (nI_nle (by omega) (by omega)), fun _ => ⟨fun z => absurd z (nI_nlt (a := 2147483639) (b := n + g1) (by omega) (by decide)), fun _ => ⟨h1, ?_⟩⟩⟩
        unfold wp_J7_copyOf_1904c
        rw [nI_clamp (by omega)]
        refine ⟨d, h3, g.1, nI_pos (by omega), by omega, by rw [hN_sI]; omega, fun i y2 hi he2 => ?_, fun q hq0 => ⟨?_, q, rfl, ?_, ?_, y, rfl, ?_, ?_, ?_⟩⟩
        · rw [hN_sI, ← hnd] at hi
          rw [hR_sI, h5 i hi] at he2
          cases he2
          exact hel i hi
        · simp only [hK_sI, hK_sR, hK_sC, hK_sN, hN_sI, hN_sR, hN_sC, hN_sN, hI_sR, hI_sC, hI_sN, hJ_sI, hJ_sR, hJ_sC, hJ_sN]
          rw [if_neg (fun z => ha0 (by rw [z]; exact hq0))]; exact h1
        · simp only [hK_sI, hK_sR, hK_sC, hK_sN, hN_sI, hN_sR, hN_sC, hN_sN, hI_sR, hI_sC, hI_sN, hJ_sI, hJ_sR, hJ_sC, hJ_sN, if_true]
        · simp only [hK_sI, hK_sR, hK_sC, hK_sN, hN_sI, hN_sR, hN_sC, hN_sN, hI_sR, hI_sC, hI_sN, hJ_sI, hJ_sR, hJ_sC, hJ_sN, if_true]
          exact nI_in (by omega) (by omega)
        · simp only [hK_sI, hK_sR, hK_sC, hK_sN, hN_sI, hN_sR, hN_sC, hN_sN, hI_sR, hI_sC, hI_sN, hJ_sI, hJ_sR, hJ_sC, hJ_sN]
          rw [if_neg (fun z => hy0 (by rw [z]; exact hq0))]; exact hy
        · simp only [hK_sI, hK_sR, hK_sC, hK_sN, hN_sI, hN_sR, hN_sC, hN_sN, hI_sR, hI_sC, hI_sN, hJ_sI, hJ_sR, hJ_sC, hJ_sN]
          rw [if_neg (fun z => ha0 (by rw [z]; exact hq0))]; exact h1
        · have hq0 : hK S q = 0 := hq0
          have haq : a ≠ q := fun z => ha0 (by rw [z]; exact hq0)
          have hdq : d ≠ q := fun z => hd0 (by rw [z]; exact hq0)
          rw [nI_clamp (by omega)]
          refine hq _ q (Or.inr ⟨hq0, ?_⟩) ⟨rfl, fun b hb => ?_⟩ ⟨?_, ?_, ?_, by omega, fun i hi => ?_, Or.inl ⟨?_, ?_, ?_, ?_⟩⟩
          · simp only [hK_sI, hK_sR, hK_sC, hK_sN, hN_sI, hN_sR, hN_sC, hN_sN, hI_sR, hI_sC, hI_sN, hJ_sI, hJ_sR, hJ_sC, hJ_sN, if_true]
          · have hbq : b ≠ q := fun z => hb (by rw [z]; exact hq0)
            refine ⟨by simp only [hK_sI, hK_sR, hK_sC, hK_sN, hN_sI, hN_sR, hN_sC, hN_sN, hI_sR, hI_sC, hI_sN, hJ_sI, hJ_sR, hJ_sC, hJ_sN]; rw [if_neg hbq], by simp only [hK_sI, hK_sR, hK_sC, hK_sN, hN_sI, hN_sR, hN_sC, hN_sN, hI_sR, hI_sC, hI_sN, hJ_sI, hJ_sR, hJ_sC, hJ_sN]; rw [if_neg hbq], fun hp => ⟨fun j => ?_, fun j => ?_, fun j => ?_⟩⟩
            · rw [hI_sI, if_neg (fun z => hp (Or.inl z.1))]
              simp only [hK_sI, hK_sR, hK_sC, hK_sN, hN_sI, hN_sR, hN_sC, hN_sN, hI_sR, hI_sC, hI_sN, hJ_sI, hJ_sR, hJ_sC, hJ_sN]
              rw [if_neg hbq, hI_sI, if_neg (fun z => hp (Or.inl z.1))]
            · simp only [hK_sI, hK_sR, hK_sC, hK_sN, hN_sI, hN_sR, hN_sC, hN_sN, hI_sR, hI_sC, hI_sN, hJ_sI, hJ_sR, hJ_sC, hJ_sN]
              rw [if_neg hbq]
            · rw [hR_sI, hR_sR, if_neg (fun z => hbq z.1), hR_sR, if_neg (fun z => hp (Or.inl z.1))]
              rw [hR_sC, if_neg (fun z => hbq z.1), hR_sN, if_neg hbq, hR_sI]
          · simp only [hK_sI, hK_sR, hK_sC, hK_sN, hN_sI, hN_sR, hN_sC, hN_sN, hI_sR, hI_sC, hI_sN, hJ_sI, hJ_sR, hJ_sC, hJ_sN]
            rw [if_neg haq]; exact h1
          · rw [hI_sI, if_pos ⟨rfl, rfl⟩]
          · rw [hR_sI, hR_sR, if_neg (fun z => haq z.1), hR_sR, if_pos ⟨rfl, rfl⟩]
          · show hR _ _ i = some (if i = n then y else el i)
            rw [hR_sI, hR_sR]
            by_cases z : i = n
            · rw [if_pos ⟨rfl, z⟩, if_pos z]
            · rw [if_neg (fun w => z w.2), if_neg z, hR_sR, if_neg (fun w => haq w.1.symm)]
              rw [hR_sC, if_pos ⟨rfl, by rw [hN_sI]; omega⟩, hR_sN, if_neg hdq]
              exact h5 i (by omega)
          · simp only [hK_sI, hK_sR, hK_sC, hK_sN, hN_sI, hN_sR, hN_sC, hN_sN, hI_sR, hI_sC, hI_sN, hJ_sI, hJ_sR, hJ_sC, hJ_sN, if_true]
          · simp only [hK_sI, hK_sR, hK_sC, hK_sN, hN_sI, hN_sR, hN_sC, hN_sN, hI_sR, hI_sC, hI_sN, hJ_sI, hJ_sR, hJ_sC, hJ_sN, if_true]
            omega
          · simp only [hK_sI, hK_sR, hK_sC, hK_sN, hN_sI, hN_sR, hN_sC, hN_sN, hI_sR, hI_sC, hI_sN, hJ_sI, hJ_sR, hJ_sC, hJ_sN, if_true]
            omega
          · simp only [hK_sI, hK_sR, hK_sC, hK_sN, hN_sI, hN_sR, hN_sC, hN_sN, hI_sR, hI_sC, hI_sN, hJ_sI, hJ_sR, hJ_sC, hJ_sN, if_true]
            omega
      · rw [hx4, hN_sI, g.2.2.2] at hpos
        exact absurd hpos (by decide)
    · rcases h6 with g | g
      · have hnd : n = hN S d := (nI_eq (by omega) (by omega)).mp hfull
        rw [hx4, hN_sI, ← hnd] at hz
        exact absurd (nI_lt (a := 0) (b := n) (by omega) (by omega)) hz
      · obtain ⟨g1, g2, g3, g4⟩ := g
        subst g1
        have e10 : (if (10 : Int32) < hI (sI S a 0 mc) a 2 + 1 then hI (sI S a 0 mc) a 2 + 1 else 10) = nI 10 := by
          have e0 : hI (sI S a 0 mc) a 2 = nI 0 := by rw [hI_sI, if_neg (by simp)]; exact h2
          rw [e0]
          rfl
        rw [e10, nI_clamp (by decide)]
        refine ⟨by decide, by decide, fun q hq0 => ⟨?_, q, rfl, ?_, ?_, y, rfl, ?_, ?_, ?_⟩⟩
        · rw [hK_sN, if_neg (fun z => ha0 (by rw [z]; exact hq0))]; exact h1
        · simp only [hK_sI, hK_sR, hK_sC, hK_sN, hN_sI, hN_sR, hN_sC, hN_sN, hI_sR, hI_sC, hI_sN, hJ_sI, hJ_sR, hJ_sC, hJ_sN, if_true]
        · simp only [hK_sI, hK_sR, hK_sC, hK_sN, hN_sI, hN_sR, hN_sC, hN_sN, hI_sR, hI_sC, hI_sN, hJ_sI, hJ_sR, hJ_sC, hJ_sN, if_true]
          exact nI_in (by decide) (by decide)
        · simp only [hK_sI, hK_sR, hK_sC, hK_sN, hN_sI, hN_sR, hN_sC, hN_sN, hI_sR, hI_sC, hI_sN, hJ_sI, hJ_sR, hJ_sC, hJ_sN]
          rw [if_neg (fun z => hy0 (by rw [z]; exact hq0))]; exact hy
        · simp only [hK_sI, hK_sR, hK_sC, hK_sN, hN_sI, hN_sR, hN_sC, hN_sN, hI_sR, hI_sC, hI_sN, hJ_sI, hJ_sR, hJ_sC, hJ_sN]
          rw [if_neg (fun z => ha0 (by rw [z]; exact hq0))]; exact h1
        · have hq0 : hK S q = 0 := hq0
          have haq : a ≠ q := fun z => ha0 (by rw [z]; exact hq0)
          rw [nI_clamp (by decide), nI_1]
          refine hq _ q (Or.inr ⟨hq0, ?_⟩) ⟨rfl, fun b hb => ?_⟩ ⟨?_, ?_, ?_, by omega, fun i hi => ?_, Or.inl ⟨?_, ?_, ?_, ?_⟩⟩
          · simp only [hK_sI, hK_sR, hK_sC, hK_sN, hN_sI, hN_sR, hN_sC, hN_sN, hI_sR, hI_sC, hI_sN, hJ_sI, hJ_sR, hJ_sC, hJ_sN, if_true]
          · have hbq : b ≠ q := fun z => hb (by rw [z]; exact hq0)
            refine ⟨by simp only [hK_sI, hK_sR, hK_sC, hK_sN, hN_sI, hN_sR, hN_sC, hN_sN, hI_sR, hI_sC, hI_sN, hJ_sI, hJ_sR, hJ_sC, hJ_sN]; rw [if_neg hbq], by simp only [hK_sI, hK_sR, hK_sC, hK_sN, hN_sI, hN_sR, hN_sC, hN_sN, hI_sR, hI_sC, hI_sN, hJ_sI, hJ_sR, hJ_sC, hJ_sN]; rw [if_neg hbq], fun hp => ⟨fun j => ?_, fun j => ?_, fun j => ?_⟩⟩
            · rw [hI_sI, if_neg (fun z => hp (Or.inl z.1))]
              simp only [hK_sI, hK_sR, hK_sC, hK_sN, hN_sI, hN_sR, hN_sC, hN_sN, hI_sR, hI_sC, hI_sN, hJ_sI, hJ_sR, hJ_sC, hJ_sN]
              rw [if_neg hbq, hI_sI, if_neg (fun z => hp (Or.inl z.1))]
            · simp only [hK_sI, hK_sR, hK_sC, hK_sN, hN_sI, hN_sR, hN_sC, hN_sN, hI_sR, hI_sC, hI_sN, hJ_sI, hJ_sR, hJ_sC, hJ_sN]
              rw [if_neg hbq]
            · rw [hR_sI, hR_sR, if_neg (fun z => hbq z.1), hR_sR, if_neg (fun z => hp (Or.inl z.1)), hR_sN, if_neg hbq, hR_sI]
          · simp only [hK_sI, hK_sR, hK_sC, hK_sN, hN_sI, hN_sR, hN_sC, hN_sN, hI_sR, hI_sC, hI_sN, hJ_sI, hJ_sR, hJ_sC, hJ_sN]
            rw [if_neg haq]; exact h1
          · rw [hI_sI, if_pos ⟨rfl, rfl⟩]
          · rw [hR_sI, hR_sR, if_neg (fun z => haq z.1), hR_sR, if_pos ⟨rfl, rfl⟩]
          · show hR _ _ i = some (if i = 0 then y else el i)
            rw [hR_sI, hR_sR]
            have z : i = 0 := by omega
            rw [if_pos ⟨rfl, z⟩, if_pos z]
          · simp only [hK_sI, hK_sR, hK_sC, hK_sN, hN_sI, hN_sR, hN_sC, hN_sN, hI_sR, hI_sC, hI_sN, hJ_sI, hJ_sR, hJ_sC, hJ_sN, if_true]
          · simp only [hK_sI, hK_sR, hK_sC, hK_sN, hN_sI, hN_sR, hN_sC, hN_sN, hI_sR, hI_sC, hI_sN, hJ_sI, hJ_sR, hJ_sC, hJ_sN, if_true]
            decide
          · simp only [hK_sI, hK_sR, hK_sC, hK_sN, hN_sI, hN_sR, hN_sC, hN_sN, hI_sR, hI_sC, hI_sN, hJ_sI, hJ_sR, hJ_sC, hJ_sN, if_true]
            decide
          · simp only [hK_sI, hK_sR, hK_sC, hK_sN, hN_sI, hN_sR, hN_sC, hN_sN, hI_sR, hI_sC, hI_sN, hJ_sI, hJ_sR, hJ_sC, hJ_sN, if_true]
            decide
    · rcases h6 with g | g
      · have hnd : n = hN S d := (nI_eq (by omega) (by omega)).mp hfull
        rw [hx4, hN_sI, ← hnd] at hz
        exact absurd (nI_lt (a := 0) (b := n) (by omega) (by omega)) hz
      · exact absurd (by rw [hR_sI, h3, g.2.1]; rfl) he
  · rw [hI_sI, if_neg (by simp), h2, hN_sI] at hnf
    rw [hI_sI, if_neg (by simp), h2]
    rcases h6 with g | g
    · have hlt : n < hN S d := by
        by_cases z : n = hN S d
        · exact absurd (by rw [← z]) hnf
        · omega
      refine ⟨g.1, by rw [hN_sI]; exact nI_in hlt (by omega), y, rfl, hy, h1, ?_⟩
      rw [nI_clamp (by omega), nI_1]
      refine hq _ d (Or.inl ⟨rfl, g.1⟩) ((((Ot.refl _ S).sI (Or.inl rfl)).sR (Or.inr ⟨rfl, g.1⟩)).sI (Or.inl rfl)).on ⟨h1, ?_, ?_, by omega, fun i hi => ?_, Or.inl ⟨g.1, hlt, g.2.2⟩⟩
      · rw [hI_sI, if_pos ⟨rfl, rfl⟩]
      · rw [hR_sI, hR_sR, if_neg (fun z => hne z.1)]; exact h3
      · show hR _ _ i = some (if i = n then y else el i)
        rw [hR_sI, hR_sR]
        by_cases z : i = n
        · rw [if_pos ⟨rfl, z⟩, if_pos z]
        · rw [if_neg (fun w => z w.2), if_neg z]; exact h5 i (by omega)
    · exact absurd (by rw [g.1, g.2.2.2]) hnf
