section F3
variable {A : Nat → Nat → Nat} {B : Nat → Nat × Nat} {S : Hp} {nc nw nm nj : Nat} {cw jc : Nat → Nat} {I : FI} {J : FJ} {R : FR} {xs : Nat → Int32} {L : Nat} {l4 : Int32}
def gF (n c i p : Nat) : Bool := !((c == 0 && ((i == 1 && p == 7) || (i == 23 && (p == 0 || p == 4 || decide (22 ≤ p))))) || (c == 1 && (i == 7 || i == 8 || i == 9 || i == 15 || i == 19 || i == 20) && p == n))
theorem fin3 {I2 : FI} {R2 : FR} {c k : Nat} {a2 a3 : Int32} {od : Nat → Nat} (hs : vSt A S nc nw nm nj cw jc I J R) (hn : nj < 200) (hcn : c < nc) (za : 1 ≤ a2.toInt ∧ a2.toInt ≤ 10000) (nn : Nj nj (nI nj) (some (A 2 c)) a2 a3 S I J R) (gI : Ag (gF nj) I I2) (gR : Ag (fun c i _ => !(c == 0 && (i == 8 || i == 7))) R R2)
  (v : I2 0 1 7 = nI (nj + 1) ∧ I2 0 23 4 = nI (nj + 1) ∧ I2 1 7 nj = nI c ∧ I2 1 8 nj = a2 ∧ I2 1 9 nj = a3 ∧ I2 1 15 nj = 0 ∧ I2 1 19 nj = -1 ∧ I2 1 20 nj = 0) (r7 : ∀ j, j ≤ nj → R2 0 7 j = some (A 3 j)) (hk : k ≤ nj)
  (o1 : ∀ t, t < nj → od t < nj) (o2 : ∀ s t, s < t → t < nj → ahd jc (I 1 9) (od s) (od t)) (o3 : ∀ j, j < nj → ∃ t, t < nj ∧ od t = j) (q0 : R2 0 8 k = some (A 3 nj)) (q1 : ∀ t, t < k → R2 0 8 t = some (A 3 (od t))) (q2 : ∀ t, k < t → t ≤ nj → R2 0 8 t = some (A 3 (od (t - 1)))) (q3 : ∀ s, k ≤ s → s < nj → ahd (fun j => if j = nj then c else jc j) (fun j => if j = nj then a3 else I 1 9 j) nj (od s)) (q4 : k = 0 ∨ ¬ ahd (fun j => if j = nj then c else jc j) (fun j => if j = nj then a3 else I 1 9 j) nj (od (k - 1))) :
  vSt A S nc nw nm (nj + 1) cw (fun j => if j = nj then c else jc j) I2 J R2 := by
  obtain ⟨h0, h1, h2, h3, h4, h5, h6, h7, h8, h9, h10, h11, h12, h13⟩ := hs; obtain ⟨c1, c2, c3, c4, c5, c6, c7, c8⟩ := id h1
  obtain ⟨⟨t1, t2, t3, t4, t5, t6, t7⟩, ⟨l1, l2, l3, l4⟩, t8, t9, t10, t11, t12⟩ := nn
  obtain ⟨v1, v2, v3, v4, v5, v6, v7, v8⟩ := v
  obtain ⟨n1, n2, n3, n4, n5, n6⟩ := h0
  have jc0 : ∀ j, j < nj → (if j = nj then c else jc j) = jc j := fun j hj => if_neg (by omega)
  have i10 : I2 1 10 = I 1 10 := funext fun p => gI 1 10 p rfl
  have i11 : I2 1 11 = I 1 11 := funext fun p => gI 1 11 p rfl
  have i12 : I2 1 12 = I 1 12 := funext fun p => gI 1 12 p rfl
  have i13 : I2 1 13 = I 1 13 := funext fun p => gI 1 13 p rfl
  have i14 : I2 1 14 = I 1 14 := funext fun p => gI 1 14 p rfl
  have i16 : I2 1 16 = I 1 16 := funext fun p => gI 1 16 p rfl
  have i17 : I2 1 17 = I 1 17 := funext fun p => gI 1 17 p rfl
  have i18 : I2 1 18 = I 1 18 := funext fun p => gI 1 18 p rfl
  have i21 : I2 1 21 = I 1 21 := funext fun p => gI 1 21 p rfl
  have i6 : I2 1 6 = I 1 6 := funext fun p => gI 1 6 p rfl
  have i9 : I2 1 9 = fun j => if j = nj then a3 else I 1 9 j := funext fun j => by
    by_cases e : j = nj
    · subst e; simp [v5]
    · simp only [e, if_false]; exact gI 1 9 j (by simp [gF, e])
  have ij : ∀ a, 1 < a → ∀ j, I2 a j = I a j := fun a ha j => funext fun p => gI a j p (by simp [gF]; omega)
  have im : ∀ a j, j < nj → I2 1 a j = I 1 a j := fun a j hj => gI 1 a j (by simp [gF]; omega)
  have ah0 : ∀ a b, a < nj → b < nj → ahd jc (I 1 9) a b → ahd (fun j => if j = nj then c else jc j) (fun j => if j = nj then a3 else I 1 9 j) a b := fun a b ha hb z => by
    unfold ahd at *
    simp only [show ¬ a = nj by omega, show ¬ b = nj by omega, if_false]
    exact z
  obtain ⟨z1, z2, z3, z4⟩ := h13
  refine ⟨⟨n1, n2, n3, by omega, n5, fun j hj => ?_⟩, ?_, ?_, fun j hj => ?_, ?_, ?_, ?_, fun j m hj hm => ?_, fun j hj => ?_, fun j hj => ?_, fun j hj => ?_, fun j hj => ?_, ?_, ?_⟩
  · show (if j = nj then c else jc j) < nc
    by_cases e : j = nj
    · rw [if_pos e]; exact hcn
    · rw [if_neg e]; exact n6 j (by omega)
  · unfold vCnt
    rw [gI 0 1 1 rfl, gI 0 1 2 rfl, gI 0 1 3 rfl, v1, gI 0 23 1 rfl, gI 0 23 2 rfl, gI 0 23 3 rfl, v2]
    exact ⟨c1, c2, c3, rfl, c5, c6, c7, rfl⟩
  · intro d hd
    have i5 : I2 1 5 d = I 1 5 d := gI 1 5 d rfl
    rw [gR 0 5 d rfl, ij 2 (by decide), i5]
    exact h2 d hd
  · rw [r7 j (by omega), gR 3 j 1 rfl, ij 3 (by decide)]
    by_cases e : j = nj
    · subst e
      rw [v3, v4, v5, t1, t2, t3, t4]
      simp only [if_true]
      exact ⟨trivial, trivial, trivial, trivial, trivial, za.1, za.2, trivial⟩
    · have hj2 : j < nj := by omega
      rw [im 7 j hj2, im 8 j hj2, im 9 j hj2]
      simp only [e, if_false]
      obtain ⟨w1, w2⟩ := h3 j hj2
      exact ⟨trivial, w2⟩
  · rw [vOd, i9]
    refine ⟨fun t => if t < k then od t else if t = k then nj else od (t - 1), fun t ht => ?_, fun s t hst ht => ?_, fun j hj => ?_⟩
    · by_cases e1 : t < k
      · simp only [e1, if_true]; exact ⟨by have := o1 t (by omega); omega, q1 t e1⟩
      · by_cases e2 : t = k
        · subst e2; simp only [Nat.lt_irrefl, if_false, if_true]; exact ⟨by omega, q0⟩
        · simp only [e1, e2, if_false]; exact ⟨by have := o1 (t - 1) (by omega); omega, q2 t (by omega) (by omega)⟩
    · have o2' : ∀ s t, s < t → t < nj → ahd (fun j => if j = nj then c else jc j) (fun j => if j = nj then a3 else I 1 9 j) (od s) (od t) := fun s t a b => ah0 _ _ (o1 s (by omega)) (o1 t b) (o2 s t a b)
      by_cases e1 : t < k
      · have e0 : s < k := by omega
        simp only [e1, e0, if_true]; exact o2' s t hst (by omega)
      · by_cases e2 : t = k
        · subst e2
          simp only [Nat.lt_irrefl, hst, if_false, if_true]
          rcases q4 with q4 | q4
          · omega
          · have e3 := ahd_of q4 (by have := o1 (t - 1) (by omega); omega)
            by_cases e4 : s = t - 1
            · rw [e4]; exact e3
            · exact ahd_tr (o2' s (t - 1) (by omega) (by omega)) e3
        · by_cases e3 : s < k
          · simp only [e1, e2, e3, if_false, if_true]; exact o2' s (t - 1) (by omega) (by omega)
          · by_cases e4 : s = k
            · subst e4; simp only [e1, e2, Nat.lt_irrefl, if_false, if_true]; exact q3 (t - 1) (by omega) (by omega)
            · simp only [e1, e2, e3, e4, if_false]; exact o2' (s - 1) (t - 1) (by omega) (by omega)
    · by_cases e : j = nj
      · refine ⟨k, by omega, ?_⟩
        simp only [Nat.lt_irrefl, if_false, if_true]; exact e.symm
      · obtain ⟨t, ht, et⟩ := o3 j (by omega)
        by_cases e1 : t < k
        · refine ⟨t, by omega, ?_⟩
          simp only [e1, if_true]; exact et
        · refine ⟨t + 1, by omega, ?_⟩
          simp only [show ¬ t + 1 < k by omega, show ¬ t + 1 = k by omega, if_false]; exact et
  · obtain ⟨hE, bn, bl, an, al, b1, b2, b3, b4, b5⟩ := h5
    have b1' : ∀ j, j < nj → ∀ i, i < bn j → bl j i < nj := fun j hj i hi => ((b1 j hj).2.2.2 i hi).1
    have b2' : ∀ j, j < nj → ∀ i, i < an j → al j i < nj := fun j hj i hi => ((b2 j hj).2.2.2 i hi).1
    refine ⟨hE, fun j => if j = nj then 0 else bn j, bl, fun j => if j = nj then 0 else an j, al, fun j hj => ?_, fun j hj => ?_, fun j b hj hb => ?_, fun j i i' hj => ?_, fun j i i' hj => ?_⟩
    · rw [ij 4 (by decide), gR 4 j 1 rfl]
      by_cases e : j = nj
      · subst e; simp [l1, l2, hE]; rfl
      · simp only [e, if_false]
        obtain ⟨y1, y2, y3, y4⟩ := b1 j (by omega)
        exact ⟨y1, y2, y3, fun i hi => by rw [gR 17 j i rfl]; exact ⟨by have := (y4 i hi).1; omega, (y4 i hi).2⟩⟩
    · rw [ij 5 (by decide), gR 5 j 1 rfl]
      by_cases e : j = nj
      · subst e; simp [l3, l4, hE]; rfl
      · simp only [e, if_false]
        obtain ⟨y1, y2, y3, y4⟩ := b2 j (by omega)
        exact ⟨y1, y2, y3, fun i hi => by rw [gR 18 j i rfl]; exact ⟨by have := (y4 i hi).1; omega, (y4 i hi).2⟩⟩
    · rw [i10]
      by_cases e : j = nj ∨ b = nj
      · have y := (z1 j b (by omega) (by omega) (by omega)).1
        rw [y]
        refine ⟨Or.inl rfl, ⟨fun z => absurd z (by decide), ?_⟩, ⟨fun z => absurd z (by decide), ?_⟩⟩
        · rintro ⟨i, hi, hb2⟩
          by_cases e2 : j = nj
          · simp [e2] at hi
          · simp only [e2, if_false] at hi
            have := b1' j (by omega) i hi
            omega
        · rintro ⟨i, hi, hb2⟩
          by_cases e2 : b = nj
          · simp [e2] at hi
          · simp only [e2, if_false] at hi
            have := b2' b (by omega) i hi
            omega
      · simp only [show ¬ j = nj by omega, show ¬ b = nj by omega, if_false]
        exact b3 j b (by omega) (by omega)
    · by_cases e : j = nj
      · simp [e]
      · simp only [e, if_false]; exact b4 j i i' (by omega)
    · by_cases e : j = nj
      · simp [e]
      · simp only [e, if_false]; exact b5 j i i' (by omega)
  · obtain ⟨y1, y2, y3, y4, y5⟩ := h6
    rw [vLn, i10, i11]
    refine ⟨fun j m hj hm => ?_, fun j m hj hm => ?_, fun j hj => ?_, fun j m p hj hm hp e1 e2 => ?_, fun j m hj hm e1 => ?_⟩
    · by_cases e : j = nj
      · subst e
        rw [t8]
        have : ∀ x : Nat, jb 0 x = false := fun x => by simp [jb]
        rw [this]
        by_cases e2 : m < j + 1
        · rw [(z1 j m hn (by omega) (Or.inl (Nat.le_refl _))).2]; simp
        · simp [e2]
      · rw [y1 j m (by omega) hm]
        by_cases e2 : m = nj
        · subst e2; rw [(z1 j m (by omega) hn (Or.inr (Nat.le_refl _))).2]; simp
        · simp [show m < nj ↔ m < nj + 1 by omega]
    · by_cases e : j = nj ∨ m = nj
      · exact Or.inl (z1 j m (by omega) (by omega) (by omega)).2
      · exact y2 j m (by omega) (by omega)
    · by_cases e : j = nj
      · exact (z1 j j (by omega) (by omega) (by omega)).2
      · exact y3 j (by omega)
    · by_cases e : j = nj ∨ m = nj
      · rw [(z1 j m (by omega) (by omega) (by omega)).2] at e1; exact absurd e1 (by decide)
      · by_cases e' : p = nj
        · rw [(z1 m p (by omega) (by omega) (by omega)).2] at e2; exact absurd e2 (by decide)
        · exact y4 j m p (by omega) (by omega) (by omega) e1 e2
    · by_cases e : j = nj ∨ m = nj
      · rw [(z1 j m (by omega) (by omega) (by omega)).1] at e1; exact absurd e1 (by decide)
      · exact y5 j m (by omega) (by omega) e1
  · rw [i12]
    by_cases e : j = nj
    · subst e
      rw [t7]
      have : ∀ x : Nat, jb 0 x = false := fun x => by simp [jb]
      rw [this]
      refine ⟨fun y => Or.inl (z2 j m hn y (Or.inl (Nat.le_refl _))), ?_⟩
      by_cases e2 : m < 40
      · rw [z2 j m hn e2 (Or.inl (Nat.le_refl _))]; simp
      · simp [e2]
    · exact h7 j m (by omega) hm
  · rw [i13, ij 8 (by decide), ij (8 + 1) (by decide), ij (8 + 2) (by decide)]
    by_cases e : j = nj
    · subst e
      refine ⟨⟨0, fun _ => 0, t9, ?_⟩, fun s hs => ?_⟩
      · exact ⟨by decide, fun i hi => absurd hi (by omega), fun i _ hi => absurd hi (by omega), fun s hs y => absurd (z3 j s hn hs (Nat.le_refl _)).1 y⟩
      · rw [(z3 j s hn hs (Nat.le_refl _)).1]; decide
    · exact h8 j (by omega)
  · rw [i14, ij 11 (by decide), ij (11 + 1) (by decide), ij (11 + 2) (by decide)]
    by_cases e : j = nj
    · subst e
      refine ⟨⟨0, fun _ => 0, t10, ?_⟩, fun s hs => ?_⟩
      · exact ⟨by decide, fun i hi => absurd hi (by omega), fun i _ hi => absurd hi (by omega), fun s hs y => absurd (z3 j s hn hs (Nat.le_refl _)).2 y⟩
      · rw [(z3 j s hn hs (Nat.le_refl _)).2]; decide
    · exact h9 j (by omega)
  · rw [i16, i17, i18, ij 14 (by decide), ij 15 (by decide)]
    by_cases e : j = nj
    · subst e
      rw [v6, v7, t11, t11, t11, t11, (z4 j hn (Nat.le_refl _)).1, (z4 j hn (Nat.le_refl _)).2]
      exact ⟨⟨0, by decide, rfl, rfl, fun i hi => absurd hi (by omega)⟩, rfl, rfl, rfl, Or.inl rfl⟩
    · rw [im 15 j (by omega), im 19 j (by omega)]
      exact h10 j (by omega)
  · rw [i21, ij 3 (by decide)]
    by_cases e : j = nj
    · subst e
      rw [v8, v4, t5]
      exact ⟨rfl, by decide, by have : (0 : Int32).toInt = 0 := rfl; omega, fun z => absurd z (by decide)⟩
    · rw [im 8 j (by omega), im 20 j (by omega)]
      exact h11 j (by omega)
  · intro s hs
    rw [i6]; exact h12 s hs
  · rw [vZr, i10, i11, i12, i13, i14, i16, i17]
    exact ⟨fun j b a1 a2 a3 => z1 j b a1 a2 (by omega), fun j m a1 a2 a3 => z2 j m a1 a2 (by omega), fun j s a1 a2 a3 => z3 j s a1 a2 (by omega), fun j a1 a2 => z4 j a1 (by omega)⟩
end F3
