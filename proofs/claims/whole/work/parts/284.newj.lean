section JW
variable {A : Nat → Nat → Nat} {B : Nat → Nat × Nat} {S : Hp} {nc nw nm nj : Nat} {cw jc : Nat → Nat} {I : FI} {J : FJ} {R : FR} {xs : Nat → Int32} {L : Nat} {l4 : Int32}
/-- the cells of a new job -/
def Nj (n : Nat) (a1 : Int32) (a2 : Option Nat) (a3 a4 : Int32) (S : Hp) (I : FI) (J : FJ) (R : FR) : Prop :=
  (I 3 n 0 = a1 ∧ I 3 n 2 = a3 ∧ I 3 n 3 = a4 ∧ R 3 n 1 = a2 ∧ I 3 n 11 = 0 ∧ I 3 n 12 = 0 ∧ J 3 n 7 = 0) ∧ (I 4 n 2 = 0 ∧ R 4 n 1 = some (hT S) ∧ I 5 n 2 = 0 ∧ R 5 n 1 = some (hT S)) ∧ (∀ p, J 7 n p = 0) ∧ I 8 n 2 = 0 ∧ I 11 n 2 = 0 ∧ (∀ p, I 14 n p = 0) ∧ ∀ p, p < 8 → I 16 n p = wpd p
theorem new_j {q : Nat} {a1 a3 a4 : Int32} {a2 : Option Nat} {Q : Hp → Prop} (h : Sh A B S nj nc) (h0 : hK S q = 0) (hk : ∀ A1 B1 S1 I1 J1 R1, Sh A1 B1 S1 (nj + 1) nc → Rl A S nj nc I J R A1 S1 I1 J1 R1 → A1 3 nj = q → Nj nj a1 a2 a3 a4 S1 I1 J1 R1 → Q (hq A1 B1 S1 I1 J1 R1)) : wp_X4_init (sN (hq A B S I J R) q 6 0) q a1 a2 a3 a4 Q := by
  have l0 : LB A B (Ld A S nj nc) (hq A B S I J R) := h.lb
  obtain ⟨A0, B0, m0⟩ := Lp.new (T' := sN (hq A B S I J R) q 6 0) (x := q) (c0 := 3) (i0 := nj) l0 h0 (by decide) (by simp [hK_sN]) (fun a ha => by
    simp only [hK_sN]
    by_cases e : a = q
    · simp [e]
    · simp only [e, if_false]; exact ha)
  have k0 : Kp (hq A B S I J R) (sN (hq A B S I J R) q 6 0) := (On.refl _ _).new h0
  have z0 : hK (sN (hq A B S I J R) q 6 0) q = 6 ∧ (∀ p, hI (sN (hq A B S I J R) q 6 0) q p = 0) ∧ ∀ p, hJ (sN (hq A B S I J R) q 6 0) q p = 0 := by simp [hK_sN, hI_sN, hJ_sN]
  generalize sN (hq A B S I J R) q 6 0 = T0 at *
  unfold wp_X4_init
  intro x1 f1
  refine s_AL (k := 4) (c0 := 4) (i0 := nj) m0 (by decide) z0.1 f1 (fun S1 T1 A1 B1 e1 kq1 m1 s1 r1 => ⟨kq1, fun x2 f2 => ?_⟩)
  rw [← e1] at f2 ⊢
  refine s_AL (k := 5) (c0 := 5) (i0 := nj) m1 (by decide) s1.2.2.2.2 f2 (fun S2 T2 A2 B2 e2 kq2 m2 s2 r2 => ⟨kq2, fun x3 f3 => ?_⟩)
  rw [← e2] at f3 ⊢
  refine s_JS (k := 6) (i0 := nj) m2 s2.2.2.2.2 f3 (fun S3 T3 w3 A3 B3 e3 kq3 m3 s3 r3 fw3 => ⟨kq3, fun x4 f4 => ?_⟩)
  rw [← e3] at f4 ⊢
  refine s_AM (k := 8) (c0 := 8) (i0 := nj) m3 (by decide) s3.2.2.2.2 f4 (fun S4 T4 u1 u2 A4 B4 e4 kq4 m4 s4 r4 => ⟨kq4, fun x5 f5 => ?_⟩)
  rw [← e4] at f5 ⊢
  refine s_AM (k := 9) (c0 := 11) (i0 := nj) m4 (by decide) s4.2.2.2.2 f5 (fun S5 T5 v1 v2 A5 B5 e5 kq5 m5 s5 r5 => ⟨kq5, fun x6 f6 => ?_⟩)
  rw [← e5] at f6 ⊢
  refine s_RC (k := 10) (i0 := nj) m5 s5.2.2.2.2 f6 (fun S6 T6 w6 A6 B6 e6 kq6 m6 s6 r6 => ⟨kq6, fun x7 f7 => ?_⟩)
  rw [← e6] at f7 ⊢
  refine s_TR (k := 15) (i0 := nj) m6 s6.2.2.2.2 f7 (fun S7 T7 A7 B7 e7 kq7 m7 s7 r7 => ⟨kq7, ?_⟩)
  rw [← e7]
  clear e1 e2 e3 e4 e5 e6 e7 kq1 kq2 kq3 kq4 kq5 kq6 kq7 m1 m2 m3 m4 m5 m6
  have o8 : On (fun b => b = q) T7 (sI (sI (sR (sI T7 q 0 a1) q 1 a2) q 2 a3) q 3 a4) := ⟨rfl, fun b hb => ⟨rfl, rfl, fun hbq => ⟨fun j => by simp [hI_sI, hI_sR, hbq], fun j => by simp [hJ_sI, hJ_sR], fun j => by simp [hR_sI, hR_sR, hbq]⟩⟩⟩
  have d8 : (∀ p, hI (sI (sI (sR (sI T7 q 0 a1) q 1 a2) q 2 a3) q 3 a4) q p = if p = 3 then a4 else if p = 2 then a3 else if p = 0 then a1 else hI T7 q p) ∧ (∀ p, hJ (sI (sI (sR (sI T7 q 0 a1) q 1 a2) q 2 a3) q 3 a4) q p = hJ T7 q p) ∧ ∀ p, hR (sI (sI (sR (sI T7 q 0 a1) q 1 a2) q 2 a3) q 3 a4) q p = if p = 1 then a2 else hR T7 q p := ⟨fun p => by simp [hI_sI, hI_sR], fun p => by simp [hJ_sI, hJ_sR], fun p => by simp [hR_sI, hR_sR]⟩
  generalize sI (sI (sR (sI T7 q 0 a1) q 1 a2) q 2 a3) q 3 a4 = T8 at *
  obtain ⟨di, dj, dr⟩ := d8
  have iz : ∀ p, hI T7 q p = 0 := fun p => by rw [s7.2.1, s6.2.1, s5.2.1, s4.2.1, s3.2.1, s2.2.1, s1.2.1, z0.2.1]
  have jz : ∀ p, hJ T7 q p = 0 := fun p => by rw [s7.2.2.1, s6.2.2.1, s5.2.2.1, s4.2.2.1, s3.2.2.1, s2.2.2.1, s1.2.2.1, z0.2.2]
  have rr : ∀ p, hR T8 q p = if p = 1 then a2 else if p = 15 then some x7 else if p = 10 then some x6 else if p = 9 then some x5 else if p = 8 then some x4 else if p = 6 then some x3 else if p = 5 then some x2 else if p = 4 then some x1 else hR T0 q p := fun p => by rw [dr, s7.2.2.2.1, s6.2.2.2.1, s5.2.2.2.1, s4.2.2.2.1, s3.2.2.2.1, s2.2.2.2.1, s1.2.2.2.1]
  have c6 := s7.1.trans o8
  have c5 := s6.1.trans c6
  have c4 := s5.1.trans c5
  have c3 := s4.1.trans c4
  have c2 := s3.1.trans c3
  have c1 := s2.1.trans c2
  have c0 := s1.1.trans c1
  have kq8 : hK T8 q = 6 := c0.k z0.1 (by decide)
  have ne : ∀ {T : Hp} {x : Nat}, hK T q = 6 → hK T x = 0 → ¬ x = q := fun a b z => by rw [z, a] at b; exact absurd b (by decide)
  have R1 : AL1 T8 x1 := r1.on c1 (ne z0.1 f1)
  have R2 : AL1 T8 x2 := r2.on c2 (ne s1.2.2.2.2 f2)
  have R3 : JS1 T8 x3 w3 := r3.on c3 (ne s2.2.2.2.2 f3) (ne s2.2.2.2.2 fw3)
  have R4 : AM1 T8 x4 u1 u2 := r4.on c4 (ne s3.2.2.2.2 f4)
  have R5 : AM1 T8 x5 v1 v2 := r5.on c5 (ne s4.2.2.2.2 f5)
  have R6 : RC1 T8 x6 w6 := r6.on c6 (ne s5.2.2.2.2 f6)
  have R7 : TR1 T8 x7 := r7.on o8 (ne s6.2.2.2.2 f7)
  have kp : Kp (hq A B S I J R) T8 := ⟨c0.1.trans k0.1, fun b hb => by
    obtain ⟨p1, p2, p3⟩ := k0.2 b hb
    obtain ⟨p4, p5, p6⟩ := p3 id
    obtain ⟨g1, g2, g3⟩ := c0.2 b (by rw [p1]; exact hb)
    obtain ⟨g4, g5, g6⟩ := g3 (fun z => hb (by rw [z]; exact h0))
    exact ⟨g1.trans p1, g2.trans p2, fun _ => ⟨fun j => (g4 j).trans (p4 j), fun j => (g5 j).trans (p5 j), fun j => (g6 j).trans (p6 j)⟩⟩⟩
  have m8 := m7.on o8
  have hL : ∀ c i a, Ld A S nj nc c i a → ¬ (3 ≤ c ∧ i = nj) := by
    rintro c i a ⟨-, u | ⟨hc, hi, -⟩⟩ ⟨z1, z2⟩
    · rcases u with ⟨z, -⟩ | ⟨z, -⟩ | ⟨z, -⟩ | ⟨-, z⟩ <;> omega
    · omega
  obtain ⟨s8, l8⟩ := rl_of (I := I) (J := J) (R := R) h kp m8 (fun c i a z => by
    have hu := hL c i a z
    repeat (refine Or.inr ⟨?_, fun z => hu ⟨by omega, z.2⟩⟩)
    exact z)
  have y3 : A7 3 nj = q := (m8.2 3 nj q (by simp [Lp])).2.1
  have y4 : A7 4 nj = x1 := (m8.2 4 nj x1 (by simp [Lp])).2.1
  have y5 : A7 5 nj = x2 := (m8.2 5 nj x2 (by simp [Lp])).2.1
  have y6 : A7 6 nj = x3 := (m8.2 6 nj x3 (by simp [Lp])).2.1
  have y7 : A7 7 nj = w3 := (m8.2 7 nj w3 (by simp [Lp])).2.1
  have y8 : A7 8 nj = x4 := (m8.2 8 nj x4 (by simp [Lp])).2.1
  have y9 : A7 9 nj = u1 := (m8.2 9 nj u1 (by simp [Lp])).2.1
  have y10 : A7 10 nj = u2 := (m8.2 10 nj u2 (by simp [Lp])).2.1
  have y11 : A7 11 nj = x5 := (m8.2 11 nj x5 (by simp [Lp])).2.1
  have y12 : A7 12 nj = v1 := (m8.2 12 nj v1 (by simp [Lp])).2.1
  have y13 : A7 13 nj = v2 := (m8.2 13 nj v2 (by simp [Lp])).2.1
  have y14 : A7 14 nj = x6 := (m8.2 14 nj x6 (by simp [Lp])).2.1
  have y15 : A7 15 nj = w6 := (m8.2 15 nj w6 (by simp [Lp])).2.1
  have y16 : A7 16 nj = x7 := (m8.2 16 nj x7 (by simp [Lp])).2.1
  have fin := hk A7 B7 T8 _ _ _ ?_ l8 y3 ?_
  · rw [hq_self] at fin; exact fin
  · obtain ⟨b1, b2, b3, b4, b5, b6, b7, b8⟩ := s8
    refine ⟨b1, b2, b3, b4, fun c i hi hc => ?_, b6, b7, fun j hj t ht => ?_⟩
    · by_cases e : i = nj
      · subst e
        have := jk_lt hc
        have : c = 3 ∨ c = 4 ∨ c = 5 ∨ c = 6 ∨ c = 7 ∨ c = 8 ∨ c = 9 ∨ c = 10 ∨ c = 11 ∨ c = 12 ∨ c = 13 ∨ c = 14 ∨ c = 15 ∨ c = 16 := by omega
        rcases this with rfl | rfl | rfl | rfl | rfl | rfl | rfl | rfl | rfl | rfl | rfl | rfl | rfl | rfl
        · rw [y3]; exact ⟨kq8, fun z => absurd rfl z⟩
        · rw [y4]; exact ⟨R1.1, fun z => absurd rfl z⟩
        · rw [y5]; exact ⟨R2.1, fun z => absurd rfl z⟩
        · rw [y6]; exact ⟨R3.1, fun z => absurd rfl z⟩
        · rw [y7]; exact ⟨R3.2.2.1, fun _ => R3.2.2.2.1⟩
        · rw [y8]; exact ⟨R4.1, fun z => absurd rfl z⟩
        · rw [y9]; exact ⟨R4.2.2.2.2.1, fun _ => R4.2.2.2.2.2.1⟩
        · rw [y10]; exact ⟨R4.2.2.2.2.2.2.1, fun _ => R4.2.2.2.2.2.2.2⟩
        · rw [y11]; exact ⟨R5.1, fun z => absurd rfl z⟩
        · rw [y12]; exact ⟨R5.2.2.2.2.1, fun _ => R5.2.2.2.2.2.1⟩
        · rw [y13]; exact ⟨R5.2.2.2.2.2.2.1, fun _ => R5.2.2.2.2.2.2.2⟩
        · rw [y14]; exact ⟨R6.1, fun z => absurd rfl z⟩
        · rw [y15]; exact ⟨R6.2.2.2.1, fun _ => R6.2.2.2.2⟩
        · rw [y16]; exact ⟨R7.1, fun z => absurd rfl z⟩
      · exact b5 c i (by omega) hc
    · by_cases e : j = nj
      · subst e
        simp only [jp, List.mem_cons, List.not_mem_nil, or_false] at ht
        rcases ht with rfl | rfl | rfl | rfl | rfl | rfl | rfl | rfl | rfl | rfl | rfl | rfl | rfl
        · show hR T8 (A7 3 j) 4 = some (A7 4 j); rw [y3, y4, rr]; rfl
        · show hR T8 (A7 3 j) 5 = some (A7 5 j); rw [y3, y5, rr]; rfl
        · show hR T8 (A7 3 j) 6 = some (A7 6 j); rw [y3, y6, rr]; rfl
        · show hR T8 (A7 3 j) 8 = some (A7 8 j); rw [y3, y8, rr]; rfl
        · show hR T8 (A7 3 j) 9 = some (A7 11 j); rw [y3, y11, rr]; rfl
        · show hR T8 (A7 3 j) 10 = some (A7 14 j); rw [y3, y14, rr]; rfl
        · show hR T8 (A7 3 j) 15 = some (A7 16 j); rw [y3, y16, rr]; rfl
        · show hR T8 (A7 6 j) 0 = some (A7 7 j); rw [y6, y7]; exact R3.2.1
        · show hR T8 (A7 8 j) 0 = some (A7 9 j); rw [y8, y9]; exact R4.2.1
        · show hR T8 (A7 8 j) 1 = some (A7 10 j); rw [y8, y10]; exact R4.2.2.1
        · show hR T8 (A7 11 j) 0 = some (A7 12 j); rw [y11, y12]; exact R5.2.1
        · show hR T8 (A7 11 j) 1 = some (A7 13 j); rw [y11, y13]; exact R5.2.2.1
        · show hR T8 (A7 14 j) 3 = some (A7 15 j); rw [y14, y15]; exact R6.2.1
      · exact b8 j (by omega) t ht
  · unfold Nj
    simp only [y3, y4, y5, y7, y8, y11, y14, y16]
    refine ⟨⟨?_, ?_, ?_, ?_, ?_, ?_, ?_⟩, ⟨R1.2.1, R1.2.2, R2.2.1, R2.2.2⟩, R3.2.2.2.2, R4.2.2.2.1, R5.2.2.2.1, R6.2.2.1, R7.2⟩
    · rw [di]; rfl
    · rw [di]; rfl
    · rw [di]; rfl
    · rw [rr]; rfl
    · rw [di]; exact iz 11
    · rw [di]; exact iz 12
    · rw [dj]; exact jz 7
end JW
