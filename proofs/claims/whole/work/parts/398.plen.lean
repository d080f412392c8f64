def leI (c i _p : Nat) : Bool := c == 1 && (i == 46 || i == 47)
/-- the reference reckons lengths -/
def lX (A : Nat → Nat → Nat) (B : Nat → Nat × Nat) (S : Hp) (nc nw nm nj : Nat) (cw jc : Nat → Nat) (E : FI) (J : FJ) (R : FR) (I : FI) : Prop := Sh A B S nj nc ∧ vSt A S nc nw nm nj cw jc E J R ∧ Ag (fun c i p => !leI c i p) E I
theorem mxI_p (f : Nat → Int32) : ∀ n, mxp f n (mxI n f) := by
  intro n
  induction n with
  | zero => exact mxp_0 f
  | succ n ih => rw [mxI]; exact mxp_s ih
theorem pS_u {nj : Nat} {mn T a : Nat → Int} {e : Nat → Nat → Prop} (hs : pSol nj mn e T) (mp : ∀ j, j < nj → 1 ≤ mn j) (h1 : ∀ j, j < nj → mn j ≤ a j ∧ a j ≤ T j) (h2 : ∀ j k, j < nj → k < nj → e j k → mn j + a k ≤ a j) : ∀ j, j < nj → a j = T j := by
  have key : ∀ m j, j < nj → (T j).toNat < m → a j = T j := by
    intro m
    induction m with
    | zero => intro j _ h; omega
    | succ m ih =>
      intro j hj hm
      obtain ⟨s1, s2, s3⟩ := hs j hj
      have := mp j hj
      have := h1 j hj
      rcases s3 with w | ⟨k, hk, he, w⟩
      · omega
      · have sk := (hs k hk).1
        have := mp k hk
        have := ih k hk (by omega)
        have := h2 j k hj hk he
        omega
  exact fun j hj => key _ j hj (Nat.lt_succ_self _)
section PL
variable {A : Nat → Nat → Nat} {B : Nat → Nat × Nat} {S : Hp} {nc nw nm nj : Nat} {cw jc : Nat → Nat} {I : FI} {J : FJ} {R : FR} {xs : Nat → Int32} {L : Nat} {l4 : Int32}
variable {E : FI} {tc hc : Nat → Int32} {Q : Int32 → Hp → Prop}
theorem lX.e (h : lX A B S nc nw nm nj cw jc E J R I) {k : Nat} (hk : k < 26) (p : Nat) : I 1 k p = E 1 k p := h.2.2 1 k p (by simp [leI]; omega)
theorem lX.c (h : lX A B S nc nw nm nj cw jc E J R I) : I 0 23 4 = nI nj := (h.2.2 0 23 4 rfl).trans h.2.1.2.1.2.2.2.2.2.2.2
theorem lX.n4 (h : lX A B S nc nw nm nj cw jc E J R I) : nj ≤ 200 := h.2.1.1.2.2.2.1
theorem lX.up (h : lX A B S nc nw nm nj cw jc E J R I) {c i p : Nat} {v : Int32} (hd : leI c i p = true) : lX A B S nc nw nm nj cw jc E J R (up3 I c i p v) := ⟨h.1, h.2.1, h.2.2.up (by show (!leI c i p) = false; rw [hd]; rfl)⟩
theorem lX.mn (h : lX A B S nc nw nm nj cw jc E J R I) {j : Nat} (hj : j < nj) : 1 ≤ (E 1 8 j).toInt ∧ (E 1 8 j).toInt ≤ 10000 := ⟨(h.2.1.2.2.2.1 j hj).2.2.2.2.2.1, (h.2.1.2.2.2.1 j hj).2.2.2.2.2.2.1⟩
theorem lX.b (h : lX A B S nc nw nm nj cw jc E J R I) {j b : Nat} (hj : j < nj) (hb : b < nj) : E 1 10 (200 * j + b) = 0 ↔ ¬ E 1 10 (200 * j + b) = 1 := by
  obtain ⟨-, bn, bl, an, al, -, -, y3, -⟩ := h.2.1.2.2.2.2.2.1
  exact ⟨fun z => by rw [z]; decide, fun z => (y3 j b hj hb).1.resolve_right z⟩
def lvl (E : FI) (nj : Nat) (tc hc : Nat → Int32) (I : FI) : Prop := ∀ j, j < nj → ((E 1 8 j).toInt ≤ (I 1 46 j).toInt ∧ (I 1 46 j).toInt ≤ (tc j).toInt) ∧ (E 1 8 j).toInt ≤ (I 1 47 j).toInt ∧ (I 1 47 j).toInt ≤ (hc j).toInt
def mea (nj : Nat) (tc hc : Nat → Int32) (I : FI) : Nat := sumN nj (fun j => ((tc j).toInt - (I 1 46 j).toInt).toNat + ((hc j).toInt - (I 1 47 j).toInt).toNat)
def okE (E : FI) (I : FI) (j b : Nat) : Prop := (E 1 8 b).toInt + (I 1 46 j).toInt ≤ (I 1 46 b).toInt ∧ (E 1 8 j).toInt + (I 1 47 b).toInt ≤ (I 1 47 j).toInt
theorem up46 {b : Nat} {v : Int32} (hl : lvl E nj tc hc I) (hb : b < nj) (h1 : (I 1 46 b).toInt < v.toInt) (h2 : v.toInt ≤ (tc b).toInt) : lvl E nj tc hc (up3 I 1 46 b v) ∧ mea nj tc hc (up3 I 1 46 b v) < mea nj tc hc I := by
  have o46 : ∀ k, k ≠ b → up3 I 1 46 b v 1 46 k = I 1 46 k := fun k z => up3_off (by omega)
  have o47 : ∀ k, up3 I 1 46 b v 1 47 k = I 1 47 k := fun k => up3_off (by omega)
  refine ⟨fun j hj => ?_, ?_⟩
  · rw [o47]
    by_cases e : j = b
    · rw [e, up3_same]; have := hl b hb; omega
    · rw [o46 j e]; exact hl j hj
  · unfold mea
    have := sumN_up (f := fun j => ((tc j).toInt - (I 1 46 j).toInt).toNat + ((hc j).toInt - (I 1 47 j).toInt).toNat) (g := fun j => ((tc j).toInt - (up3 I 1 46 b v 1 46 j).toInt).toNat + ((hc j).toInt - (up3 I 1 46 b v 1 47 j).toInt).toNat) (j := b) (n := nj) hb (fun i _ z => by simp only [o46 i z, o47])
    simp only [up3_same, o47] at this ⊢
    omega
theorem up47 {b : Nat} {v : Int32} (hl : lvl E nj tc hc I) (hb : b < nj) (h1 : (I 1 47 b).toInt < v.toInt) (h2 : v.toInt ≤ (hc b).toInt) : lvl E nj tc hc (up3 I 1 47 b v) ∧ mea nj tc hc (up3 I 1 47 b v) < mea nj tc hc I := by
  have o47 : ∀ k, k ≠ b → up3 I 1 47 b v 1 47 k = I 1 47 k := fun k z => up3_off (by omega)
  have o46 : ∀ k, up3 I 1 47 b v 1 46 k = I 1 46 k := fun k => up3_off (by omega)
  refine ⟨fun j hj => ?_, ?_⟩
  · rw [o46]
    by_cases e : j = b
    · rw [e, up3_same]; have := hl b hb; omega
    · rw [o47 j e]; exact hl j hj
  · unfold mea
    have := sumN_up (f := fun j => ((tc j).toInt - (I 1 46 j).toInt).toNat + ((hc j).toInt - (I 1 47 j).toInt).toNat) (g := fun j => ((tc j).toInt - (up3 I 1 47 b v 1 46 j).toInt).toNat + ((hc j).toInt - (up3 I 1 47 b v 1 47 j).toInt).toNat) (j := b) (n := nj) hb (fun i _ z => by simp only [o47 i z, o46])
    simp only [up3_same, o46] at this ⊢
    omega
/-- a round of the reference's, begun at I0, has come to the pair j b -/
def rnd (E : FI) (nj : Nat) (tc hc : Nat → Int32) (I0 I : FI) (x : Int32) (j b : Nat) : Prop := lvl E nj tc hc I ∧ ((x = 0 ∧ I = I0 ∧ ∀ j' b', (j' < j ∨ j' = j ∧ b' < b) → j' < nj → b' < nj → E 1 10 (200 * j' + b') = 1 → okE E I0 j' b') ∨ (x = 1 ∧ mea nj tc hc I < mea nj tc hc I0))
theorem p_l60 {I0 : FI} {j : Nat} {K2 : Hp → Int32 → Prop} (hj : j < nj) (hT : pSol nj (fun j => (E 1 8 j).toInt) (fun j k => E 1 10 (200 * k + j) = 1) (fun j => (tc j).toInt)) (hH : pSol nj (fun j => (E 1 8 j).toInt) (fun j k => E 1 10 (200 * j + k) = 1) (fun j => (hc j).toInt)) (hK : ∀ I' x, lX A B S nc nw nm nj cw jc E J R I' → rnd E nj tc hc I0 I' x (j + 1) 0 → K2 (hq A B S I' J R) x) : ∀ (r b fu : Nat) (I : FI) (x : Int32), b + r = nj → r < fu → lX A B S nc nw nm nj cw jc E J R I → rnd E nj tc hc I0 I x j b → wp_X12_lengths_L60 (A 0 23) (nI j) K2 Q fu (hq A B S I J R) x (nI b) := by
  intro r
  induction r with
  | zero =>
    intro b fu I x hb hf hX hr
    obtain ⟨fu, rfl⟩ : ∃ z, fu = z + 1 := ⟨fu - 1, by omega⟩
    have h := hX.1
    have : b = nj := by omega
    subst this
    rw [wp_X12_lengths_L60]
    refine ⟨fr_23 h _ _ _, fun _ => hK I x hX ⟨hr.1, hr.2.imp (fun ⟨a, b, c⟩ => ⟨a, b, fun j' b' w h1 h2 => c j' b' (by omega) h1 h2⟩) id⟩, fun z => absurd ?_ z⟩
    rw [hi_q h (by decide), hX.c]; exact Int32.le_refl _
  | succ r ih =>
    intro b fu I x hbr hf hX hr
    obtain ⟨fu, rfl⟩ : ∃ z, fu = z + 1 := ⟨fu - 1, by omega⟩
    have h := hX.1
    have n4 := hX.n4
    have hb : b < nj := by omega
    have e0 : ¬ nI nj ≤ nI b := by rw [nI_leI (by omega) (by omega)]; omega
    obtain ⟨hl, hr2⟩ := hr
    have lj := hl j hj
    have lb := hl b hb
    have mj := hX.mn hj
    have mb := hX.mn hb
    have X1 : lX A B S nc nw nm nj cw jc E J R (up3 I 1 46 b (E 1 8 b + I 1 46 j)) := hX.up rfl
    rw [wp_X12_lengths_L60]
    simp only [fr_23 h, fm_8 h, fm_10 h, fm_46 h, fm_47 h, hi_q h, hj_q h, si_q h, sj_q h, vv_5 h, vs_5 h, vv_7 h, vs_7 h, vv_8 h, vs_8 h, vv_9 h, vs_9 h, vv_11 h, vs_11 h, vv_17 h, vs_17 h, vv_18 h, vs_18 h, vj_3 h, vj_4 h, vj_5 h, ex_some, ex_def, all_def, true_and, and_true, Nat.reduceLT, hX.c, e0, not_false_eq_true, true_implies, not_true_eq_false, false_implies, true_and, and_true, false_and, and_false, forall_const, imp_self, implies_true, if_true, if_false, eq_self, Bool.true_eq_false, Bool.false_eq_true, false_or, or_false, true_or, or_true, i200, nI_clamp (show j < 2 ^ 31 by omega), vin (show j < 200 by omega) (show 200 < 2 ^ 31 by decide), nI_clamp (show b < 2 ^ 31 by omega), vin (show b < 200 by omega) (show 200 < 2 ^ 31 by decide), nI_clamp (show 200 * j + b < 2 ^ 31 by omega), vin (show 200 * j + b < 40000 by omega) (show 40000 < 2 ^ 31 by decide), hX.e (show 8 < 26 by decide), hX.e (show 10 < 26 by decide), X1.e (show 8 < 26 by decide), hX.b hj hb, ← nI_succ]
    have nx : (E 1 10 (200 * j + b) = 1 → okE E I j b) → rnd E nj tc hc I0 I x j (b + 1) := fun hok => ⟨hl, hr2.imp (fun ⟨p1, p2, p3⟩ => ⟨p1, p2, fun j' b' w h1 h2 e => by
      by_cases q : j' = j ∧ b' = b
      · rw [q.1, q.2] at e ⊢; rw [← p2]; exact hok e
      · exact p3 j' b' (by omega) h1 h2 e⟩) id⟩
    refine ⟨fun z => ih (b + 1) fu I x (by omega) (by omega) hX (nx (fun e => absurd e z)), fun z => ?_⟩
    have z := Classical.not_not.mp z
    have tT : (E 1 8 b).toInt + (tc j).toInt ≤ (tc b).toInt := (hT b hb).2.1 j hj z
    have tH : (E 1 8 j).toInt + (hc b).toInt ≤ (hc j).toInt := (hH j hj).2.1 b hb z
    have tb := Int32.toInt_lt (tc b)
    have th := Int32.toInt_lt (hc j)
    have a1 : (E 1 8 b + I 1 46 j).toInt = (E 1 8 b).toInt + (I 1 46 j).toInt := i_add (by omega) (by omega)
    have a2 : (E 1 8 j + I 1 47 b).toInt = (E 1 8 j).toInt + (I 1 47 b).toInt := i_add (by omega) (by omega)
    have more : ∀ I', lvl E nj tc hc I' → mea nj tc hc I' < mea nj tc hc I → rnd E nj tc hc I0 I' 1 j (b + 1) := fun I' hl' hm => ⟨hl', Or.inr ⟨rfl, by
      rcases hr2 with ⟨-, p2, -⟩ | ⟨-, p2⟩
      · rw [← p2]; exact hm
      · omega⟩⟩
    refine ⟨fun c1 => ⟨fun c2 => ih (b + 1) fu I x (by omega) (by omega) hX (nx (fun _ => ?_)), fun c2 => ?_⟩, fun c1 => ?_⟩
    · rw [Int32.le_iff_toInt_le, a1] at c1
      rw [Int32.le_iff_toInt_le, a2] at c2
      exact ⟨c1, c2⟩
    · rw [Int32.le_iff_toInt_le, a2] at c2
      obtain ⟨u1, u2⟩ := up47 (v := E 1 8 j + I 1 47 b) hl hj (by omega) (by omega)
      exact ih (b + 1) fu _ 1 (by omega) (by omega) (hX.up rfl) (more _ u1 u2)
    · rw [Int32.le_iff_toInt_le, a1] at c1
      obtain ⟨u1, u2⟩ := up46 (v := E 1 8 b + I 1 46 j) hl hb (by omega) (by omega)
      refine ⟨fun c2 => ih (b + 1) fu _ 1 (by omega) (by omega) X1 (more _ u1 u2), fun c2 => ?_⟩
      have c2 : ¬ E 1 8 j + I 1 47 b ≤ I 1 47 j := c2
      rw [Int32.le_iff_toInt_le, a2] at c2
      obtain ⟨v1, v2⟩ := up47 (I := up3 I 1 46 b (E 1 8 b + I 1 46 j)) (v := E 1 8 j + I 1 47 b) u1 hj (by show (I 1 47 j).toInt < _; omega) (by omega)
      exact ih (b + 1) fu _ 1 (by omega) (by omega) (X1.up rfl) (more _ v1 (Nat.lt_trans v2 u2))
theorem p_l50 {I0 : FI} {K2 : Hp → Int32 → Prop} (hT : pSol nj (fun j => (E 1 8 j).toInt) (fun j k => E 1 10 (200 * k + j) = 1) (fun j => (tc j).toInt)) (hH : pSol nj (fun j => (E 1 8 j).toInt) (fun j k => E 1 10 (200 * j + k) = 1) (fun j => (hc j).toInt)) (hK : ∀ I' x, lX A B S nc nw nm nj cw jc E J R I' → rnd E nj tc hc I0 I' x nj 0 → K2 (hq A B S I' J R) x) : ∀ (r j fu : Nat) (I : FI) (x : Int32), j + r = nj → r < fu → lX A B S nc nw nm nj cw jc E J R I → rnd E nj tc hc I0 I x j 0 → wp_X12_lengths_L50 (A 0 23) K2 Q fu (hq A B S I J R) x (nI j) := by
  intro r
  induction r with
  | zero =>
    intro j fu I x hj hf hX hr
    obtain ⟨fu, rfl⟩ : ∃ z, fu = z + 1 := ⟨fu - 1, by omega⟩
    have h := hX.1
    have : j = nj := by omega
    subst this
    rw [wp_X12_lengths_L50]
    refine ⟨fr_23 h _ _ _, fun _ => hK I x hX hr, fun z => absurd ?_ z⟩
    rw [hi_q h (by decide), hX.c]; exact Int32.le_refl _
  | succ r ih =>
    intro j fu I x hj hf hX hr
    obtain ⟨fu, rfl⟩ : ∃ z, fu = z + 1 := ⟨fu - 1, by omega⟩
    have h := hX.1
    have n4 := hX.n4
    have e0 : ¬ nI nj ≤ nI j := by rw [nI_leI (by omega) (by omega)]; omega
    rw [wp_X12_lengths_L50]
    simp only [fr_23 h, hi_q h, hj_q h, si_q h, sj_q h, vv_5 h, vs_5 h, vv_7 h, vs_7 h, vv_8 h, vs_8 h, vv_9 h, vs_9 h, vv_11 h, vs_11 h, vv_17 h, vs_17 h, vv_18 h, vs_18 h, vj_3 h, vj_4 h, vj_5 h, ex_some, ex_def, all_def, true_and, and_true, Nat.reduceLT, hX.c, e0, not_false_eq_true, true_implies, not_true_eq_false, false_implies, true_and, and_true, false_and, and_false, forall_const, imp_self, implies_true, if_true, if_false, eq_self, Bool.true_eq_false, Bool.false_eq_true, false_or, or_false, true_or, or_true, ← nI_succ]
    exact p_l60 (by omega) hT hH (fun I' x' X' r' => ih (j + 1) fu I' x' (by omega) (by omega) X' r') nj 0 FU I x (by omega) (by unfold FU; omega) hX hr
theorem p_l42 {K2 : Hp → Prop} (hT : pSol nj (fun j => (E 1 8 j).toInt) (fun j k => E 1 10 (200 * k + j) = 1) (fun j => (tc j).toInt)) (hH : pSol nj (fun j => (E 1 8 j).toInt) (fun j k => E 1 10 (200 * j + k) = 1) (fun j => (hc j).toInt)) (hK : ∀ I', lX A B S nc nw nm nj cw jc E J R I' → (∀ j, j < nj → I' 1 46 j = tc j ∧ I' 1 47 j = hc j) → K2 (hq A B S I' J R)) : ∀ (m fu : Nat) (I : FI), mea nj tc hc I ≤ m → m + 1 < fu → lX A B S nc nw nm nj cw jc E J R I → lvl E nj tc hc I → wp_X12_lengths_L42 (A 0 23) K2 Q fu (hq A B S I J R) 1 := by
  intro m
  induction m with
  | zero =>
    intro fu I hm hf hX hl
    obtain ⟨fu, rfl⟩ : ∃ z, fu = z + 2 := ⟨fu - 2, by omega⟩
    have n4 := hX.n4
    rw [wp_X12_lengths_L42]
    refine ⟨fun z => absurd z (by decide), fun _ => p_l50 (I0 := I) hT hH (fun I' x X' r' => ?_) nj 0 FU I 0 (by omega) (by unfold FU; omega) hX ⟨hl, Or.inl ⟨rfl, rfl, fun j' b' w => by omega⟩⟩⟩
    rcases r'.2 with ⟨p1, p2, p3⟩ | ⟨-, p2⟩
    · rw [p1, wp_X12_lengths_L42]
      refine ⟨fun _ => hK I' X' (fun j hj => ⟨?_, ?_⟩), fun z => absurd rfl z⟩
      · exact Int32.toInt_inj.mp (pS_u (a := fun j => (I' 1 46 j).toInt) hT (fun j hj => (hX.mn hj).1) (fun j hj => (r'.1 j hj).1) (fun j k hj hk e => by rw [p2]; exact (p3 k j (by omega) hk hj e).1) j hj)
      · exact Int32.toInt_inj.mp (pS_u (a := fun j => (I' 1 47 j).toInt) hH (fun j hj => (hX.mn hj).1) (fun j hj => (r'.1 j hj).2) (fun j k hj hk e => by rw [p2]; exact (p3 j k (by omega) hj hk e).2) j hj)
    · omega
  | succ m ih =>
    intro fu I hm hf hX hl
    obtain ⟨fu, rfl⟩ : ∃ z, fu = z + 2 := ⟨fu - 2, by omega⟩
    have n4 := hX.n4
    rw [wp_X12_lengths_L42]
    refine ⟨fun z => absurd z (by decide), fun _ => p_l50 (I0 := I) hT hH (fun I' x X' r' => ?_) nj 0 FU I 0 (by omega) (by unfold FU; omega) hX ⟨hl, Or.inl ⟨rfl, rfl, fun j' b' w => by omega⟩⟩⟩
    rcases r'.2 with ⟨p1, p2, p3⟩ | ⟨p1, p2⟩
    · rw [p1, wp_X12_lengths_L42]
      refine ⟨fun _ => hK I' X' (fun j hj => ⟨?_, ?_⟩), fun z => absurd rfl z⟩
      · exact Int32.toInt_inj.mp (pS_u (a := fun j => (I' 1 46 j).toInt) hT (fun j hj => (hX.mn hj).1) (fun j hj => (r'.1 j hj).1) (fun j k hj hk e => by rw [p2]; exact (p3 k j (by omega) hk hj e).1) j hj)
      · exact Int32.toInt_inj.mp (pS_u (a := fun j => (I' 1 47 j).toInt) hH (fun j hj => (hX.mn hj).1) (fun j hj => (r'.1 j hj).2) (fun j k hj hk e => by rw [p2]; exact (p3 j k (by omega) hj hk e).2) j hj)
    · rw [p1]
      exact ih (fu + 1) I' (by omega) (by omega) X' r'.1
theorem p_l2 {K2 : Hp → Prop} (hK : ∀ I', lX A B S nc nw nm nj cw jc E J R I' → (∀ j, j < nj → I' 1 46 j = E 1 8 j ∧ I' 1 47 j = E 1 8 j) → K2 (hq A B S I' J R)) : ∀ (r i fu : Nat) (I : FI), i + r = nj → r < fu → lX A B S nc nw nm nj cw jc E J R I → (∀ j, j < i → I 1 46 j = E 1 8 j ∧ I 1 47 j = E 1 8 j) → wp_X12_lengths_L2 (A 0 23) K2 Q fu (hq A B S I J R) (nI i) := by
  intro r
  induction r with
  | zero =>
    intro i fu I hi hf hX hy
    obtain ⟨fu, rfl⟩ : ∃ z, fu = z + 1 := ⟨fu - 1, by omega⟩
    have h := hX.1
    have : i = nj := by omega
    subst this
    rw [wp_X12_lengths_L2]
    refine ⟨fr_23 h _ _ _, fun _ => hK I hX hy, fun z => absurd ?_ z⟩
    rw [hi_q h (by decide), hX.c]; exact Int32.le_refl _
  | succ r ih =>
    intro i fu I hi hf hX hy
    obtain ⟨fu, rfl⟩ : ∃ z, fu = z + 1 := ⟨fu - 1, by omega⟩
    have h := hX.1
    have n4 := hX.n4
    have e0 : ¬ nI nj ≤ nI i := by rw [nI_leI (by omega) (by omega)]; omega
    have X1 : lX A B S nc nw nm nj cw jc E J R (up3 I 1 46 i (E 1 8 i)) := hX.up rfl
    rw [wp_X12_lengths_L2]
    simp only [fr_23 h, fm_8 h, fm_46 h, fm_47 h, hi_q h, hj_q h, si_q h, sj_q h, vv_5 h, vs_5 h, vv_7 h, vs_7 h, vv_8 h, vs_8 h, vv_9 h, vs_9 h, vv_11 h, vs_11 h, vv_17 h, vs_17 h, vv_18 h, vs_18 h, vj_3 h, vj_4 h, vj_5 h, ex_some, ex_def, all_def, true_and, and_true, Nat.reduceLT, hX.c, e0, not_false_eq_true, true_implies, not_true_eq_false, false_implies, true_and, and_true, false_and, and_false, forall_const, imp_self, implies_true, if_true, if_false, eq_self, Bool.true_eq_false, Bool.false_eq_true, false_or, or_false, true_or, or_true, nI_clamp (show i < 2 ^ 31 by omega), vin (show i < 200 by omega) (show 200 < 2 ^ 31 by decide), hX.e (show 8 < 26 by decide), X1.e (show 8 < 26 by decide), ← nI_succ]
    refine ih (i + 1) fu _ (by omega) (by omega) (X1.up rfl) (fun j hj => ?_)
    by_cases e : j = i
    · rw [e, up3_same, up3_off (by omega), up3_same]; exact ⟨rfl, rfl⟩
    · rw [up3_off (by omega), up3_off (by omega), up3_off (by omega), up3_off (by omega)]; exact hy j (by omega)
theorem p_l191 (hX : lX A B S nc nw nm nj cw jc E J R I) (hy : ∀ j, j < nj → I 1 46 j = tc j) (hQ : Q (mxI nj tc) (hq A B S I J R)) : ∀ (r i fu : Nat), i + r = nj → r < fu → wp_X12_lengths_L191 (A 0 23) Q fu (hq A B S I J R) (mxI i tc) (nI i) := by
  have h := hX.1
  have n4 := hX.n4
  intro r
  induction r with
  | zero =>
    intro i fu hi hf
    obtain ⟨fu, rfl⟩ : ∃ z, fu = z + 1 := ⟨fu - 1, by omega⟩
    have : i = nj := by omega
    subst this
    rw [wp_X12_lengths_L191]
    refine ⟨fr_23 h _ _ _, fun _ => hQ, fun z => absurd ?_ z⟩
    rw [hi_q h (by decide), hX.c]; exact Int32.le_refl _
  | succ r ih =>
    intro i fu hi hf
    obtain ⟨fu, rfl⟩ : ∃ z, fu = z + 1 := ⟨fu - 1, by omega⟩
    have e0 : ¬ nI nj ≤ nI i := by rw [nI_leI (by omega) (by omega)]; omega
    rw [wp_X12_lengths_L191]
    simp only [fr_23 h, fm_46 h, hi_q h, hj_q h, si_q h, sj_q h, vv_5 h, vs_5 h, vv_7 h, vs_7 h, vv_8 h, vs_8 h, vv_9 h, vs_9 h, vv_11 h, vs_11 h, vv_17 h, vs_17 h, vv_18 h, vs_18 h, vj_3 h, vj_4 h, vj_5 h, ex_some, ex_def, all_def, true_and, and_true, Nat.reduceLT, hX.c, e0, not_false_eq_true, true_implies, not_true_eq_false, false_implies, true_and, and_true, false_and, and_false, forall_const, imp_self, implies_true, if_true, if_false, eq_self, Bool.true_eq_false, Bool.false_eq_true, false_or, or_false, true_or, or_true, nI_clamp (show i < 2 ^ 31 by omega), vin (show i < 200 by omega) (show 200 < 2 ^ 31 by decide), hy i (by omega), ← nI_succ]
    exact ih (i + 1) fu (by omega) (by omega)
theorem p_len (h : Sh A B S nj nc) (hs : vSt A S nc nw nm nj cw jc I J R) (hT : pSol nj (fun j => (I 1 8 j).toInt) (fun j k => I 1 10 (200 * k + j) = 1) (fun j => (tc j).toInt)) (hH : pSol nj (fun j => (I 1 8 j).toInt) (fun j k => I 1 10 (200 * j + k) = 1) (fun j => (hc j).toInt)) (hQ : ∀ I', lX A B S nc nw nm nj cw jc I J R I' → (∀ j, j < nj → I' 1 46 j = tc j ∧ I' 1 47 j = hc j) → Q (mxI nj tc) (hq A B S I' J R)) : wp_X12_lengths (hq A B S I J R) (A 0 23) Q := by
  have hX : lX A B S nc nw nm nj cw jc I J R I := ⟨h, hs, Ag.rf⟩
  have n4 := hX.n4
  unfold wp_X12_lengths
  refine p_l2 (fun I1 X1 y1 => ?_) nj 0 FU I (by omega) (by unfold FU; omega) hX (fun j hj => by omega)
  have hl : lvl I nj tc hc I1 := fun j hj => by
    rw [(y1 j hj).1, (y1 j hj).2]
    have := (hT j hj).1
    have := (hH j hj).1
    exact ⟨⟨Int.le_refl _, by assumption⟩, Int.le_refl _, by assumption⟩
  have mb : mea nj tc hc I1 ≤ 200 * 4294967296 := by
    have := sumN_le (f := fun j => ((tc j).toInt - (I1 1 46 j).toInt).toNat + ((hc j).toInt - (I1 1 47 j).toInt).toNat) (b := 4294967296) (n := nj) (fun j hj => by
      have := hl j hj
      have := hX.mn hj
      have := Int32.toInt_lt (tc j)
      have := Int32.toInt_lt (hc j)
      omega)
    exact Nat.le_trans this (Nat.mul_le_mul_right _ n4)
  refine p_l42 hT hH (fun I2 X2 y2 => ?_) _ FU I1 mb (by unfold FU; decide) X1 hl
  exact p_l191 X2 (fun j hj => (y2 j hj).1) (hQ I2 X2 y2) nj 0 FU (by omega) (by unfold FU; omega)
end PL
