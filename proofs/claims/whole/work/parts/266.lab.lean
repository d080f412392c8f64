/-! names for new cells -/
def swp (x y z : Nat) : Nat := if z = x then y else if z = y then x else z
theorem swp_swp (x y z : Nat) : swp x y (swp x y z) = z := by
  unfold swp
  by_cases h1 : z = x
  · subst h1
    by_cases h2 : y = z
    · simp [h2]
    · simp [h2]
  · by_cases h2 : z = y
    · subst h2; simp [h1]
    · simp [h1, h2]
/-- L c i a: the cell of the code c, i lies at a -/
def LB (A : Nat → Nat → Nat) (B : Nat → Nat × Nat) (L : Nat → Nat → Nat → Prop) (T : Hp) : Prop := LA A B ∧ ∀ c i a, L c i a → c < 20 ∧ A c i = a ∧ hK T a ≠ 0
theorem LB.new {A : Nat → Nat → Nat} {B : Nat → Nat × Nat} {L : Nat → Nat → Nat → Prop} {T : Hp} (h : LB A B L T) {q k n c0 i0 : Nat} (hq : hK T q = 0) (hc : c0 < 20) (hk : k ≠ 0) (hn : ∀ a, ¬ L c0 i0 a) : ∃ A' B', LB A' B' (fun c i a => c = c0 ∧ i = i0 ∧ a = q ∨ L c i a) (sN T q k n) := by
  refine ⟨fun c i => swp q (A c0 i0) (A c i), fun b => B (swp q (A c0 i0) b), ?_, ?_⟩
  · intro c i hc2
    show B (swp q (A c0 i0) (swp q (A c0 i0) (A c i))) = (c, i)
    rw [swp_swp]
    exact h.1 c i hc2
  · rintro c i a (⟨rfl, rfl, rfl⟩ | hL)
    · refine ⟨hc, ?_, ?_⟩
      · show swp a (A c i) (A c i) = a
        unfold swp
        by_cases e : A c i = a
        · simp [e]
        · simp [e]
      · rw [hK_sN, if_pos rfl]; exact hk
    · obtain ⟨h1, h2, h3⟩ := h.2 c i a hL
      have haq : a ≠ q := fun z => h3 (by rw [z]; exact hq)
      refine ⟨h1, ?_, ?_⟩
      · show swp q (A c0 i0) (A c i) = a
        have e2 : ¬ A c i = A c0 i0 := fun z => by
          obtain ⟨e1, e2⟩ := h.1.inj h1 hc z
          subst e1; subst e2
          exact hn a hL
        rw [h2] at e2 ⊢
        unfold swp
        rw [if_neg haq, if_neg e2]
      · rw [hK_sN, if_neg haq]; exact h3
theorem LB.on {A : Nat → Nat → Nat} {B : Nat → Nat × Nat} {L : Nat → Nat → Nat → Prop} {T T' : Hp} {P : Nat → Prop} (h : LB A B L T) (o : On P T T') : LB A B L T' := ⟨h.1, fun c i a hL => by
  obtain ⟨h1, h2, h3⟩ := h.2 c i a hL
  exact ⟨h1, h2, by rw [(o.2 a h3).1]; exact h3⟩⟩
/-- the codes in use -/
def usd (nj nc c i : Nat) : Prop := c = 0 ∧ i < 25 ∨ c = 1 ∧ (mk i).1 ≠ 0 ∨ c = 2 ∧ i < nc ∨ (jk c).1 ≠ 0 ∧ i < nj
theorem jk_lt {c : Nat} (h : (jk c).1 ≠ 0) : 3 ≤ c ∧ c ≤ 16 := by
  refine Decidable.byContradiction (fun z => h ?_)
  unfold jk
  split <;> first | rfl | omega
theorem Sh.ud {A : Nat → Nat → Nat} {B : Nat → Nat × Nat} {S : Hp} {nj nc : Nat} (h : Sh A B S nj nc) {c i : Nat} (hu : usd nj nc c i) : c < 20 ∧ hK S (A c i) ≠ 0 := by
  obtain ⟨h1, h2, h3, h4, h5, -⟩ := h
  rcases hu with ⟨rfl, hi⟩ | ⟨rfl, hi⟩ | ⟨rfl, hi⟩ | ⟨hc, hi⟩
  · refine ⟨by decide, ?_⟩
    rw [(h2 i hi).1]
    have : ∀ i, i < 25 → (rk i).1 ≠ 0 := by decide
    exact this i hi
  · exact ⟨by decide, by rw [(h3.2 i hi).1]; exact hi⟩
  · exact ⟨by decide, by rw [h4 i hi]; decide⟩
  · have := jk_lt hc
    exact ⟨by omega, by rw [(h5 c i hi hc).1]; exact hc⟩
/-- what is at the codes: those in use, and the data of lists that are not empty -/
def Ld (A : Nat → Nat → Nat) (S : Hp) (nj nc : Nat) (c i a : Nat) : Prop := a = A c i ∧ (usd nj nc c i ∨ (c = 17 ∨ c = 18) ∧ i < nj ∧ hK S (A c i) = 20)
theorem Sh.lb {A : Nat → Nat → Nat} {B : Nat → Nat × Nat} {S : Hp} {nj nc : Nat} (h : Sh A B S nj nc) : LB A B (Ld A S nj nc) S := ⟨h.1, by
  rintro c i a ⟨rfl, hu | ⟨hc, hi, hk⟩⟩
  · obtain ⟨h1, h2⟩ := h.ud hu
    exact ⟨h1, rfl, h2⟩
  · exact ⟨by omega, rfl, by rw [hk]; decide⟩⟩
/-- cells that stood stay as they were -/
def Kp (T T' : Hp) : Prop := On (fun _ => False) T T'
theorem Sh.kp {A A' : Nat → Nat → Nat} {B B' : Nat → Nat × Nat} {S S' : Hp} {nj nc : Nat} (h : Sh A B S nj nc) (k : Kp S S') (hL : LA A' B') (hA : ∀ c i, usd nj nc c i → A' c i = A c i) : Sh A' B' S' nj nc := by
  have hu := fun c i (u : usd nj nc c i) => (h.ud u).2
  obtain ⟨h1, h2, h3, h4, h5, h6, h7, h8⟩ := h
  have mku : ∀ i, (mk i).1 ≠ 0 → usd nj nc 1 i := fun i hi => Or.inr (Or.inl ⟨rfl, hi⟩)
  have rku : ∀ i, i < 25 → usd nj nc 0 i := fun i hi => Or.inl ⟨rfl, hi⟩
  have jku : ∀ c i, (jk c).1 ≠ 0 → i < nj → usd nj nc c i := fun c i hc hi => Or.inr (Or.inr (Or.inr ⟨hc, hi⟩))
  refine ⟨hL, fun i hi => ?_, ⟨?_, fun i hi => ?_⟩, fun i hi => ?_, fun c i hi hc => ?_, fun t ht => ?_, fun i hi => ?_, fun j hj t ht => ?_⟩
  · rw [hA 0 i (rku i hi), (k.2 _ (hu 0 i (rku i hi))).1, (k.2 _ (hu 0 i (rku i hi))).2.1]; exact h2 i hi
  · rw [hA 0 23 (rku 23 (by decide)), (k.2 _ (hu 0 23 (rku 23 (by decide)))).1]; exact h3.1
  · rw [hA 1 i (mku i hi), (k.2 _ (hu 1 i (mku i hi))).1, (k.2 _ (hu 1 i (mku i hi))).2.1]; exact h3.2 i hi
  · have u : usd nj nc 2 i := Or.inr (Or.inr (Or.inl ⟨rfl, hi⟩))
    rw [hA 2 i u, (k.2 _ (hu 2 i u)).1]; exact h4 i hi
  · have u := jku c i hc hi
    rw [hA c i u, (k.2 _ (hu c i u)).1, (k.2 _ (hu c i u)).2.1]; exact h5 c i hi hc
  · have r1 : ∀ t ∈ rp, t.1 < 25 ∧ t.2.2 < 25 := by decide
    have u1 := rku t.1 (r1 t ht).1
    rw [hA 0 t.1 u1, hA 0 t.2.2 (rku _ (r1 t ht).2), ((k.2 _ (hu 0 t.1 u1)).2.2 id).2.2]; exact h6 t ht
  · have u1 := rku 23 (by decide)
    rw [hA 0 23 u1, hA 1 i (mku i hi), ((k.2 _ (hu 0 23 u1)).2.2 id).2.2]; exact h7 i hi
  · have r1 : ∀ t ∈ jp, (jk t.1).1 ≠ 0 ∧ (jk t.2.2).1 ≠ 0 := by decide
    have u1 := jku t.1 j (r1 t ht).1 hj
    rw [hA t.1 j u1, hA t.2.2 j (jku _ j (r1 t ht).2 hj), ((k.2 _ (hu t.1 j u1)).2.2 id).2.2]; exact h8 j hj t ht
/-- names and cells as before, as far as they are in use -/
def Rl (A : Nat → Nat → Nat) (S : Hp) (nj nc : Nat) (I : FI) (J : FJ) (R : FR) (A' : Nat → Nat → Nat) (S' : Hp) (I' : FI) (J' : FJ) (R' : FR) : Prop :=
  (∀ c i, usd nj nc c i → A' c i = A c i ∧ (∀ p, I' c i p = I c i p) ∧ (∀ p, J' c i p = J c i p) ∧ ∀ p, vr c i p = true → R' c i p = R c i p) ∧ hT S' = hT S ∧ (∀ k, k ≠ 0 → hK S (hT S) = k → hK S' (hT S) = k ∧ hN S' (hT S) = hN S (hT S)) ∧ ∀ c i, (c = 17 ∨ c = 18) → i < nj → hK S (A c i) = 20 → A' c i = A c i ∧ hK S' (A c i) = 20 ∧ hN S' (A c i) = hN S (A c i) ∧ ∀ p, R' c i p = R c i p
section RL
variable {A A' : Nat → Nat → Nat} {B B' : Nat → Nat × Nat} {S S' : Hp} {nc nw nm nj : Nat} {cw jc : Nat → Nat} {I I' : FI} {J J' : FJ} {R R' : FR}
theorem Rl.m (r : Rl A S nj nc I J R A' S' I' J' R') {k : Nat} (hk : (mk k).1 ≠ 0) : I' 1 k = I 1 k := funext fun p => (r.1 1 k (Or.inr (Or.inl ⟨rfl, hk⟩))).2.1 p
theorem Rl.mj (r : Rl A S nj nc I J R A' S' I' J' R') {k : Nat} (hk : (mk k).1 ≠ 0) : J' 1 k = J 1 k := funext fun p => (r.1 1 k (Or.inr (Or.inl ⟨rfl, hk⟩))).2.2.1 p
theorem Rl.o (r : Rl A S nj nc I J R A' S' I' J' R') {k : Nat} (hk : k < 25) : I' 0 k = I 0 k := funext fun p => (r.1 0 k (Or.inl ⟨rfl, hk⟩)).2.1 p
theorem Rl.oj (r : Rl A S nj nc I J R A' S' I' J' R') {k : Nat} (hk : k < 25) : J' 0 k = J 0 k := funext fun p => (r.1 0 k (Or.inl ⟨rfl, hk⟩)).2.2.1 p
theorem Rl.jb (r : Rl A S nj nc I J R A' S' I' J' R') {c j : Nat} (hc : (jk c).1 ≠ 0) (hj : j < nj) : I' c j = I c j := funext fun p => (r.1 c j (Or.inr (Or.inr (Or.inr ⟨hc, hj⟩)))).2.1 p
theorem Rl.jj (r : Rl A S nj nc I J R A' S' I' J' R') {c j : Nat} (hc : (jk c).1 ≠ 0) (hj : j < nj) : J' c j = J c j := funext fun p => (r.1 c j (Or.inr (Or.inr (Or.inr ⟨hc, hj⟩)))).2.2.1 p
theorem Rl.aj (r : Rl A S nj nc I J R A' S' I' J' R') {c j : Nat} (hc : (jk c).1 ≠ 0) (hj : j < nj) : A' c j = A c j := (r.1 c j (Or.inr (Or.inr (Or.inr ⟨hc, hj⟩)))).1
theorem Rl.rj (r : Rl A S nj nc I J R A' S' I' J' R') {c j p : Nat} (hc : (jk c).1 ≠ 0) (hj : j < nj) (hv : vr c j p = true) : R' c j p = R c j p := (r.1 c j (Or.inr (Or.inr (Or.inr ⟨hc, hj⟩)))).2.2.2 p hv
theorem Rl.ro (r : Rl A S nj nc I J R A' S' I' J' R') {k : Nat} (hk : k < 25) {p : Nat} (hv : vr 0 k p = true) : R' 0 k p = R 0 k p := (r.1 0 k (Or.inl ⟨rfl, hk⟩)).2.2.2 p hv
theorem Rl.ls (r : Rl A S nj nc I J R A' S' I' J' R') {c d : Nat} (hcd : c = 4 ∧ d = 17 ∨ c = 5 ∧ d = 18) {bn : Nat → Nat} {bl : Nat → Nat → Nat} (h : lsA A S I R c d nj bn bl) : lsA A' S' I' R' c d nj bn bl := fun j hj => by
  obtain ⟨h1, h2, h3, h4⟩ := h j hj
  have hc0 : (jk c).1 ≠ 0 := by rcases hcd with ⟨rfl, -⟩ | ⟨rfl, -⟩ <;> decide
  have hv : vr c j 1 = true := by rcases hcd with ⟨rfl, -⟩ | ⟨rfl, -⟩ <;> rfl
  have hd : d = 17 ∨ d = 18 := by rcases hcd with ⟨-, rfl⟩ | ⟨-, rfl⟩ <;> simp
  rw [r.jb hc0 hj, r.rj hc0 hj hv, r.2.1]
  refine ⟨h1, h2, ?_, ?_⟩
  · rcases h3 with ⟨a, b, c', d', e⟩ | ⟨a, b, c', d'⟩
    · obtain ⟨q1, q2, q3, q4⟩ := r.2.2.2 d j hd hj b
      rw [q1, q2, q3]
      exact Or.inl ⟨a, rfl, c', d', e⟩
    · obtain ⟨q1, q2⟩ := r.2.2.1 21 (by decide) c'
      exact Or.inr ⟨a, b, q1, q2.trans d'⟩
  · intro i hi
    obtain ⟨g1, g2⟩ := h4 i hi
    rw [r.aj (c := 3) (by decide) g1]
    rcases h3 with ⟨a, b, c', d', e⟩ | ⟨a, b, c', d'⟩
    · obtain ⟨q1, q2, q3, q4⟩ := r.2.2.2 d j hd hj b
      rw [q4]; exact ⟨g1, g2⟩
    · omega
theorem Rl.st (r : Rl A S nj nc I J R A' S' I' J' R') (h : vSt A S nc nw nm nj cw jc I J R) : vSt A' S' nc nw nm nj cw jc I' J' R' := by
  obtain ⟨h0, h1, h2, h3, h4, h5, h6, h7, h8, h9, h10, h11, h12, h13⟩ := h
  refine ⟨h0, ?_, ?_, ?_, ?_, ?_, ?_, ?_, ?_, ?_, ?_, ?_, ?_, ?_⟩
  · unfold vCnt at *; rw [r.o (k := 1) (by decide), r.o (k := 23) (by decide)]; exact h1
  · intro c hc
    obtain ⟨a1, a2, a3, -⟩ := r.1 2 c (Or.inr (Or.inr (Or.inl ⟨rfl, hc⟩)))
    rw [r.ro (k := 5) (by decide) rfl, a1, a2, a2, a2, r.m (k := 5) (by decide)]; exact h2 c hc
  · intro j hj
    have hjc := h0.2.2.2.2.2 j hj
    rw [r.ro (k := 7) (by decide) rfl, r.aj (c := 3) (by decide) hj, r.jb (c := 3) (by decide) hj, r.rj (c := 3) (by decide) hj rfl, (r.1 2 (jc j) (Or.inr (Or.inr (Or.inl ⟨rfl, hjc⟩)))).1, r.m (k := 7) (by decide), r.m (k := 8) (by decide), r.m (k := 9) (by decide)]
    exact h3 j hj
  · obtain ⟨od, q1, q2, q3⟩ := h4
    refine ⟨od, fun t ht => ?_, fun s t a b => ?_, q3⟩
    · rw [r.ro (k := 8) (by decide) rfl, r.aj (c := 3) (by decide) (q1 t ht).1]; exact q1 t ht
    · rw [r.m (k := 9) (by decide)]; exact q2 s t a b
  · obtain ⟨hE, bn, bl, an, al, q1, q2, q3, q4, q5⟩ := h5
    refine ⟨by rw [r.2.1]; obtain ⟨e1, e2⟩ := r.2.2.1 21 (by decide) hE.1; exact ⟨e1, e2.trans hE.2⟩, bn, bl, an, al, r.ls (Or.inl ⟨rfl, rfl⟩) q1, r.ls (Or.inr ⟨rfl, rfl⟩) q2, ?_, q4, q5⟩
    rw [r.m (k := 10) (by decide)]; exact q3
  · unfold vLn at *
    rw [r.m (k := 10) (by decide), r.m (k := 11) (by decide)]
    refine ⟨fun j k hj hk => ?_, h6.2⟩
    rw [r.jj (c := 7) (by decide) hj]; exact h6.1 j k hj hk
  · intro j m hj hm
    rw [r.m (k := 12) (by decide), r.jj (c := 3) (by decide) hj]; exact h7 j m hj hm
  · intro j hj
    rw [r.m (k := 13) (by decide), r.jb (c := 8) (by decide) hj, r.jb (c := 8 + 1) (by decide) hj, r.jb (c := 8 + 2) (by decide) hj]; exact h8 j hj
  · intro j hj
    rw [r.m (k := 14) (by decide), r.jb (c := 11) (by decide) hj, r.jb (c := 11 + 1) (by decide) hj, r.jb (c := 11 + 2) (by decide) hj]; exact h9 j hj
  · intro j hj
    rw [r.m (k := 15) (by decide), r.m (k := 16) (by decide), r.m (k := 17) (by decide), r.m (k := 18) (by decide), r.m (k := 19) (by decide), r.jb (c := 14) (by decide) hj, r.jb (c := 15) (by decide) hj]; exact h10 j hj
  · intro j hj
    rw [r.m (k := 8) (by decide), r.m (k := 20) (by decide), r.m (k := 21) (by decide), r.jb (c := 3) (by decide) hj]; exact h11 j hj
  · intro s hs
    rw [r.m (k := 6) (by decide), r.oj (k := 6) (by decide)]; exact h12 s hs
  · unfold vZr at *
    rw [r.m (k := 10) (by decide), r.m (k := 11) (by decide), r.m (k := 12) (by decide), r.m (k := 13) (by decide), r.m (k := 14) (by decide), r.m (k := 16) (by decide), r.m (k := 17) (by decide)]; exact h13
theorem Rl.nr (r : Rl A S nj nc I J R A' S' I' J' R') (h : nRc nj I) : nRc nj I' := by
  unfold nRc at *
  rw [r.o (k := 4) (by decide), r.o (k := 16) (by decide), r.o (k := 21) (by decide)]
  refine ⟨h.1, fun j hj => ?_, h.2.2⟩
  rw [r.jb (c := 16) (by decide) hj]; exact h.2.1 j hj
theorem pBst_g {ok : Nat → Prop} {T T' : Nat → Int} {b : Option Nat} (e : ∀ j, j < nj → T' j = T j) (h : pBst nj ok T b) : pBst nj ok T' b := by
  cases b with
  | none => exact h
  | some b =>
    obtain ⟨a1, a2, a3⟩ := h
    exact ⟨a1, a2, fun k hk ho => by rw [e k hk, e b a1]; exact a3 k hk ho⟩
theorem pSol_g {mn : Nat → Int} {e : Nat → Nat → Prop} {T T' : Nat → Int} (hT : ∀ j, j < nj → T' j = T j) (hs : pSol nj mn e T) : pSol nj mn e T' := fun j hj => by
  obtain ⟨a1, a2, a3⟩ := hs j hj
  refine ⟨by rw [hT j hj]; exact a1, fun k hk he => by rw [hT j hj, hT k hk]; exact a2 k hk he, ?_⟩
  rcases a3 with a3 | ⟨k, b1, b2, b3⟩
  · left; rw [hT j hj]; exact a3
  · right; exact ⟨k, b1, b2, by rw [hT j hj, hT k b1]; exact b3⟩
theorem Rl.pa (r : Rl A S nj nc I J R A' S' I' J' R') (h : vPa A nj I R) : vPa A' nj I' R' := by
  have g2 : I' 0 2 = I 0 2 := r.o (by decide)
  have g8 : I' 1 8 = I 1 8 := r.m (by decide)
  have g10 : I' 1 10 = I 1 10 := r.m (by decide)
  have ext14 : ∀ j, j < nj → I' 3 j 14 = I 3 j 14 := fun j hj => by rw [r.jb (c := 3) (by decide) hj]
  have ext13 : ∀ j, j < nj → I' 3 j 13 = I 3 j 13 := fun j hj => by rw [r.jb (c := 3) (by decide) hj]
  have e14 : ∀ j, j < nj → (fun j => (I' 3 j 14).toInt) j = (fun j => (I 3 j 14).toInt) j := fun j hj => congrArg Int32.toInt (ext14 j hj)
  have e13 : ∀ j, j < nj → (fun j => (I' 3 j 13).toInt) j = (fun j => (I 3 j 13).toInt) j := fun j hj => congrArg Int32.toInt (ext13 j hj)
  have r11 : ∀ p, R' 0 11 p = R 0 11 p := fun p => r.ro (by decide) rfl
  unfold vPa
  rw [g2, g8, g10]
  rcases h with h | ⟨h1, h2, h3, cn, ch, h4, h5, h6, h7, h8, h9⟩
  · left; exact h
  · right
    refine ⟨h1, pSol_g e14 h2, pSol_g e13 h3, cn, ch, h4, h5, ?_, pBst_g e14 h7, fun i hi => pBst_g e14 (h8 i hi), ?_⟩
    · intro i hi
      rw [r11, r.aj (c := 3) (by decide) (h6 i hi).2]; exact h6 i hi
    · rw [h9]
      by_cases e : cn = 0
      · rw [if_pos e, if_pos e]
      · rw [if_neg e, if_neg e, ext14 _ (h6 0 (by omega)).2]
end RL
