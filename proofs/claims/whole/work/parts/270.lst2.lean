section AF
variable {A : Nat → Nat → Nat} {B : Nat → Nat × Nat} {S : Hp} {nc nw nm nj : Nat} {cw jc : Nat → Nat} {I : FI} {J : FJ} {R : FR} {xs : Nat → Int32} {L : Nat} {l4 : Int32}
theorem p_add2 {S : Hp} {a w k : Nat} {Q : Hp → Prop} (h : isJS S a w) (hk : k < 200) (hq : ∀ f, (∀ i, jb (f (i / 64)) (i % 64) = (js S w i || decide (i = k))) → Q (sWJ S w f)) : wp_X5_add S a (nI k) Q := by
  obtain ⟨h7, hw, h16, h4⟩ := h
  have hm : k % 64 < 64 := Nat.mod_lt _ (by decide)
  unfold wp_X5_add
  refine ⟨fun h => absurd h (nI_pos (by omega)), fun _ => ⟨fun h => absurd h (nI_ge (b := 200) hk (by decide)), fun _ => ⟨h7, w, hw, h16, ?_, ?_, ?_⟩⟩⟩
  · rw [ix6 (by omega), h4]; exact nI_in (by omega) (by decide)
  · rw [ix6 (by omega), h4]; exact nI_in (by omega) (by decide)
  · rw [ix6 (by omega), ix63 (by omega), nI_clamp (by omega), sJ_row]
    refine hq _ (fun i => ?_)
    unfold js
    by_cases e : i / 64 = k / 64
    · rw [if_pos e, jb_or, jb_one hm, e]
      congr 1
      simp only [decide_eq_decide]
      omega
    · rw [if_neg e]
      have : i ≠ k := fun z => e (by rw [z])
      simp [this]
theorem p_addAll2 {S : Hp} {a w b w2 : Nat} {Q : Hp → Prop} (h : isJS S a w) (h2 : isJS S b w2) (hq : ∀ f, (∀ i, i < 256 → jb (f (i / 64)) (i % 64) = (js S w i || js S w2 i)) → Q (sWJ S w f)) : wp_X5_addAll S a (some b) Q := by
  have := p_addAll_L (Q := Q) h h2 (fun f hf => hq f (fun i hi => by rw [hf _ (by omega), jb_or]; rfl)) 4 0 FU rfl (fu_pos (by decide))
  rw [sWJ_self S w _ (fun j => by simp)] at this
  exact this
/-- a list as the ArrayList that it is -/
theorem al_q {c d j : Nat} {bn : Nat → Nat} {bl : Nat → Nat → Nat} (h : Sh A B S nj nc) (hcd : c = 4 ∧ d = 17 ∨ c = 5 ∧ d = 18) (hl : lsA A S I R c d nj bn bl) (hj : j < nj) : ∃ dd, isAL (hq A B S I J R) (A c j) dd (bn j) (fun i => A 3 (bl j i)) ∧ (hK S dd = 20 → dd = A d j) := by
  obtain ⟨h1, h2, h3, h4⟩ := hl j hj
  have hk : hK (hq A B S I J R) (A c j) = 1 := by
    rcases hcd with ⟨rfl, -⟩ | ⟨rfl, -⟩
    · exact fj_4 h hj _ _ _
    · exact fj_5 h hj _ _ _
  have hc : c < 20 := by omega
  have hd : d < 20 := by omega
  have hv : vr c j 1 = true := by rcases hcd with ⟨rfl, -⟩ | ⟨rfl, -⟩ <;> rfl
  have hvd : ∀ i, vr d j i = true := fun i => by rcases hcd with ⟨-, rfl⟩ | ⟨-, rfl⟩ <;> rfl
  rcases h3 with ⟨a1, a2, a3, a4, a5⟩ | ⟨a1, a2, a3, a4⟩
  · exact ⟨A d j, ⟨hk, by rw [hi_q h hc]; exact h1, by rw [hR_hqv h.1 hc hv]; exact a1, h2, fun i hi => by rw [hR_hqv h.1 hd (hvd i)]; exact (h4 i hi).2, Or.inl ⟨a2, a3, a4, a5⟩⟩, fun _ => rfl⟩
  · exact ⟨hT S, ⟨hk, by rw [hi_q h hc]; exact h1, by rw [hR_hqv h.1 hc hv]; exact a2, h2, fun i hi => by omega, Or.inr ⟨a1, rfl, a3, a4⟩⟩, fun z => by rw [a3] at z; exact absurd z (by decide)⟩
theorem LB.new2 {L : Nat → Nat → Nat → Prop} {T T' : Hp} (h : LB A B L T) {q c0 i0 : Nat} (hq : hK T q = 0) (hc : c0 < 20) (hk : hK T' q ≠ 0) (hT : ∀ a, hK T a ≠ 0 → hK T' a ≠ 0) : ∃ A' B', LB A' B' (fun c i a => c = c0 ∧ i = i0 ∧ a = q ∨ L c i a ∧ ¬ (c = c0 ∧ i = i0)) T' := by
  refine ⟨fun c i => swp q (A c0 i0) (A c i), fun b => B (swp q (A c0 i0) b), ?_, ?_⟩
  · intro c i hc2
    show B (swp q (A c0 i0) (swp q (A c0 i0) (A c i))) = (c, i)
    rw [swp_swp]
    exact h.1 c i hc2
  · rintro c i a (⟨rfl, rfl, rfl⟩ | ⟨hL, hne⟩)
    · refine ⟨hc, ?_, hk⟩
      show swp a (A c i) (A c i) = a
      unfold swp
      by_cases e : A c i = a
      · simp [e]
      · simp [e]
    · obtain ⟨h1, h2, h3⟩ := h.2 c i a hL
      have haq : a ≠ q := fun z => h3 (by rw [z]; exact hq)
      refine ⟨h1, ?_, hT a h3⟩
      show swp q (A c0 i0) (A c i) = a
      have e2 : ¬ A c i = A c0 i0 := fun z => hne (h.1.inj h1 hc z)
      rw [h2] at e2 ⊢
      unfold swp
      rw [if_neg haq, if_neg e2]
/-- the shape stays when only lists change -/
theorem Sh.on {A' : Nat → Nat → Nat} {B' : Nat → Nat × Nat} {S' : Hp} {P : Nat → Prop} (h : Sh A B S nj nc) (k : On P S S') (hL : LA A' B') (hA : ∀ c i, usd nj nc c i → A' c i = A c i) (hP : ∀ c i, usd nj nc c i → c ≠ 4 → c ≠ 5 → ¬ P (A c i)) : Sh A' B' S' nj nc := by
  have hu := fun c i (u : usd nj nc c i) => (h.ud u).2
  obtain ⟨h1, h2, h3, h4, h5, h6, h7, h8⟩ := h
  have mku : ∀ i, (mk i).1 ≠ 0 → usd nj nc 1 i := fun i hi => Or.inr (Or.inl ⟨rfl, hi⟩)
  have rku : ∀ i, i < 25 → usd nj nc 0 i := fun i hi => Or.inl ⟨rfl, hi⟩
  have jku : ∀ c i, (jk c).1 ≠ 0 → i < nj → usd nj nc c i := fun c i hc hi => Or.inr (Or.inr (Or.inr ⟨hc, hi⟩))
  refine ⟨hL, fun i hi => ?_, ⟨?_, fun i hi => ?_⟩, fun i hi => ?_, fun c i hi hc => ?_, fun t ht => ?_, fun i hi => ?_, fun j hj t ht => ?_⟩
  · rw [hA 0 i (rku i hi), (k.2 _ (hu 0 i (rku i hi))).1, (k.2 _ (hu 0 i (rku i hi))).2.1]; exact h2 i hi
  · rw [hA 0 23 (rku 23 (by decide)), (k.2 _ (hu 0 23 (rku 23 (by decide)))).1]; exact h3.1
  · rw [hA 1 i (mku i hi), (k.2 _ (hu 1 i (mku i hi))).1, (k.2 _ (hu 1 i (mku i hi))).2.1]; exact h3.2 i hi
  · have u : usd nj nc 2 i := Or.inr (Or.inr (Or.inl ⟨rfl, hi⟩))
    rw [hA 2 i u, (k.2 _ (hu 2 i u)).1]; exact h4 i hi
  · have u := jku c i hc hi
    rw [hA c i u, (k.2 _ (hu c i u)).1, (k.2 _ (hu c i u)).2.1]; exact h5 c i hi hc
  · have r1 : ∀ t ∈ rp, t.1 < 25 ∧ t.2.2 < 25 := by decide
    have u1 := rku t.1 (r1 t ht).1
    rw [hA 0 t.1 u1, hA 0 t.2.2 (rku _ (r1 t ht).2), ((k.2 _ (hu 0 t.1 u1)).2.2 (hP 0 t.1 u1 (by decide) (by decide))).2.2]; exact h6 t ht
  · have u1 := rku 23 (by decide)
    rw [hA 0 23 u1, hA 1 i (mku i hi), ((k.2 _ (hu 0 23 u1)).2.2 (hP 0 23 u1 (by decide) (by decide))).2.2]; exact h7 i hi
  · have r1 : ∀ t ∈ jp, (jk t.1).1 ≠ 0 ∧ (jk t.2.2).1 ≠ 0 ∧ t.1 ≠ 4 ∧ t.1 ≠ 5 := by decide
    have u1 := jku t.1 j (r1 t ht).1 hj
    rw [hA t.1 j u1, hA t.2.2 j (jku _ j (r1 t ht).2.1 hj), ((k.2 _ (hu t.1 j u1)).2.2 (hP t.1 j u1 (r1 t ht).2.2.1 (r1 t ht).2.2.2)).2.2]; exact h8 j hj t ht
/-- names and cells as before but for the lists -/
def Ra (A : Nat → Nat → Nat) (nj nc : Nat) (I : FI) (J : FJ) (R : FR) (A' : Nat → Nat → Nat) (I' : FI) (J' : FJ) (R' : FR) : Prop :=
  ∀ c i, usd nj nc c i → A' c i = A c i ∧ (c ≠ 4 → c ≠ 5 → (∀ p, I' c i p = I c i p) ∧ (∀ p, J' c i p = J c i p) ∧ ∀ p, vr c i p = true → R' c i p = R c i p)
/-- functions that are the same at the lists, so that Rl holds of them -/
theorem Ra.rl {A' : Nat → Nat → Nat} {I' : FI} {J' : FJ} {R' : FR} (r : Ra A nj nc I J R A' I' J' R') : Rl A S nj nc I J R (fun c i => if c = 17 ∨ c = 18 then A c i else A' c i) S (fun c i p => if c = 4 ∨ c = 5 then I c i p else I' c i p) (fun c i p => if c = 4 ∨ c = 5 then J c i p else J' c i p) (fun c i p => if c = 4 ∨ c = 5 ∨ c = 17 ∨ c = 18 then R c i p else R' c i p) := by
  refine ⟨fun c i u => ?_, rfl, fun k _ hk => ⟨hk, rfl⟩, fun c i hc hi hk => ⟨if_pos hc, hk, rfl, fun p => if_pos (Or.inr (Or.inr hc))⟩⟩
  have hc17 : ¬ (c = 17 ∨ c = 18) := by
    rcases u with ⟨rfl, -⟩ | ⟨rfl, -⟩ | ⟨rfl, -⟩ | ⟨hc, -⟩
    · decide
    · decide
    · decide
    · have := jk_lt hc; omega
  obtain ⟨r1, r2⟩ := r c i u
  refine ⟨(if_neg hc17).trans r1, ?_⟩
  by_cases e : c = 4 ∨ c = 5
  · have e2 : c = 4 ∨ c = 5 ∨ c = 17 ∨ c = 18 := by omega
    exact ⟨fun p => if_pos e, fun p => if_pos e, fun p _ => if_pos e2⟩
  · have e2 : ¬ (c = 4 ∨ c = 5 ∨ c = 17 ∨ c = 18) := by omega
    obtain ⟨q1, q2, q3⟩ := r2 (by omega) (by omega)
    exact ⟨fun p => (if_neg e).trans (q1 p), fun p => (if_neg e).trans (q2 p), fun p hp => (if_neg e2).trans (q3 p hp)⟩
/-- all but the lists themselves -/
theorem Ra.st0 {A' : Nat → Nat → Nat} {I' : FI} {J' : FJ} {R' : FR} (r : Ra A nj nc I J R A' I' J' R') (h : vSt A S nc nw nm nj cw jc I J R) : vN nc nw nm nj cw jc ∧ vCnt nc nw nm nj I' ∧ vCr nc cw A' I' R' ∧ vJo nj jc A' I' R' ∧ vOd nj jc A' I' R' ∧ vLn nj I' J' ∧ vNd nj I' J' ∧ vAm 8 13 nj I' ∧ vAm 11 14 nj I' ∧ vRc nj I' ∧ vPl nj I' ∧ vFs I' J' ∧ vZr nj nm I' := by
  obtain ⟨h0, h1, h2, h3, h4, -, h6, h7, h8, h9, h10, h11, h12, h13⟩ := r.rl.st h
  have aI : ∀ g : Nat → Nat → Nat → Bool, (∀ i p, g 4 i p = false ∧ g 5 i p = false) → Ag g (fun c i p => if c = 4 ∨ c = 5 then I c i p else I' c i p) I' := fun g hg c i p e => by
    have : ¬ (c = 4 ∨ c = 5) := by
      rintro (rfl | rfl)
      · rw [(hg i p).1] at e; cases e
      · rw [(hg i p).2] at e; cases e
    exact (if_neg this).symm
  have aJ : ∀ g : Nat → Nat → Nat → Bool, (∀ i p, g 4 i p = false ∧ g 5 i p = false) → Ag g (fun c i p => if c = 4 ∨ c = 5 then J c i p else J' c i p) J' := fun g hg c i p e => by
    have : ¬ (c = 4 ∨ c = 5) := by
      rintro (rfl | rfl)
      · rw [(hg i p).1] at e; cases e
      · rw [(hg i p).2] at e; cases e
    exact (if_neg this).symm
  have aR : ∀ g : Nat → Nat → Nat → Bool, (∀ i p, g 4 i p = false ∧ g 5 i p = false ∧ g 17 i p = false ∧ g 18 i p = false) → Ag g (fun c i p => if c = 4 ∨ c = 5 ∨ c = 17 ∨ c = 18 then R c i p else R' c i p) R' := fun g hg c i p e => by
    have : ¬ (c = 4 ∨ c = 5 ∨ c = 17 ∨ c = 18) := by
      rintro (rfl | rfl | rfl | rfl)
      · rw [(hg i p).1] at e; cases e
      · rw [(hg i p).2.1] at e; cases e
      · rw [(hg i p).2.2.1] at e; cases e
      · rw [(hg i p).2.2.2] at e; cases e
    exact (if_neg this).symm
  have h2 := vCr_c (aI _ (fun _ _ => ⟨rfl, rfl⟩)) (aR _ (fun _ _ => ⟨rfl, rfl, rfl, rfl⟩)) h2
  have h3 := vJo_c (aI _ (fun _ _ => ⟨rfl, rfl⟩)) (aR _ (fun _ _ => ⟨rfl, rfl, rfl, rfl⟩)) h3
  have h4 := vOd_c (aI _ (fun _ _ => ⟨rfl, rfl⟩)) (aR _ (fun _ _ => ⟨rfl, rfl, rfl, rfl⟩)) h4
  refine ⟨h0, vCnt_c (aI _ (fun _ _ => ⟨rfl, rfl⟩)) h1, h2, h3, h4, vLn_c (aI _ (fun _ _ => ⟨rfl, rfl⟩)) (aJ _ (fun _ _ => ⟨rfl, rfl⟩)) h6, vNd_c (aI _ (fun _ _ => ⟨rfl, rfl⟩)) (aJ _ (fun _ _ => ⟨rfl, rfl⟩)) h7, vAm_c (aI _ (fun _ _ => ⟨rfl, rfl⟩)) h8, vAm_c (aI _ (fun _ _ => ⟨rfl, rfl⟩)) h9, vRc_c (aI _ (fun _ _ => ⟨rfl, rfl⟩)) h10, vPl_c (aI _ (fun _ _ => ⟨rfl, rfl⟩)) h11, vFs_c (aI _ (fun _ _ => ⟨rfl, rfl⟩)) (aJ _ (fun _ _ => ⟨rfl, rfl⟩)) h12, vZr_c (aI _ (fun _ _ => ⟨rfl, rfl⟩)) h13⟩
theorem Ra.tr {A' A2 : Nat → Nat → Nat} {I' I2 : FI} {J' J2 : FJ} {R' R2 : FR} (r : Ra A nj nc I J R A' I' J' R') (r2 : Ra A' nj nc I' J' R' A2 I2 J2 R2) : Ra A nj nc I J R A2 I2 J2 R2 := fun c i u => by
  obtain ⟨a1, a2⟩ := r c i u
  obtain ⟨b1, b2⟩ := r2 c i u
  refine ⟨b1.trans a1, fun q1 q2 => ?_⟩
  obtain ⟨c1, c2, c3⟩ := a2 q1 q2
  obtain ⟨d1, d2, d3⟩ := b2 q1 q2
  exact ⟨fun p => (d1 p).trans (c1 p), fun p => (d2 p).trans (c2 p), fun p hp => (d3 p hp).trans (c3 p hp)⟩
theorem Ra.nr (S : Hp) {A' : Nat → Nat → Nat} {I' : FI} {J' : FJ} {R' : FR} (r : Ra A nj nc I J R A' I' J' R') (h : nRc nj I) : nRc nj I' := by
  have := (r.rl (S := S)).nr h
  exact nRc_c (fun c i p e => by
    have : ¬ (c = 4 ∨ c = 5) := by
      rintro (rfl | rfl) <;> cases e
    exact (if_neg this).symm) this
end AF
