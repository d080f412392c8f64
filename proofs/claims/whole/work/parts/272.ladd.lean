section LD
variable {A : Nat → Nat → Nat} {B : Nat → Nat × Nat} {S : Hp} {nc nw nm nj : Nat} {cw jc : Nat → Nat} {I : FI} {J : FJ} {R : FR} {xs : Nat → Int32} {L : Nat} {l4 : Int32}
theorem usd_17 {c i : Nat} (u : usd nj nc c i) : ¬ (c = 17 ∨ c = 18) := by
  rcases u with ⟨rfl, -⟩ | ⟨rfl, -⟩ | ⟨rfl, -⟩ | ⟨hc, -⟩
  · decide
  · decide
  · decide
  · have := jk_lt hc; omega
theorem add_lab {L : Nat → Nat → Nat → Prop} {T T1 : Hp} {P : Nat → Prop} {c0 i0 dd d' : Nat} (l : LB A B L T) (hc : c0 < 20) (on : On P T T1) (hd : d' = dd ∧ hK T dd = 20 ∧ dd = A c0 i0 ∨ hK T d' = 0 ∧ hK T1 d' = 20) : ∃ A1 B1, LB A1 B1 (fun c i a => c = c0 ∧ i = i0 ∧ a = d' ∨ L c i a ∧ ¬ (c = c0 ∧ i = i0)) T1 := by
  rcases hd with ⟨h1, h2, h3⟩ | ⟨h1, h2⟩
  · refine ⟨A, B, l.1, ?_⟩
    rintro c i a (⟨rfl, rfl, rfl⟩ | ⟨hL, -⟩)
    · exact ⟨hc, by rw [h1, h3], by rw [h1, (on.2 dd (by rw [h2]; decide)).1, h2]; decide⟩
    · exact (l.on on).2 c i a hL
  · exact l.new2 h1 hc (by rw [h2]; decide) (fun a ha => by rw [(on.2 a ha).1]; exact ha)
theorem ls_keep {c d : Nat} {A1 : Nat → Nat → Nat} {T1 : Hp} {P : Nat → Prop} {bn : Nat → Nat} {bl : Nat → Nat → Nat} {I1 : FI} {R1 : FR} (h : Sh A B S nj nc) (hcd : c = 4 ∧ d = 17 ∨ c = 5 ∧ d = 18) (hl : lsA A S I R c d nj bn bl) (on : On P (hq A B S I J R) T1) (hI1 : ∀ c i p, I1 c i p = hI T1 (A1 c i) p) (hR1 : ∀ c i p, R1 c i p = hR T1 (A1 c i) p) (hA : ∀ c i, usd nj nc c i → A1 c i = A c i) {j : Nat} (hj : j < nj) (hAd : hK S (A d j) = 20 → A1 d j = A d j) (p1 : ¬ P (A c j)) (p2 : hK S (A d j) = 20 → ¬ P (A d j)) : I1 c j 2 = nI (bn j) ∧ bn j ≤ 200 ∧ (R1 c j 1 = some (A1 d j) ∧ hK T1 (A1 d j) = 20 ∧ bn j ≤ hN T1 (A1 d j) ∧ 1 ≤ hN T1 (A1 d j) ∧ hN T1 (A1 d j) ≤ 300 ∨ bn j = 0 ∧ R1 c j 1 = some (hT T1) ∧ hK T1 (hT T1) = 21 ∧ hN T1 (hT T1) = 0) ∧ ∀ i, i < bn j → bl j i < nj ∧ R1 d j i = some (A1 3 (bl j i)) := by
  obtain ⟨h1, h2, h3, h4⟩ := hl j hj
  have hc : c < 20 := by omega
  have hd : d < 20 := by omega
  have uc : usd nj nc c j := by
    rcases hcd with ⟨rfl, -⟩ | ⟨rfl, -⟩
    · exact Or.inr (Or.inr (Or.inr ⟨by decide, hj⟩))
    · exact Or.inr (Or.inr (Or.inr ⟨by decide, hj⟩))
  have u3 : ∀ i, i < nj → usd nj nc 3 i := fun i hi => Or.inr (Or.inr (Or.inr ⟨by decide, hi⟩))
  have hv : vr c j 1 = true := by rcases hcd with ⟨rfl, -⟩ | ⟨rfl, -⟩ <;> rfl
  have hvd : ∀ i, vr d j i = true := fun i => by rcases hcd with ⟨-, rfl⟩ | ⟨-, rfl⟩ <;> rfl
  obtain ⟨-, -, o3⟩ := on.2 (A c j) (h.ud uc).2
  obtain ⟨o4, -, o5⟩ := o3 p1
  have eI : I1 c j 2 = nI (bn j) := by rw [hI1, hA c j uc, o4, hi_q h hc]; exact h1
  have eR : R1 c j 1 = R c j 1 := by rw [hR1, hA c j uc, o5, hR_hqv h.1 hc hv]
  have eT : hT T1 = hT S := on.1
  refine ⟨eI, h2, ?_, fun i hi => ?_⟩
  · rcases h3 with ⟨a1, a2, a3, a4, a5⟩ | ⟨a1, a2, a3, a4⟩
    · obtain ⟨q1, q2, -⟩ := on.2 (A d j) (by show hK S (A d j) ≠ 0; rw [a2]; decide)
      refine Or.inl ?_
      rw [hAd a2, q1, q2, eR]
      exact ⟨a1, a2, a3, a4, a5⟩
    · obtain ⟨q1, q2, -⟩ := on.2 (hT S) (by show hK S (hT S) ≠ 0; rw [a3]; decide)
      refine Or.inr ?_
      rw [eT, q1, q2, eR]
      exact ⟨a1, a2, a3, a4⟩
  · rcases h3 with ⟨a1, a2, a3, a4, a5⟩ | ⟨a1, a2, a3, a4⟩
    · obtain ⟨-, -, q3⟩ := on.2 (A d j) (by show hK S (A d j) ≠ 0; rw [a2]; decide)
      obtain ⟨-, -, q4⟩ := q3 (p2 a2)
      refine ⟨(h4 i hi).1, ?_⟩
      rw [hR1, hAd a2, q4, hR_hqv h.1 hd (hvd i), hA 3 _ (u3 _ (h4 i hi).1)]
      exact (h4 i hi).2
    · omega
theorem one_add {c d c2 d2 j e : Nat} {bn an : Nat → Nat} {bl al : Nat → Nat → Nat} {Q : Int32 → Hp → Prop} (h : Sh A B S nj nc) (hcd : c = 4 ∧ d = 17 ∧ c2 = 5 ∧ d2 = 18 ∨ c = 5 ∧ d = 18 ∧ c2 = 4 ∧ d2 = 17) (hl : lsA A S I R c d nj bn bl) (hl2 : lsA A S I R c2 d2 nj an al) (hj : j < nj) (he : e < nj) (hn : bn j < 200)
    (hk : ∀ A1 B1 S1 I1 J1 R1, Sh A1 B1 S1 nj nc → Ra A nj nc I J R A1 I1 J1 R1 → lsA A1 S1 I1 R1 c d nj (fun i => if i = j then bn j + 1 else bn i) (fun i k => if i = j ∧ k = bn j then e else bl i k) → lsA A1 S1 I1 R1 c2 d2 nj an al → (hK S (hT S) = 21 ∧ hN S (hT S) = 0 → hK S1 (hT S1) = 21 ∧ hN S1 (hT S1) = 0) → Q 1 (hq A1 B1 S1 I1 J1 R1)) : wp_Jx4a65c_add_9ea2d (hq A B S I J R) (A c j) (some (A 3 e)) Q := by
  have hcd1 : c = 4 ∧ d = 17 ∨ c = 5 ∧ d = 18 := by omega
  have hcd2 : c2 = 4 ∧ d2 = 17 ∨ c2 = 5 ∧ d2 = 18 := by omega
  have hc : c < 20 := by omega
  have hd20 : d < 20 := by omega
  obtain ⟨dd, ial, hdd⟩ := al_q (J := J) h hcd1 hl hj
  have u3 : ∀ i, i < nj → usd nj nc 3 i := fun i hi => Or.inr (Or.inr (Or.inr ⟨by decide, hi⟩))
  have uc : usd nj nc c j := by
    rcases hcd1 with ⟨rfl, -⟩ | ⟨rfl, -⟩
    · exact Or.inr (Or.inr (Or.inr ⟨by decide, hj⟩))
    · exact Or.inr (Or.inr (Or.inr ⟨by decide, hj⟩))
  refine p_ladd ial hn (fj_3 h he I J R).1 (fun i hi => (fj_3 h ((hl j hj).2.2.2 i hi).1 I J R).1) (fun T1 d' hd' on ial' => ?_)
  have l0 : LB A B (Ld A S nj nc) (hq A B S I J R) := h.lb
  obtain ⟨A1, B1, l1⟩ := add_lab (c0 := d) (i0 := j) l0 hd20 on (by
    rcases hd' with ⟨z1, z2⟩ | z
    · exact Or.inl ⟨z1, z2, hdd z2⟩
    · exact Or.inr z)
  have hA : ∀ c i, usd nj nc c i → A1 c i = A c i := fun c' i u => (l1.2 c' i _ (Or.inr ⟨⟨rfl, Or.inl u⟩, fun z => usd_17 u (by omega)⟩)).2.1
  have hA17 : ∀ c' i, (c' = 17 ∨ c' = 18) → i < nj → ¬ (c' = d ∧ i = j) → hK S (A c' i) = 20 → A1 c' i = A c' i := fun c' i hc' hi hne hk => (l1.2 c' i _ (Or.inr ⟨⟨rfl, Or.inr ⟨hc', hi, hk⟩⟩, hne⟩)).2.1
  have hAd : A1 d j = d' := (l1.2 d j d' (Or.inl ⟨rfl, rfl, rfl⟩)).2.1
  have nP : ∀ c' i, c' < 20 → ¬ (c' = c ∧ i = j) → ¬ (c' = d ∧ i = j) → ¬ (A c' i = A c j ∨ A c' i = dd ∧ hK (hq A B S I J R) dd = 20) := fun c' i hc' n1 n2 z => by
    rcases z with z | ⟨z, zk⟩
    · exact n1 (h.1.inj hc' hc z)
    · rw [hdd zk] at z; exact n2 (h.1.inj hc' hd20 z)
  have nPu : ∀ c' i, usd nj nc c' i → c' ≠ 4 → c' ≠ 5 → ¬ (A c' i = A c j ∨ A c' i = dd ∧ hK (hq A B S I J R) dd = 20) := fun c' i u a1 a2 => nP c' i (h.ud u).1 (by omega) (fun z => usd_17 u (by omega))
  have sh1 : Sh A1 B1 T1 nj nc := (h.hq I J R).on on l1.1 hA nPu
  have ra : Ra A nj nc I J R A1 (fun c i p => hI T1 (A1 c i) p) (fun c i p => hJ T1 (A1 c i) p) (fun c i p => hR T1 (A1 c i) p) := fun c' i u => by
    refine ⟨hA c' i u, fun a1 a2 => ?_⟩
    obtain ⟨u1, u2⟩ := h.ud u
    obtain ⟨k4, k5, k6⟩ := (on.2 (A c' i) u2).2.2 (nPu c' i u a1 a2)
    refine ⟨fun p => ?_, fun p => ?_, fun p hp => ?_⟩
    · show hI T1 (A1 c' i) p = _
      rw [hA c' i u, k4, hi_q h u1]
    · show hJ T1 (A1 c' i) p = _
      rw [hA c' i u, k5, hj_q h u1]
    · show hR T1 (A1 c' i) p = _
      rw [hA c' i u, k6, hR_hqv h.1 u1 hp]
  have := hk A1 B1 T1 _ _ _ sh1 ra ?_ ?_ (fun hE => by
    have e1 : hT T1 = hT S := on.1
    obtain ⟨e2, e3, -⟩ := on.2 (hT S) (by show hK S (hT S) ≠ 0; rw [hE.1]; decide)
    rw [e1, e2, e3]; exact hE)
  · rw [hq_self] at this; exact this
  · intro j' hj'
    by_cases e2 : j' = j
    · subst e2
      obtain ⟨g1, g2, g3, g4, g5, g6⟩ := ial'
      simp only [if_true, hA c j' uc, hAd]
      refine ⟨g2, g4, ?_, fun i hi => ?_⟩
      · rcases g6 with g6 | g6
        · exact Or.inl ⟨g3, g6.1, g6.2.1, g6.2.2.1, g6.2.2.2⟩
        · omega
      · have gg := g5 i hi
        by_cases q : i = bn j'
        · simp only [q, and_self, if_true] at gg ⊢
          rw [hA 3 e (u3 e he)]; exact ⟨he, gg⟩
        · simp only [q, and_false, if_false] at gg ⊢
          have := ((hl j' hj').2.2.2 i (by omega)).1
          rw [hA 3 _ (u3 _ this)]; exact ⟨this, gg⟩
    · simp only [e2, false_and, if_false]
      exact ls_keep h hcd1 hl on (fun _ _ _ => rfl) (fun _ _ _ => rfl) hA hj' (fun z => hA17 d j' (by omega) hj' (by omega) z) (nP c j' hc (by omega) (by omega)) (fun _ => nP d j' hd20 (by omega) (by omega))
  · intro j' hj'
    exact ls_keep h hcd2 hl2 on (fun _ _ _ => rfl) (fun _ _ _ => rfl) hA hj' (fun z => hA17 d2 j' (by omega) hj' (by omega) z) (nP c2 j' (by omega) (by omega) (by omega)) (fun _ => nP d2 j' (by omega) (by omega) (by omega))
end LD
