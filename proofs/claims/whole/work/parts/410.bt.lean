/-! the constructors: cells by codes, while they are made -/
def Bt (A : Nat → Nat → Nat) (I : FI) (cs : List (Nat × Nat × Nat × Nat)) (ps : List (Nat × Nat × Nat × Nat × Nat)) (et : Nat) (T : Hp) : Prop := (hT T = et ∧ hK T et = 21 ∧ hN T et = 0) ∧ (∀ t ∈ cs, (hK T (A t.1 t.2.1) = t.2.2.1 ∧ t.2.2.1 ≠ 0 ∧ hN T (A t.1 t.2.1) = t.2.2.2) ∧ (∀ p, hI T (A t.1 t.2.1) p = I t.1 t.2.1 p) ∧ ∀ p, hJ T (A t.1 t.2.1) p = 0) ∧ (∀ t ∈ cs, ∀ u ∈ cs, A t.1 t.2.1 = A u.1 u.2.1 → t.1 = u.1 ∧ t.2.1 = u.2.1) ∧ ∀ t ∈ ps, (∃ u ∈ cs, u.1 = t.1 ∧ u.2.1 = t.2.1) ∧ hR T (A t.1 t.2.1) t.2.2.1 = some (A t.2.2.2.1 t.2.2.2.2)
section BT
variable {A : Nat → Nat → Nat} {I : FI} {cs : List (Nat × Nat × Nat × Nat)} {ps : List (Nat × Nat × Nat × Nat × Nat)} {et : Nat} {T : Hp} {q a0 : Nat}
theorem Bt.k (hb : Bt A I cs ps et T) {c i k n : Nat} (hm : (c, i, k, n) ∈ cs) : hK T (A c i) = k := (hb.2.1 _ hm).1.1
theorem Bt.n (hb : Bt A I cs ps et T) {c i k n : Nat} (hm : (c, i, k, n) ∈ cs) : hN T (A c i) = n := (hb.2.1 _ hm).1.2.2
theorem Bt.i (hb : Bt A I cs ps et T) {c i k n : Nat} (hm : (c, i, k, n) ∈ cs) (p : Nat) : hI T (A c i) p = I c i p := (hb.2.1 _ hm).2.1 p
theorem Bt.p (hb : Bt A I cs ps et T) {c i p c' i' : Nat} (hm : (c, i, p, c', i') ∈ ps) : hR T (A c i) p = some (A c' i') := (hb.2.2.2 _ hm).2
theorem Bt.new (hb : Bt A I cs ps et T) (c0 i0 k n : Nat) (hq : hK T q = 0) (hk : k ≠ 0) (h0 : ∀ p, I c0 i0 p = 0) (hn : ∀ t ∈ cs, ¬ (t.1 = c0 ∧ t.2.1 = i0)) (hp : ∀ t ∈ ps, ¬ (t.2.2.2.1 = c0 ∧ t.2.2.2.2 = i0)) : ∃ A', Bt A' I ((c0, i0, k, n) :: cs) ps et (sN T q k n) ∧ A' c0 i0 = q ∧ ∀ c i, ¬ (c = c0 ∧ i = i0) → A' c i = A c i := by
  obtain ⟨⟨a1, a2, a3⟩, b, c, d⟩ := hb
  have oth : ∀ t ∈ cs, (fun c i => if c = c0 ∧ i = i0 then q else A c i) t.1 t.2.1 = A t.1 t.2.1 := fun t ht => if_neg (hn t ht)
  have nq : ∀ t ∈ cs, A t.1 t.2.1 ≠ q := fun t ht z => by
    have := (b t ht).1
    rw [z, hq] at this
    exact this.2.1 this.1.symm
  have eq : et ≠ q := fun z => by rw [z, hq] at a2; omega
  refine ⟨fun c i => if c = c0 ∧ i = i0 then q else A c i, ⟨⟨a1, ?_, ?_⟩, fun t ht => ?_, fun t ht u hu e => ?_, fun t ht => ?_⟩, if_pos ⟨rfl, rfl⟩, fun c i z => if_neg z⟩
  · rw [hK_sN, if_neg eq]; exact a2
  · rw [hN_sN, if_neg eq]; exact a3
  · rcases List.mem_cons.mp ht with rfl | ht
    · have e : (fun c i => if c = c0 ∧ i = i0 then q else A c i) c0 i0 = q := if_pos ⟨rfl, rfl⟩
      simp only [and_self, hK_sN, hN_sN, hI_sN, hJ_sN, if_true]
      exact ⟨⟨trivial, hk, trivial⟩, fun p => (h0 p).symm, fun _ => trivial⟩
    · rw [oth t ht]
      simp only [hK_sN, hN_sN, hI_sN, hJ_sN, if_neg (nq t ht)]
      exact b t ht
  · rcases List.mem_cons.mp ht with rfl | ht
    · rcases List.mem_cons.mp hu with rfl | hu
      · exact ⟨rfl, rfl⟩
      · have e2 : (fun c i => if c = c0 ∧ i = i0 then q else A c i) c0 i0 = q := if_pos ⟨rfl, rfl⟩
        rw [oth u hu] at e
        exact absurd (e.symm.trans e2) (nq u hu)
    · rcases List.mem_cons.mp hu with rfl | hu
      · have e2 : (fun c i => if c = c0 ∧ i = i0 then q else A c i) c0 i0 = q := if_pos ⟨rfl, rfl⟩
        rw [oth t ht] at e
        exact absurd (e.trans e2) (nq t ht)
      · rw [oth t ht, oth u hu] at e
        exact c t ht u hu e
  · obtain ⟨⟨u, hu, e1, e2⟩, e3⟩ := d t ht
    have o1 : (fun c i => if c = c0 ∧ i = i0 then q else A c i) t.1 t.2.1 = A t.1 t.2.1 := by rw [← e1, ← e2]; exact oth u hu
    have o2 : (fun c i => if c = c0 ∧ i = i0 then q else A c i) t.2.2.2.1 t.2.2.2.2 = A t.2.2.2.1 t.2.2.2.2 := if_neg (hp t ht)
    refine ⟨⟨u, List.mem_cons_of_mem _ hu, e1, e2⟩, ?_⟩
    rw [o1, o2, hR_sN, if_neg (by rw [← e1, ← e2]; exact nq u hu)]
    exact e3
theorem Bt.ptr (hb : Bt A I cs ps et T) (c i p c' i' : Nat) {k n : Nat} (hm : (c, i, k, n) ∈ cs) (hp : ∀ t ∈ ps, ¬ (t.1 = c ∧ t.2.1 = i ∧ t.2.2.1 = p)) : Bt A I cs ((c, i, p, c', i') :: ps) et (sR T (A c i) p (some (A c' i'))) := by
  obtain ⟨a, b, g, d⟩ := hb
  refine ⟨a, b, g, fun t ht => ?_⟩
  rcases List.mem_cons.mp ht with rfl | ht
  · exact ⟨⟨_, hm, rfl, rfl⟩, by rw [hR_sR]; exact if_pos ⟨rfl, rfl⟩⟩
  · obtain ⟨⟨u, hu, e1, e2⟩, e3⟩ := d t ht
    refine ⟨⟨u, hu, e1, e2⟩, ?_⟩
    rw [hR_sR, if_neg]
    · exact e3
    · rintro ⟨z1, z2⟩
      rw [← e1, ← e2] at z1
      obtain ⟨w1, w2⟩ := g u hu _ hm z1
      exact hp t ht ⟨by rw [← e1]; exact w1, by rw [← e2]; exact w2, z2⟩
/-- a new cell, and the field f of a cell that points to it -/
theorem Bt.st (hb : Bt A I cs ps et T) (c0 i0 k n c i f : Nat) {K0 N0 : Nat} (hq : hK T q = 0) (ea : A c i = a0) (hm : (c, i, K0, N0) ∈ cs) (hk : k ≠ 0) (h0 : ∀ p, I c0 i0 p = 0) (hn : ∀ t ∈ cs, ¬ (t.1 = c0 ∧ t.2.1 = i0)) (hp : ∀ t ∈ ps, ¬ (t.2.2.2.1 = c0 ∧ t.2.2.2.2 = i0)) (hp2 : ∀ t ∈ ps, ¬ (t.1 = c ∧ t.2.1 = i ∧ t.2.2.1 = f)) : hK (sN T q k n) a0 = K0 ∧ ∃ A', Bt A' I ((c0, i0, k, n) :: cs) ((c, i, f, c0, i0) :: ps) et (sR (sN T q k n) a0 f (some q)) ∧ A' c0 i0 = q ∧ ∀ c i, ¬ (c = c0 ∧ i = i0) → A' c i = A c i := by
  obtain ⟨A', b', e', o'⟩ := hb.new (q := q) c0 i0 k n hq hk h0 hn hp
  have e2 : A' c i = a0 := (o' c i (hn _ hm)).trans ea
  have b2 := b'.ptr c i f c0 i0 (List.mem_cons_of_mem _ hm) hp2
  rw [e', e2] at b2
  exact ⟨by rw [← e2]; exact b'.k (List.mem_cons_of_mem _ hm), A', b2, e', o'⟩
theorem Bt.wi (hb : Bt A I cs ps et T) (c i p : Nat) (v : Int32) {k n : Nat} (hm : (c, i, k, n) ∈ cs) : Bt A (up3 I c i p v) cs ps et (sI T (A c i) p v) := by
  obtain ⟨a, b, g, d⟩ := hb
  refine ⟨a, fun t ht => ⟨(b t ht).1, fun p' => ?_, (b t ht).2.2⟩, g, d⟩
  rw [hI_sI]
  by_cases z : A t.1 t.2.1 = A c i
  · obtain ⟨w1, w2⟩ := g t ht _ hm z
    simp only at w1 w2
    by_cases z2 : p' = p
    · rw [if_pos ⟨z, z2⟩, w1, w2, z2, up3_same]
    · rw [if_neg (fun w => z2 w.2), up3_off (fun w => z2 w.2.2)]; exact (b t ht).2.1 p'
  · rw [if_neg (fun w => z w.1), up3_off (fun w => z (by rw [w.1, w.2.1]))]; exact (b t ht).2.1 p'
theorem Bt.wj (hb : Bt A I cs ps et T) (a p : Nat) : Bt A I cs ps et (sJ T a p 0) := by
  obtain ⟨a', b, g, d⟩ := hb
  refine ⟨a', fun t ht => ⟨(b t ht).1, (b t ht).2.1, fun p' => ?_⟩, g, d⟩
  rw [hJ_sJ]
  split
  · rfl
  · exact (b t ht).2.2 p'
theorem Bt.wr (hb : Bt A I cs ps et T) (c i p : Nat) {k n : Nat} (hm : (c, i, k, n) ∈ cs) (hp : ∀ t ∈ ps, ¬ (t.1 = c ∧ t.2.1 = i)) : Bt A I cs ps et (sR T (A c i) p none) := by
  obtain ⟨a, b, g, d⟩ := hb
  refine ⟨a, b, g, fun t ht => ?_⟩
  obtain ⟨⟨u, hu, e1, e2⟩, e3⟩ := d t ht
  refine ⟨⟨u, hu, e1, e2⟩, ?_⟩
  rw [hR_sR, if_neg]
  · exact e3
  · rintro ⟨z1, z2⟩
    rw [← e1, ← e2] at z1
    obtain ⟨w1, w2⟩ := g u hu _ hm z1
    exact hp t ht ⟨by rw [← e1]; exact w1, by rw [← e2]; exact w2⟩
/-- names for all codes -/
theorem mkLA : ∀ (cs : List (Nat × Nat × Nat × Nat)), (∀ t ∈ cs, t.1 < 20) → (∀ t ∈ cs, ∀ u ∈ cs, A t.1 t.2.1 = A u.1 u.2.1 → t.1 = u.1 ∧ t.2.1 = u.2.1) → ∃ A' B', LA A' B' ∧ ∀ t ∈ cs, A' t.1 t.2.1 = A t.1 t.2.1 := by
  intro cs
  induction cs with
  | nil =>
    intro _ _
    refine ⟨fun c i => 20 * i + c, fun b => (b % 20, b / 20), fun c i hc => ?_, fun t ht => by cases ht⟩
    refine Prod.ext ?_ ?_
    · show (20 * i + c) % 20 = c
      omega
    · show (20 * i + c) / 20 = i
      omega
  | cons t cs ih =>
    intro h1 h2
    obtain ⟨A', B', l, e⟩ := ih (fun u hu => h1 u (List.mem_cons_of_mem _ hu)) (fun u hu v hv => h2 u (List.mem_cons_of_mem _ hu) v (List.mem_cons_of_mem _ hv))
    have t20 := h1 t List.mem_cons_self
    have et : swp (A t.1 t.2.1) (A' t.1 t.2.1) (A' t.1 t.2.1) = A t.1 t.2.1 := by
      unfold swp
      by_cases z : A' t.1 t.2.1 = A t.1 t.2.1
      · simp [z]
      · simp [z]
    refine ⟨fun c i => swp (A t.1 t.2.1) (A' t.1 t.2.1) (A' c i), fun b => B' (swp (A t.1 t.2.1) (A' t.1 t.2.1) b), fun c i hc => ?_, fun u hu => ?_⟩
    · show B' (swp _ _ (swp _ _ (A' c i))) = (c, i)
      rw [swp_swp]; exact l c i hc
    · show swp _ _ (A' u.1 u.2.1) = A u.1 u.2.1
      by_cases z : u.1 = t.1 ∧ u.2.1 = t.2.1
      · rw [z.1, z.2]; exact et
      · rcases List.mem_cons.mp hu with rfl | hu'
        · exact absurd ⟨rfl, rfl⟩ z
        · have u20 := h1 u hu
          have d1 : ¬ A' u.1 u.2.1 = A' t.1 t.2.1 := fun w => z (l.inj u20 t20 w)
          have d2 : ¬ A' u.1 u.2.1 = A t.1 t.2.1 := fun w => by
            rw [e u hu'] at w
            exact z (h2 u hu t List.mem_cons_self w)
          unfold swp
          rw [if_neg d2, if_neg d1]; exact e u hu'
end BT
