section FN
variable {A : Nat → Nat → Nat} {I : FI} {et x mm out : Nat} {T : Hp} {Q : Hp → Prop}
theorem cs20 : ∀ t ∈ ((0, 24, 16, 1) :: csY : lsC), t.1 < 20 := by decide +kernel
theorem cs_rk : ∀ i, i < 25 → (0, i, (rk i).1, (rk i).2) ∈ ((0, 24, 16, 1) :: csY : lsC) := by decide +kernel
theorem mk48 {k : Nat} (h : (mk k).1 ≠ 0) : k < 48 := by
  refine Decidable.byContradiction (fun z => h ?_)
  unfold mk
  split <;> first | rfl | omega
theorem cs_mk0 : ∀ k, k < 48 → ((mk k).1 = 0 ∨ (1, k, (mk k).1, (mk k).2) ∈ ((0, 24, 16, 1) :: csY : lsC)) := by decide +kernel
theorem cs_mk {k : Nat} (h : (mk k).1 ≠ 0) : (1, k, (mk k).1, (mk k).2) ∈ ((0, 24, 16, 1) :: csY : lsC) := (cs_mk0 k (mk48 h)).resolve_left h
theorem ps_rp : ∀ t ∈ rp, (0, t.1, t.2.1, 0, t.2.2) ∈ psY := by decide +kernel
theorem ps_mk0 : ∀ k, k < 48 → ((mk k).1 = 0 ∨ (0, 23, k, 1, k) ∈ psY) := by decide +kernel
theorem ps_25 : ∀ t ∈ psY, t.1 = 0 ∧ t.2.1 < 25 ∧ (t.2.2.2.1 = 0 ∧ t.2.2.2.2 < 25 ∨ t.2.2.2.1 = 1 ∧ (mk t.2.2.2.2).1 ≠ 0) := by decide +kernel
/-- the constructors establish the invariant -/
theorem Iv_0 (hb : Bt A I ((0, 24, 16, 1) :: csY) psY et T) (hi : iW I) (ex : A 0 0 = x) (em : A 0 23 = mm) (eo : A 0 24 = out) : Iv x mm out T := by
  obtain ⟨⟨t1, t2, t3⟩, b, g, d⟩ := hb
  obtain ⟨A', B', l, e⟩ := mkLA ((0, 24, 16, 1) :: csY) cs20 g
  obtain ⟨i1, i2, i3⟩ := hi
  have e0 : ∀ i, i < 25 → A' 0 i = A 0 i := fun i hi => e _ (cs_rk i hi)
  have e1 : ∀ k, (mk k).1 ≠ 0 → A' 1 k = A 1 k := fun k hk => e _ (cs_mk hk)
  have k0 : ∀ i, i < 25 → hK T (A' 0 i) = (rk i).1 ∧ hN T (A' 0 i) = (rk i).2 := fun i hi => by
    rw [e0 i hi]; have := (b _ (cs_rk i hi)).1; exact ⟨this.1, this.2.2⟩
  have k1 : ∀ k, (mk k).1 ≠ 0 → hK T (A' 1 k) = (mk k).1 ∧ hN T (A' 1 k) = (mk k).2 := fun k hk => by
    rw [e1 k hk]; have := (b _ (cs_mk hk)).1; exact ⟨this.1, this.2.2⟩
  have v0 : ∀ i p, i < 25 → hI T (A' 0 i) p = I 0 i p := fun i p hi => by rw [e0 i hi]; exact (b _ (cs_rk i hi)).2.1 p
  have v1 : ∀ k p, (mk k).1 ≠ 0 → hI T (A' 1 k) p = 0 := fun k p hk => by rw [e1 k hk, (b _ (cs_mk hk)).2.1 p]; exact i1 1 k p (by omega) (by omega)
  have j0 : ∀ i p, i < 25 → hJ T (A' 0 i) p = 0 := fun i p hi => by rw [e0 i hi]; exact (b _ (cs_rk i hi)).2.2 p
  have z0 : ∀ i p, i < 25 → i ≠ 16 → i ≠ 4 → hI T (A' 0 i) p = 0 := fun i p hi a c => by rw [v0 i p hi]; exact i1 0 i p (by omega) (by omega)
  have z4 : ∀ p, p ≠ 9 → hI T (A' 0 4) p = 0 := fun p hp => by rw [v0 4 p (by decide)]; exact i1 0 4 p (by omega) (by omega)
  have pt : ∀ t ∈ psY, hR T (A' t.1 t.2.1) t.2.2.1 = some (A' t.2.2.2.1 t.2.2.2.2) := fun t ht => by
    obtain ⟨p1, p2, p3⟩ := ps_25 t ht
    have q1 : A' t.1 t.2.1 = A t.1 t.2.1 := by rw [p1]; exact e0 _ p2
    have q2 : A' t.2.2.2.1 t.2.2.2.2 = A t.2.2.2.1 t.2.2.2.2 := by
      rcases p3 with ⟨w1, w2⟩ | ⟨w1, w2⟩
      · rw [w1]; exact e0 _ w2
      · rw [w1]; exact e1 _ w2
    rw [q1, q2]; exact (d t ht).2
  have sh : Sh A' B' T 0 0 := ⟨l, fun i hi => ⟨(k0 i hi).1, fun _ => (k0 i hi).2⟩, ⟨(k0 23 (by decide)).1, k1⟩, fun i hi => by omega, fun c j hj => by omega, fun t ht => pt (0, t.1, t.2.1, 0, t.2.2) (ps_rp t ht), fun k hk => pt (0, 23, k, 1, k) ((ps_mk0 k (mk48 hk)).resolve_left hk), fun j hj => by omega⟩
  refine ⟨A', B', T, 0, 0, 0, 0, fun _ => 0, fun _ => 0, _, _, _, (hq_self A' B' T).symm, (e0 0 (by decide)).trans ex, (e0 23 (by decide)).trans em, (e0 24 (by decide)).trans eo, sh, ⟨⟨by decide, by decide, by decide, by decide, rfl, fun j hj => by omega⟩, ⟨?_, ?_, ?_, ?_, ?_, ?_, ?_, ?_⟩, fun c hc => by omega, fun j hj => by omega, ⟨fun _ => 0, fun t ht => by omega, fun s t _ ht => by omega, fun j hj => by omega⟩, ⟨⟨by rw [t1]; exact t2, by rw [t1]; exact t3⟩, fun _ => 0, fun _ _ => 0, fun _ => 0, fun _ _ => 0, fun j hj => by omega, fun j hj => by omega, fun j b hj => by omega, fun j i i' hj => by omega, fun j i i' hj => by omega⟩, ⟨fun j k hj => by omega, fun j k hj => by omega, fun j hj => by omega, fun j k m hj => by omega, fun j k hj => by omega⟩, fun j m hj => by omega, fun j hj => by omega, fun j hj => by omega, fun j hj => by omega, fun j hj => by omega, fun s hs => ?_, ⟨fun j b _ _ _ => ⟨v1 10 _ (by decide), v1 11 _ (by decide)⟩, fun j m _ _ _ => v1 12 _ (by decide), fun j s _ _ _ => ⟨v1 13 _ (by decide), v1 14 _ (by decide)⟩, fun j _ _ => ⟨v1 16 _ (by decide), v1 17 _ (by decide)⟩⟩⟩, Or.inl ⟨⟨z4 8 (by decide), fun j hj => by omega, fun m hm => (v0 16 m (by decide)).trans (i2 m hm), z0 21 1 (by decide) (by decide) (by decide), (v0 4 9 (by decide)).trans i3, z4 10 (by decide), z4 11 (by decide), z4 12 (by decide), z4 13 (by decide), z4 14 (by decide), z4 15 (by decide), z4 16 (by decide)⟩, z0 23 22 (by decide) (by decide) (by decide)⟩, Or.inl (z0 2 7 (by decide) (by decide) (by decide))⟩
  · exact z0 1 1 (by decide) (by decide) (by decide)
  · exact z0 1 2 (by decide) (by decide) (by decide)
  · exact z0 1 3 (by decide) (by decide) (by decide)
  · exact z0 1 7 (by decide) (by decide) (by decide)
  · exact z0 23 1 (by decide) (by decide) (by decide)
  · exact z0 23 2 (by decide) (by decide) (by decide)
  · exact z0 23 3 (by decide) (by decide) (by decide)
  · exact z0 23 4 (by decide) (by decide) (by decide)
  · have a1 : hJ T (A' 0 6) s = 0 := j0 6 s (by decide)
    have a2 : hI T (A' 1 6) s = 0 := v1 6 s (by decide)
    show hJ T (A' 0 6) s = (hI T (A' 1 6) s).toInt64 ∧ 0 ≤ (hI T (A' 1 6) s).toInt ∧ (hI T (A' 1 6) s).toInt ≤ 1000000000
    rw [a1, a2]; decide
/-- one turn of the law's loop -/
theorem Iv_step {S2 : Hp} {xs : Nat → Int32} {L j : Nat} (hL : L ≤ 2560) (hj : 5 * j + 5 ≤ L) (hv : Iv x mm out S2) : wp_law_step S2 x mm out xs L (nI (5 * j)) (Iv x mm out) := by
  obtain ⟨A, B, S, nc, nw, nm, nj, cw, jc, I, J, R, rfl, rfl, rfl, rfl, hv⟩ := hv
  have b0 : vp_in (nI (5 * j)) L := vin (by omega) (by omega)
  have b1 : vp_in (nI (5 * j) + 1) L := by rw [show (1 : Int32) = nI 1 from rfl, nI_add]; exact vin (by omega) (by omega)
  have b2 : vp_in (nI (5 * j) + 2) L := by rw [show (2 : Int32) = nI 2 from rfl, nI_add]; exact vin (by omega) (by omega)
  have b3 : vp_in (nI (5 * j) + 3) L := by rw [show (3 : Int32) = nI 3 from rfl, nI_add]; exact vin (by omega) (by omega)
  have b4 : vp_in (nI (5 * j) + 4) L := by rw [show (4 : Int32) = nI 4 from rfl, nI_add]; exact vin (by omega) (by omega)
  unfold wp_law_step
  exact ⟨b0, fun _ => law0 hv b1, fun _ => ⟨fun _ => law1 hv, fun _ => ⟨fun _ => law2 hv b1 b2, fun _ => ⟨fun _ => law3 hv b1 b2 b3, fun _ => ⟨fun _ => law4 hv b1 b2, fun _ => ⟨fun _ => law5 hv b1 b2, fun _ => ⟨fun _ => law6 hv b1 b2 b3, fun _ => ⟨fun _ => law7 hv b1 b2 b3, fun _ => ⟨fun _ => law8 hv b1 b2 b3 b4, fun _ => ⟨fun _ => law9 hv b1 b2, fun _ => ⟨fun _ => law10 hv b1, fun _ => ⟨fun _ => law11 hv b1 b2 b3, fun _ => ⟨fun _ => law12 hv, fun _ => ⟨fun _ => law13 hv b1, fun _ => ⟨fun _ => law14 hv, fun _ => ⟨fun _ => law15 hv b1 b2, fun _ => ⟨fun _ => law16 hv b1, fun _ => ⟨fun _ => law17 hv b1 b2, fun _ => ⟨fun _ => law18 hv b1, fun _ => ⟨fun _ => law19 hv, fun _ => ⟨fun _ => law20 hv b1 b2, fun _ => ⟨fun _ => law21 hv b1, fun _ => ⟨fun _ => law22 hv b1, fun _ => ⟨fun _ => law23 hv b1, fun _ => ⟨fun _ => law24 hv b1 b2, fun _ => ⟨fun _ => law25 hv b1, fun _ => ⟨fun _ => law26 hv b1, fun _ => ⟨fun _ => law27 hv b1 b2, fun _ => ⟨fun _ => law28 hv, fun _ => ⟨fun _ => law29 hv b1, fun _ => iv_I hv⟩⟩⟩⟩⟩⟩⟩⟩⟩⟩⟩⟩⟩⟩⟩⟩⟩⟩⟩⟩⟩⟩⟩⟩⟩⟩⟩⟩⟩⟩
end FN
theorem pure_owed : PureOwed := by
  intro S et h1 h2 h3 xs L hL
  unfold wp_law_init
  intro x hx
  have hb0 : Bt (fun _ _ => 0) (fun _ _ _ => 0) [] [] et S := ⟨⟨h1, by rw [h2]; exact if_pos rfl, h3⟩, fun t ht => (by cases ht), fun t ht => (by cases ht), fun t ht => (by cases ht)⟩
  obtain ⟨A, hb, ex, -⟩ := hb0.new 0 0 13 0 hx (by decide) (fun _ => rfl) (by decide) (by decide)
  refine b_X11 hb ex (fun A1 I1 T1 hb1 ex1 hi => ?_)
  intro mm hm
  obtain ⟨A2, hb2, em2, o2⟩ := hb1.new 0 23 14 0 hm (by decide) (fun p => hi.1 0 23 p (by omega) (by omega)) (by decide +kernel) (by decide +kernel)
  have ex2 : A2 0 0 = x := (o2 0 0 (by decide)).trans ex1
  refine b_X12 hb2 em2 ex2 (fun c i p e => hi.1 c i p (by omega) (by omega)) (fun A3 T3 hb3 em3 ex3 => ?_)
  intro out ho
  obtain ⟨A4, hb4, eo4, o4⟩ := hb3.new 0 24 16 1 ho (by decide) (fun p => hi.1 0 24 p (by omega) (by omega)) (by decide +kernel) (by decide +kernel)
  exact ⟨Iv x mm out, Iv_0 hb4 hi ((o4 0 0 (by decide)).trans ex3) ((o4 0 23 (by decide)).trans em3) eo4, fun S2 j hj hv => Iv_step hL hj hv⟩
theorem i_vc : Claimed_1_1 ∧ Claimed_1_2 := vc_of_pure pure_owed
