section CF
variable {A : Nat → Nat → Nat} {B : Nat → Nat × Nat} {S : Hp} {nc nw nm nj : Nat} {cw jc : Nat → Nat} {I : FI} {J : FJ} {R : FR} {xs : Nat → Int32} {L : Nat} {l4 : Int32}
theorem Sh.hq (h : Sh A B S nj nc) (I : FI) (J : FJ) (R : FR) : Sh A B (hq A B S I J R) nj nc := by
  obtain ⟨h1, h2, h3, h4, h5, h6, h7, h8⟩ := h
  refine ⟨h1, h2, h3, h4, h5, fun t ht => ?_, fun k hk => ?_, fun j hj t ht => ?_⟩
  · have r1 : ∀ t ∈ rp, vr 0 t.1 t.2.1 = false := by decide
    rw [hR_hqc h1 (by decide) (r1 t ht)]; exact h6 t ht
  · rw [hR_hqc h1 (by decide) rfl]; exact h7 k hk
  · have r1 : ∀ t ∈ jp, vr t.1 j t.2.1 = false ∧ t.1 < 20 := by
      intro t ht
      simp only [jp, List.mem_cons, List.not_mem_nil, or_false] at ht
      rcases ht with rfl | rfl | rfl | rfl | rfl | rfl | rfl | rfl | rfl | rfl | rfl | rfl | rfl <;> exact ⟨rfl, by decide⟩
    rw [hR_hqc h1 (r1 t ht).2 (r1 t ht).1]; exact h8 j hj t ht
/-- a heap in which the old cells stay, seen by new names -/
theorem rl_of {A1 : Nat → Nat → Nat} {B1 : Nat → Nat × Nat} {L : Nat → Nat → Nat → Prop} {T1 : Hp} (h : Sh A B S nj nc) (k : Kp (hq A B S I J R) T1) (l : LB A1 B1 L T1) (hL : ∀ c i a, Ld A S nj nc c i a → L c i a) : Sh A1 B1 T1 nj nc ∧ Rl A S nj nc I J R A1 T1 (fun c i p => hI T1 (A1 c i) p) (fun c i p => hJ T1 (A1 c i) p) (fun c i p => hR T1 (A1 c i) p) := by
  have ha : ∀ c i, usd nj nc c i → A1 c i = A c i := fun c i u => (l.2 c i _ (hL c i _ ⟨rfl, Or.inl u⟩)).2.1
  refine ⟨(h.hq I J R).kp k l.1 ha, fun c i u => ?_, k.1, fun q q0 hk => ?_, fun c i hc hi hk => ?_⟩
  · obtain ⟨u1, u2⟩ := h.ud u
    obtain ⟨-, -, k3⟩ := k.2 (A c i) u2
    obtain ⟨k4, k5, k6⟩ := k3 id
    rw [ha c i u]
    refine ⟨rfl, fun p => ?_, fun p => ?_, fun p hp => ?_⟩
    · show hI T1 (A1 c i) p = _
      rw [ha c i u, k4, hi_q h u1]
    · show hJ T1 (A1 c i) p = _
      rw [ha c i u, k5, hj_q h u1]
    · show hR T1 (A1 c i) p = _
      rw [ha c i u, k6, hR_hqv h.1 u1 hp]
  · obtain ⟨k1, k2, -⟩ := k.2 (hT S) (by show hK S (hT S) ≠ 0; rw [hk]; exact q0)
    exact ⟨k1.trans hk, k2⟩
  · have e := (l.2 c i _ (hL c i _ ⟨rfl, Or.inr ⟨hc, hi, hk⟩⟩)).2.1
    obtain ⟨k1, k2, k3⟩ := k.2 (A c i) (by show hK S (A c i) ≠ 0; rw [hk]; decide)
    refine ⟨e, k1.trans hk, k2, fun p => ?_⟩
    show hR T1 (A1 c i) p = _
    rw [e, ((k3 id).2.2 p)]
    rcases hc with rfl | rfl
    · exact hR_hqv h.1 (by decide) rfl
    · exact hR_hqv h.1 (by decide) rfl
theorem new_c {q : Nat} (h : Sh A B S nj nc) (h0 : hK S q = 0) : ∃ A1 B1 S1 I1 J1 R1, sN (hq A B S I J R) q 4 0 = hq A1 B1 S1 I1 J1 R1 ∧ A1 2 nc = q ∧ Sh A1 B1 S1 nj (nc + 1) ∧ Rl A S nj nc I J R A1 S1 I1 J1 R1 := by
  have l0 : LB A B (Ld A S nj nc) (hq A B S I J R) := h.lb
  obtain ⟨A1, B1, l1⟩ := l0.new (q := q) (k := 4) (n := 0) (c0 := 2) (i0 := nc) h0 (by decide) (by decide) (by
    rintro a ⟨-, u | ⟨hc, -⟩⟩
    · rcases u with ⟨z, -⟩ | ⟨z, -⟩ | ⟨-, z⟩ | ⟨z, -⟩
      · exact absurd z (by decide)
      · exact absurd z (by decide)
      · omega
      · exact absurd rfl z
    · omega)
  have k : Kp (hq A B S I J R) (sN (hq A B S I J R) q 4 0) := (On.refl _ _).new h0
  obtain ⟨s1, r1⟩ := rl_of (I := I) (J := J) (R := R) h k l1 (fun c i a z => Or.inr z)
  have ea : A1 2 nc = q := (l1.2 2 nc q (Or.inl ⟨rfl, rfl, rfl⟩)).2.1
  refine ⟨A1, B1, _, _, _, _, (hq_self A1 B1 _).symm, ea, ?_, r1⟩
  obtain ⟨a1, a2, a3, a4, a5⟩ := s1
  refine ⟨a1, a2, a3, fun i hi => ?_, a5⟩
  by_cases e : i = nc
  · rw [e, ea, hK_sN, if_pos rfl]
  · exact a4 i (by omega)
theorem law0 (hv : iv A B S nc nw nm nj cw jc I J R) (b1 : vp_in (l4 + 1) L) : wp_law_c0 (hq A B S I J R) (A 0 0) (A 0 23) (A 0 24) xs L l4 (Iv (A 0 0) (A 0 23) (A 0 24)) := by
  have h := hv.1
  have hT := iv_t hv 0
  obtain ⟨n1, n2, n3, n4, n5, n6⟩ := hv.2.1.1
  obtain ⟨k1, k2, k3, k4, k5, k6, k7, k8⟩ := hv.2.1.2.1
  unfold wp_law_c0 wp_X11_craft wp_X12_craft wp_X12_done
  generalize xs (l4 + 1).toNatClampNeg = a1
  simp only [fr_0 h, fr_1 h, fr_4 h, fr_23 h, hi_q h, hj_q h, si_q h, sj_q h, vv_5 h, vs_5 h, vv_7 h, vs_7 h, vv_8 h, vs_8 h, vv_9 h, vs_9 h, vv_11 h, vs_11 h, vv_17 h, vs_17 h, vv_18 h, vs_18 h, vj_3 h, vj_4 h, vj_5 h, ex_some, ex_def, all_def, true_and, and_true, Nat.reduceLT, b1, k1, k2]
  by_cases z1 : a1 < 0
  · simp [z1, hT]
  by_cases z2 : a1 ≤ 32
  case neg => simp [z1, z2, hT]
  obtain ⟨w, hw, rfl⟩ : ∃ w, w ≤ 32 ∧ a1 = nI w := by
    rcases i32c a1 with q | ⟨w, hw, rfl⟩
    · exact absurd q z1
    · exact ⟨w, (nI_leI (b := 32) hw (by decide)).mp z2, rfl⟩
  have n8 : (8 : Int32) ≤ nI nc ↔ nc = 8 := by rw [c8, nI_leI (by decide) (by omega)]; omega
  have e8 : nI nc = (8 : Int32) ↔ nc = 8 := by rw [c8, nI_eq (by omega) (by decide)]
  have w32 : nI nw + nI w ≤ (32 : Int32) ↔ nw + w ≤ 32 := by rw [c32, nI_add, nI_leI (by omega) (by decide)]
  simp only [z1, z2, n8, w32, not_false_eq_true, true_implies, not_true_eq_false, false_implies, true_and, and_true, false_and, and_false, forall_const, imp_self, implies_true, if_true, if_false, eq_self, Bool.true_eq_false, Bool.false_eq_true, false_or, or_false, true_or, or_true]
  by_cases z3 : nc = 8
  · simp [z3, up3, k5, hT, show nI 8 = 8 by decide]
  by_cases z4 : nw + w ≤ 32
  case neg => simp [z3, z4, up3, k5, k6, hT, e8, w32]
  simp only [z3, z4, not_false_eq_true, true_implies, not_true_eq_false, false_implies, true_and, and_true, false_and, and_false, forall_const, imp_self, implies_true, if_true, if_false, eq_self, Bool.true_eq_false, Bool.false_eq_true, false_or, or_false, true_or, or_true]
  refine p_emp hv (fun I' J' R' f g hs hp => ?_)
  have d1 := hs.2.1.1
  simp only [fr_0 h, fr_1 h, hi_q h, hj_q h, si_q h, sj_q h, vv_5 h, vs_5 h, vv_7 h, vs_7 h, vv_8 h, vs_8 h, vv_9 h, vs_9 h, vv_11 h, vs_11 h, vv_17 h, vs_17 h, vv_18 h, vs_18 h, vj_3 h, vj_4 h, vj_5 h, ex_some, ex_def, all_def, true_and, and_true, Nat.reduceLT]
  unfold wp_X9_addCraft
  simp only [fr_1 h, hi_q h, hj_q h, si_q h, sj_q h, vv_5 h, vs_5 h, vv_7 h, vs_7 h, vv_8 h, vs_8 h, vv_9 h, vs_9 h, vv_11 h, vs_11 h, vv_17 h, vs_17 h, vv_18 h, vs_18 h, vj_3 h, vj_4 h, vj_5 h, ex_some, ex_def, all_def, true_and, and_true, Nat.reduceLT, d1]
  refine ⟨fun _ q hq0 => ?_, fun z => absurd (nI_lt (a := nc) (b := 8) (by omega) (by decide)) z⟩
  obtain ⟨A1, B1, S1, I1, J1, R1, eT, rfl, h1', rl⟩ := new_c (I := I') (J := J') (R := R') h hq0
  have hs1 := rl.st hs
  have g1 := rl.nr g
  have hp1 := rl.pa hp
  have a0 : ∀ i, i < 25 → A 0 i = A1 0 i := fun i hi => (rl.1 0 i (Or.inl ⟨rfl, hi⟩)).1.symm
  have d1' : I' 0 1 1 = nI nc := d1
  rw [eT, a0 0 (by decide), a0 1 (by decide), a0 5 (by decide), a0 23 (by decide), a0 24 (by decide)]
  clear hv hT hs hp g rl eT hq0 a0 f
  have h := h1'
  have hs := hs1
  have hp := hp1
  have g := g1
  obtain ⟨h0, h1, h2, h3, h4, h5, h6, h7, h8, h9, h10, h11, h12, h13⟩ := hs; obtain ⟨c1, c2, c3, c4, c5, c6, c7, c8⟩ := id h1
  unfold wp_X2_init
  simp only [fr_0 h, fr_1 h, fr_5 h, fr_23 h, fm_5 h, fc_2 h (show nc < nc + 1 by omega), hi_q h, hj_q h, si_q h, sj_q h, vv_5 h, vs_5 h, vv_7 h, vs_7 h, vv_8 h, vs_8 h, vv_9 h, vs_9 h, vv_11 h, vs_11 h, vv_17 h, vs_17 h, vv_18 h, vs_18 h, vj_3 h, vj_4 h, vj_5 h, ex_some, ex_def, all_def, true_and, and_true, Nat.reduceLT, c1, c2, nI_clamp (show nc < 2 ^ 31 by omega), vin (show nc < 8 by omega) (show 8 < 2 ^ 31 by decide)]
  have q5 : ∀ (v1 v2 v3 v4 v5 v6 : Int32), True := fun _ _ _ _ _ _ => trivial
  simp [up3, c1, c2, c5, c6, e8, z3, z1, z2, w32, z4, nI_clamp (show nc < 2 ^ 31 by omega), vin (show nc < 8 by omega) (show 8 < 2 ^ 31 by decide)]
  have cw' : ∀ c, c ≤ nc → fwk (fun c => if c = nc then w else cw c) c = fwk cw c := fun c hc => fwk_congr (fun i hi => by simp [show ¬ i = nc by omega])
  refine ⟨A1, B1, S1, nc + 1, nw + w, nm, nj, fun c => if c = nc then w else cw c, jc, _, _, _, rfl, rfl, rfl, rfl, h, ⟨⟨by omega, by omega, n3, n4, ?_, fun j hj => Nat.lt_succ_of_lt (n6 j hj)⟩, ?_, ?_, (vJo_c (by repeat (first | exact Ag.rf | refine Ag.up ?_ rfl | refine Ag.ur ?_ (fun _ => rfl))) (by repeat (first | exact Ag.rf | refine Ag.up ?_ rfl | refine Ag.ur ?_ (fun _ => rfl))) h3), (vOd_c (by repeat (first | exact Ag.rf | refine Ag.up ?_ rfl | refine Ag.ur ?_ (fun _ => rfl))) (by repeat (first | exact Ag.rf | refine Ag.up ?_ rfl | refine Ag.ur ?_ (fun _ => rfl))) h4), (vLs_c (by repeat (first | exact Ag.rf | refine Ag.up ?_ rfl | refine Ag.ur ?_ (fun _ => rfl))) (by repeat (first | exact Ag.rf | refine Ag.up ?_ rfl | refine Ag.ur ?_ (fun _ => rfl))) (fun _ => rfl) (fun _ => rfl) rfl h5), (vLn_c (by repeat (first | exact Ag.rf | refine Ag.up ?_ rfl | refine Ag.ur ?_ (fun _ => rfl))) (by repeat (first | exact Ag.rf | refine Ag.up ?_ rfl | refine Ag.ur ?_ (fun _ => rfl))) h6), (vNd_c (by repeat (first | exact Ag.rf | refine Ag.up ?_ rfl | refine Ag.ur ?_ (fun _ => rfl))) (by repeat (first | exact Ag.rf | refine Ag.up ?_ rfl | refine Ag.ur ?_ (fun _ => rfl))) h7), (vAm_c (by repeat (first | exact Ag.rf | refine Ag.up ?_ rfl | refine Ag.ur ?_ (fun _ => rfl))) h8), (vAm_c (by repeat (first | exact Ag.rf | refine Ag.up ?_ rfl | refine Ag.ur ?_ (fun _ => rfl))) h9), (vRc_c (by repeat (first | exact Ag.rf | refine Ag.up ?_ rfl | refine Ag.ur ?_ (fun _ => rfl))) h10), (vPl_c (by repeat (first | exact Ag.rf | refine Ag.up ?_ rfl | refine Ag.ur ?_ (fun _ => rfl))) h11), (vFs_c (by repeat (first | exact Ag.rf | refine Ag.up ?_ rfl | refine Ag.ur ?_ (fun _ => rfl))) (by repeat (first | exact Ag.rf | refine Ag.up ?_ rfl | refine Ag.ur ?_ (fun _ => rfl))) h12), (vZr_c (by repeat (first | exact Ag.rf | refine Ag.up ?_ rfl | refine Ag.ur ?_ (fun _ => rfl))) h13)⟩, (Or.inl ⟨nRc_c (by repeat (first | exact Ag.rf | refine Ag.up ?_ rfl | refine Ag.ur ?_ (fun _ => rfl))) g, by simp [up3]⟩), (vPa_c (by repeat (first | exact Ag.rf | refine Ag.up ?_ rfl | refine Ag.ur ?_ (fun _ => rfl))) (by repeat (first | exact Ag.rf | refine Ag.up ?_ rfl | refine Ag.ur ?_ (fun _ => rfl))) hp)⟩
  · rw [fwk, cw' nc (Nat.le_refl _), n5]; simp
  · simp [vCnt, up3, c1, c2, c3, c4, c5, c6, c7, c8, nI_succ, nI_add]
  · intro c hc
    by_cases e : c = nc
    · subst e
      simp [up3, cw' c (Nat.le_refl _), n5]
    · have hc2 : c < nc := by omega
      simp [up3, e, cw' c (by omega)]
      exact h2 c hc2
end CF
