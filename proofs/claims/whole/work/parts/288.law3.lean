section L3
variable {A : Nat → Nat → Nat} {B : Nat → Nat × Nat} {S : Hp} {nc nw nm nj : Nat} {cw jc : Nat → Nat} {I : FI} {J : FJ} {R : FR} {xs : Nat → Int32} {L : Nat} {l4 : Int32}
theorem law3 (hv : iv A B S nc nw nm nj cw jc I J R) (b1 : vp_in (l4 + 1) L) (b2 : vp_in (l4 + 2) L) (b3 : vp_in (l4 + 3) L) : wp_law_c3 (hq A B S I J R) (A 0 0) (A 0 23) (A 0 24) xs L l4 (Iv (A 0 0) (A 0 23) (A 0 24)) := by
  have h := hv.1
  have hT := iv_t hv 0
  obtain ⟨n1, n2, n3, n4, n5, n6⟩ := hv.2.1.1
  obtain ⟨k1, k2, k3, k4, k5, k6, k7, k8⟩ := hv.2.1.2.1
  unfold wp_law_c3 wp_X11_job wp_X12_job wp_X9_hasCraft wp_X12_done
  generalize xs (l4 + 1).toNatClampNeg = a1
  generalize xs (l4 + 2).toNatClampNeg = a2
  generalize xs (l4 + 3).toNatClampNeg = a3
  simp only [fr_0 h, fr_1 h, fr_4 h, fr_23 h, hi_q h, hj_q h, si_q h, sj_q h, vv_5 h, vs_5 h, vv_7 h, vs_7 h, vv_8 h, vs_8 h, vv_9 h, vs_9 h, vv_11 h, vs_11 h, vv_17 h, vs_17 h, vv_18 h, vs_18 h, vj_3 h, vj_4 h, vj_5 h, ex_some, ex_def, all_def, true_and, and_true, Nat.reduceLT, b1, b2, b3, k1, k4]
  rcases i32c a1 with z | ⟨c, hc, rfl⟩
  · simp [z, hT]
    sorry
  rcases (Nat.lt_or_ge c nc).symm with hcn | hcn
  · sorry
  sorry
end L3
