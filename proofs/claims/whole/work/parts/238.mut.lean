section MT
variable {A : Nat → Nat → Nat} {B : Nat → Nat × Nat} {S : Hp} {nc nw nm nj : Nat} {cw jc : Nat → Nat} {I : FI} {J : FJ} {R : FR} {xs : Nat → Int32} {L : Nat} {l4 : Int32}
theorem law1 (hv : iv A B S nc nw nm nj cw jc I J R) : wp_law_c1 (hq A B S I J R) (A 0 0) (A 0 23) (A 0 24) xs L l4 (Iv (A 0 0) (A 0 23) (A 0 24)) := by
  have h := hv.1
  unfold wp_law_c1 wp_X11_machine
  simp only [fr_0 h, fr_1 h, fr_4 h, hi_q h, hj_q h, si_q h, sj_q h, vv_5 h, vs_5 h, vv_7 h, vs_7 h, vv_8 h, vs_8 h, vv_9 h, vs_9 h, vv_11 h, vs_11 h, vv_17 h, vs_17 h, vv_18 h, vs_18 h, vj_3 h, vj_4 h, vj_5 h, ex_some, ex_def, all_def, true_and, and_true, Nat.reduceLT]
  obtain ⟨-, -, hcm, -, -, -, hmm, -⟩ := hv.2.1.2.1
  have hm40 := hv.2.1.1.2.2.1
  rw [hcm]
  by_cases e : nm = 40
  · subst e
    refine ⟨fun z => absurd z (by decide), fun _ => ?_⟩
    unfold wp_X12_machine
    simp only [fr_23 h, hi_q h, hj_q h, si_q h, sj_q h, vv_5 h, vs_5 h, vv_7 h, vs_7 h, vv_8 h, vs_8 h, vv_9 h, vs_9 h, vv_11 h, vs_11 h, vv_17 h, vs_17 h, vv_18 h, vs_18 h, vj_3 h, vj_4 h, vj_5 h, ex_some, ex_def, all_def, true_and, and_true, Nat.reduceLT, up3, hmm]
    refine ⟨fun _ => ⟨fun _ => ?_, fun z => absurd rfl z⟩, fun z => absurd rfl z⟩
    refine ⟨A, B, S, nc, nw, 40, nj, cw, jc, _, _, _, rfl, rfl, rfl, rfl, h, vSt_c (Fy.rf.I rfl) hv.2.1, vRn_c (Ag.up Ag.rf rfl) Ag.rf hv.2.2.1, vPa_c (Ag.up Ag.rf rfl) Ag.rf hv.2.2.2⟩
  · refine ⟨fun _ => ?_, fun z => absurd (nI_lt (a := nm) (b := 40) (by omega) (by decide)) z⟩
    refine p_emp hv (fun I' J' R' f g hs hp => ?_)
    obtain ⟨h0, h1, h2, h3, h4, h5, h6, h7, h8, h9, h10, h11, h12, h13⟩ := hs
    obtain ⟨-, -, hcm, -, -, -, hmm, -⟩ := id h1
    have e40 : ¬ nI nm = 40 := fun z => e ((nI_eq (b := 40) (by omega) (by decide)).mp z)
    unfold wp_X9_addMachine wp_X12_machine wp_X12_done
    simp only [fr_0 h, fr_1 h, fr_23 h, hi_q h, hj_q h, si_q h, sj_q h, vv_5 h, vs_5 h, vv_7 h, vs_7 h, vv_8 h, vs_8 h, vv_9 h, vs_9 h, vv_11 h, vs_11 h, vv_17 h, vs_17 h, vv_18 h, vs_18 h, vj_3 h, vj_4 h, vj_5 h, ex_some, ex_def, all_def, true_and, and_true, Nat.reduceLT]
    simp [up3, hcm, hmm, e40]
    trace_state
    sorry
end MT
