section L13
variable {A : Nat → Nat → Nat} {B : Nat → Nat × Nat} {S : Hp} {nc nw nm nj : Nat} {cw jc : Nat → Nat} {I : FI} {J : FJ} {R : FR} {xs : Nat → Int32} {L : Nat} {l4 : Int32}
theorem evs_b {t : Rs} (n4 : nj ≤ 200) : sumN nj (fun j => evn (oS t j)) ≤ 400 := by
  have := sumN_le (f := fun j => evn (oS t j)) (b := 2) (n := nj) (fun i _ => evn_le _)
  omega
theorem law13 (hv : iv A B S nc nw nm nj cw jc I J R) (b1 : vp_in (l4 + 1) L) : wp_law_c13 (hq A B S I J R) (A 0 0) (A 0 23) (A 0 24) xs L l4 (Iv (A 0 0) (A 0 23) (A 0 24)) := by
  have h := hv.1
  have hT := iv_t hv 0
  obtain ⟨n1, n2, n3, n4, n5, n6⟩ := hv.2.1.1
  obtain ⟨k1, k2, k3, k4, k5, k6, k7, k8⟩ := hv.2.1.2.1
  unfold wp_law_c13 wp_X11_run
  generalize xs (l4 + 1).toNatClampNeg = a1
  refine ⟨b1, (fr_0 h _ _ _).1, ?_⟩
  by_cases z1 : a1 < 1
  · refine ⟨fun _ => ⟨b1, fr_23 h _ _ _, ?_⟩, fun w => absurd z1 w⟩
    unfold wp_X12_run
    refine ⟨fr_23 h _ _ _, fun _ => ?_, fun w => absurd z1 w⟩
    rw [si_q h (by decide)]
    exact ⟨fun _ => hT, fun w => absurd rfl w⟩
  by_cases z2 : a1 ≤ 1000000
  case neg =>
    refine ⟨fun w => absurd w z1, fun _ => ⟨fun w => absurd w z2, fun _ => ⟨b1, fr_23 h _ _ _, ?_⟩⟩⟩
    unfold wp_X12_run
    refine ⟨fr_23 h _ _ _, fun w => absurd w z1, fun _ => ⟨fun w => absurd w z2, fun _ => ?_⟩⟩
    rw [si_q h (by decide)]
    exact ⟨fun _ => hT, fun w => absurd rfl w⟩
  rcases i32c a1 with z | ⟨d, hd, rfl⟩
  · exact absurd (by rw [Int32.lt_iff_toInt_lt] at z ⊢; have : (0 : Int32).toInt = 0 := rfl; have : (1 : Int32).toInt = 1 := rfl; omega) z1
  have d1 : 1 ≤ d := by
    rw [show (1 : Int32) = nI 1 from rfl, nI_lti hd (by decide)] at z1; omega
  have d6 : d ≤ 1000000 := by
    rw [show (1000000 : Int32) = nI 1000000 from rfl, nI_leI hd (by decide)] at z2; exact z2
  refine ⟨fun w => absurd w z1, fun _ => ⟨fun _ => ⟨(fr_0 h _ _ _).1, A 0 4, (fr_0 h _ _ _).2.2.2.2, (fr_4 h _ _ _).1, ?_⟩, fun w => absurd z2 w⟩⟩
  obtain ⟨od, o1, o2, o3⟩ := hv.2.1.2.2.2.2.1
  refine p_work h hv.2.1 o1 o2 o3 d6 (fun t a m I1 J1 R1 rn m2 W r1 c1 a1 => ⟨b1, fr_23 h _ _ _, ?_⟩)
  unfold wp_X12_run
  refine ⟨fr_23 h _ _ _, fun w => absurd w z1, fun _ => ⟨fun _ => ?_, fun w => absurd z2 w⟩⟩
  rw [si_q h (by decide)]
  have mx0 : mx A B S nc nw nm nj cw jc od I (up3 I1 0 23 0 0) J1 (up3 I1 0 23 0 0) J1 R1 := ⟨h, vSt_c (Fy.rf.I rfl) r1.st, fun k p hk => by rw [up3_off (by omega)]; exact r1.i rfl, Ag.rf, Ag.rf, fun t ht => (o1 t ht).1, o2, o3⟩
  refine p_begm mx0 (fun I2 J2 m2' r2 => ⟨fr_23 h _ _ _, ?_⟩)
  have hsb := sB_of r1
  have W0 : wW I nj nw cw jc (s0 I nj cw jc) := ⟨wf_par pok_s0 wf_00, wg_par pok_s0 wg_00, nng_par hsb pok_s0 wg_00 (nng_00 hsb)⟩
  refine p_goes hsb d6 rn m2 m2' W0 (Nat.zero_le _) r2 (fun I3 J3 m3 r3 => ⟨fr_23 h _ _ _, ?_⟩)
  rw [si_q h (by decide), si_q h (by decide)]
  obtain ⟨g1, g2, g3, g4, g5, ⟨ky, e1, e2, e3, e4⟩, g7, g8⟩ := r3
  have ne6 := evs_b (t := t) n4
  obtain ⟨fl, fa⟩ := Rn_fin d1 zA_0 rn
  refine p_srt39 (Z := EVs nj t) (n := sumN nj (fun j => evn (oS t j))) (P := fun X => rTr I nj t X ∧ rHd t X ∧ X 0 23 39 = 0 ∧ X 0 23 22 = 1 ∧ X 0 23 23 = a ∧ X 0 23 25 = nI (sumN nj (fun j => evn (oS t j)))) (fun X r p v hr z => by rcases hr with rfl | rfl | rfl <;> exact z) (fun X z => z.2.2.2.2.2) (by omega) (fun I4 ky4 m4 p4 e4 s4 => ?_) _ 0 FU _ ky (Nat.zero_add _) (by unfold FU; omega) ((m3.up rfl).up rfl) ⟨g1, g4, g8, rfl, rfl, e1⟩ ⟨e2, e3, e4⟩ (fun i i' x y => by omega)
  obtain ⟨t1, t2, t3, t4, t5, t6⟩ := p4
  have eI : ∀ c i p, moI c i p = false → I4 c i p = I1 c i p := fun c i p e => (m4.2.2.2.1 c i p (by show (!moI c i p) = true; rw [e]; rfl)).trans (up3_off (fun ⟨x, y, w⟩ => by rw [x, y, w] at e; exact absurd e (by decide)))
  have eJ : ∀ c i p, moJ c i p = false → J3 c i p = J1 c i p := fun c i p e => m4.2.2.2.2.1 c i p (by show (!moJ c i p) = true; rw [e]; rfl)
  refine ⟨fun _ => ⟨A, B, S, nc, nw, nm, nj, cw, jc, I4, J3, R1, rfl, rfl, rfl, rfl, h, m4.st, Or.inr (yR_of n4 W.1 fl fa c1 a1 eI eJ t1 t2 g5 t3 t4 t5 t6 e4 s4), vPa_c (fun c i p g => ?_) (fun c i p g => ?_) hv.2.2.2⟩, fun w => w t5.symm⟩
  · refine (eI c i p ?_).trans (r1.2.2.1.1 c i p ?_)
    all_goals
      simp only [gPa, moI, ruI, Bool.and_eq_true, Bool.or_eq_true, beq_iff_eq, Bool.not_eq_true', Bool.or_eq_false_iff, Bool.and_eq_false_iff, beq_eq_false_iff_ne, decide_eq_false_iff_not] at g ⊢
      omega
  · refine r1.2.2.1.2.2 c i p ?_
    simp only [kPa, ruR, Bool.and_eq_true, Bool.or_eq_true, beq_iff_eq, Bool.not_eq_true', Bool.or_eq_false_iff, Bool.and_eq_false_iff, beq_eq_false_iff_ne] at g ⊢
    omega
end L13
