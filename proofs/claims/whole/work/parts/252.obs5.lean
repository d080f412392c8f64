section OF
variable {A : Nat → Nat → Nat} {B : Nat → Nat × Nat} {S : Hp} {nc nw nm nj : Nat} {cw jc : Nat → Nat} {I : FI} {J : FJ} {R : FR} {xs : Nat → Int32} {L : Nat} {l4 : Int32}
theorem nI_m7 (n : Nat) : nI n &&& 7 = nI (n % 8) := by
  apply Int32.toBitVec_inj.mp
  rw [Int32.toBitVec_and]
  show BitVec.ofNat 32 n &&& BitVec.ofNat 32 7 = BitVec.ofNat 32 (n % 8)
  apply BitVec.eq_of_toNat_eq
  rw [BitVec.toNat_and, BitVec.toNat_ofNat, BitVec.toNat_ofNat, BitVec.toNat_ofNat, show 7 % 2 ^ 32 = 2 ^ 3 - 1 by decide, Nat.and_two_pow_sub_one_eq_mod]
  omega
theorem nI_m255 (n : Nat) : nI n &&& 255 = nI (n % 256) := by
  apply Int32.toBitVec_inj.mp
  rw [Int32.toBitVec_and]
  show BitVec.ofNat 32 n &&& BitVec.ofNat 32 255 = BitVec.ofNat 32 (n % 256)
  apply BitVec.eq_of_toNat_eq
  rw [BitVec.toNat_and, BitVec.toNat_ofNat, BitVec.toNat_ofNat, BitVec.toNat_ofNat, show 255 % 2 ^ 32 = 2 ^ 8 - 1 by decide, Nat.and_two_pow_sub_one_eq_mod]
  omega
theorem ek_m {m k j : Nat} (hm : m < 2 ^ 30) (hk : k < 8) (hj : j < 256) : (lN (ekey m k j) >>> ((11 : Int32).toInt64 &&& 63)).toInt32 = nI m := by
  rw [pf_shr (d := 11) (by decide) (ekey_lt hm hk hj), lN_i, show ekey m k j / 2 ^ 11 = m by unfold ekey; omega]
theorem ek_k {m k j : Nat} (hm : m < 2 ^ 30) (hk : k < 8) (hj : j < 256) : (lN (ekey m k j) >>> ((8 : Int32).toInt64 &&& 63)).toInt32 &&& 7 = nI k := by
  rw [pf_shr (d := 8) (by decide) (ekey_lt hm hk hj), lN_i, nI_m7, show ekey m k j / 2 ^ 8 % 8 = k by unfold ekey; omega]
theorem ek_j {m k j : Nat} (hj : j < 256) : (lN (ekey m k j)).toInt32 &&& 255 = nI j := by
  rw [lN_i, nI_m255, show ekey m k j % 256 = j by unfold ekey; omega]
theorem law24 (hv : iv A B S nc nw nm nj cw jc I J R) (b1 : vp_in (l4 + 1) L) (b2 : vp_in (l4 + 2) L) : wp_law_c24 (hq A B S I J R) (A 0 0) (A 0 23) (A 0 24) xs L l4 (Iv (A 0 0) (A 0 23) (A 0 24)) := by
  have h := hv.1
  have hT := iv_t hv 0
  obtain ⟨n1, n2, n3, n4, n5, n6⟩ := hv.2.1.1
  obtain ⟨k1, k2, k3, k4, k5, k6, k7, k8⟩ := hv.2.1.2.1
  unfold wp_law_c24 wp_X11_log wp_X12_log wp_X3_minuteOf wp_X3_kindOf wp_X3_jobOf
  generalize xs (l4 + 1).toNatClampNeg = a1
  generalize xs (l4 + 2).toNatClampNeg = a2
  simp only [fr_0 h, fr_4 h, fr_21 h, fr_22 h, fr_23 h, fm_36 h, fm_37 h, fm_38 h, hi_q h, hj_q h, si_q h, sj_q h, vv_5 h, vs_5 h, vv_7 h, vs_7 h, vv_8 h, vs_8 h, vv_9 h, vs_9 h, vv_11 h, vs_11 h, vv_17 h, vs_17 h, vv_18 h, vs_18 h, vj_3 h, vj_4 h, vj_5 h, ex_some, ex_def, all_def, true_and, and_true, Nat.reduceLT, b1, b2]
  have u1 : ∀ i p, up3 I 0 23 0 0 1 i p = I 1 i p := fun i p => by simp [up3]
  have u2 : up3 I 0 23 0 0 0 23 22 = I 0 23 22 := by simp [up3]
  have u3 : up3 I 0 23 0 0 0 23 25 = I 0 23 25 := by simp [up3]
  simp only [u1, u2, u3]
  rcases hv.2.2.1 with ⟨q, q22⟩ | q
  · have e1 : I 0 21 1 = 0 := q.2.2.2.1
    by_cases z : a1 < 0
    · simp [z, q22, hT]
    · simp [z, e1, q22, hT]
  · obtain ⟨ne, q1, q2, q3, q4, -⟩ := q.2.2.2.2.2.2.1
    have e22 : ¬ I 0 23 22 = 0 := by rw [q.2.1]; decide
    simp only [q2, q3, e22, not_false_eq_true, true_implies, not_true_eq_false, false_implies, true_and, and_true, false_and, and_false, forall_const, imp_self, implies_true, if_true, if_false, eq_self, Bool.true_eq_false, Bool.false_eq_true, false_or, or_false, true_or, or_true]
    rcases i32c a1 with z | ⟨i, hi, rfl⟩
    · simp [z, hT]
    rcases (Nat.lt_or_ge i ne).symm with hin | hin
    · simp [nI_pos hi, nI_nlt hin hi, hT]
    obtain ⟨m, k, j, w1, w2, w3, w4, w5, w6, w7⟩ := q4 i hin
    simp only [nI_pos hi, nI_lt hin (show ne < 2 ^ 31 by omega), nI_clamp hi, w4, w5, w6, w7, ek_m w1 w2 w3, ek_k w1 w2 w3, ek_j w3, vin (show i < 400 by omega) (show 400 < 2 ^ 31 by decide), vin (show i < 600 by omega) (show 600 < 2 ^ 31 by decide), not_false_eq_true, true_implies, not_true_eq_false, false_implies, true_and, and_true, false_and, and_false, forall_const, imp_self, implies_true, if_true, if_false, eq_self, Bool.true_eq_false, Bool.false_eq_true, false_or, or_false, true_or, or_true]
    refine ⟨fun z => ?_, fun z => ⟨fun z1 => ?_, fun z1 => ⟨fun z2 => ?_, fun z2 => ?_⟩⟩⟩ <;> simp [hT, *]
def idl (z : Int64) (p : Nat → Bool) (f : Nat → Int64) : Nat → Int64
  | 0 => z
  | k + 1 => if p k = true then idl z p f k - f k else idl z p f k
def fal2 (p : Nat → Bool) (f : Nat → Int64) : Nat → Int64
  | 0 => 0
  | k + 1 => if p k = true then fal2 p f k + f k else fal2 p f k
theorem j_sub2 (x a b : Int64) : x - (a + b) = x - a - b := by grind
theorem idl_eq {z : Int64} {p : Nat → Bool} {f g : Nat → Int64} : ∀ {n : Nat}, (∀ i, i < n → f i = g i) → idl z p f n = z - fal2 p g n := by
  intro n
  induction n with
  | zero => intro _; rw [idl, fal2]; grind
  | succ n ih =>
    intro h
    rw [idl, fal2, ih (fun i hi => h i (by omega))]
    by_cases e : p n = true
    · rw [if_pos e, if_pos e, h n (by omega), j_sub2]
    · rw [if_neg e, if_neg e]
theorem p_cidl {Q : Int64 → Hp → Prop} (hv : iv A B S nc nw nm nj cw jc I J R) {c : Nat} {z : Int64} (hc : c < nc) : ∀ (r k n : Nat), k + r = nj → r < n → Q (idl z (fun j => decide (jc j = c)) (fun j => (I 16 j 4).toInt64) nj) (hq A B S I J R) → wp_X8_idleMinutes_L15 (hq A B S I J R) (A 0 4) (A 2 c) Q n (idl z (fun j => decide (jc j = c)) (fun j => (I 16 j 4).toInt64) k) (nI k) := by
  have h := hv.1
  have hT := iv_t hv 0
  obtain ⟨n1, n2, n3, n4, n5, n6⟩ := hv.2.1.1
  obtain ⟨k1, k2, k3, k4, k5, k6, k7, k8⟩ := hv.2.1.2.1
  intro r
  induction r with
  | zero =>
    intro k n e hr hq
    obtain ⟨n, rfl⟩ : ∃ m, n = m + 1 := ⟨n - 1, by omega⟩
    obtain rfl : k = nj := by omega
    rw [wp_X8_idleMinutes_L15]
    simp only [fr_4 h, fr_1 h, hi_q h, hj_q h, si_q h, sj_q h, vv_5 h, vs_5 h, vv_7 h, vs_7 h, vv_8 h, vs_8 h, vv_9 h, vs_9 h, vv_11 h, vs_11 h, vv_17 h, vs_17 h, vv_18 h, vs_18 h, vj_3 h, vj_4 h, vj_5 h, ex_some, ex_def, all_def, true_and, and_true, Nat.reduceLT, k4]
    exact ⟨fun _ => hq, fun z => absurd (nI_le (Nat.le_refl _) (by omega)) z⟩
  | succ r ih =>
    intro k n e hr hq
    obtain ⟨n, rfl⟩ : ∃ m, n = m + 1 := ⟨n - 1, by omega⟩
    have hkn : k < nj := by omega
    obtain ⟨hR7, -, hR1, -⟩ := hv.2.1.2.2.2.1 k hkn
    have w := ih (k + 1) n (by omega) (by omega) hq
    rw [idl] at w
    rw [wp_X8_idleMinutes_L15]
    simp only [fr_4 h, fr_1 h, fr_7 h, fj_3 h hkn, fj_16 h hkn, hi_q h, hj_q h, si_q h, sj_q h, vv_5 h, vs_5 h, vv_7 h, vs_7 h, vv_8 h, vs_8 h, vv_9 h, vs_9 h, vv_11 h, vs_11 h, vv_17 h, vs_17 h, vv_18 h, vs_18 h, vj_3 h, vj_4 h, vj_5 h, ex_some, ex_def, all_def, true_and, and_true, Nat.reduceLT, k4, nI_clamp (show k < 2 ^ 31 by omega), hR7, hR1, vin (show k < 200 by omega) (show 200 < 2 ^ 31 by decide), nI_ge hkn (show nj < 2 ^ 31 by omega), not_false_eq_true, true_implies, not_true_eq_false, false_implies, true_and, and_true, false_and, and_false, forall_const, imp_self, implies_true, if_true, if_false, eq_self, Bool.true_eq_false, Bool.false_eq_true, false_or, or_false, true_or, or_true]
    simp only [Option.some.injEq, h.1.iff (show 2 < 20 by decide) (show 2 < 20 by decide), not_false_eq_true, true_implies, not_true_eq_false, false_implies, true_and, and_true, false_and, and_false, forall_const, imp_self, implies_true, if_true, if_false, eq_self, Bool.true_eq_false, Bool.false_eq_true, false_or, or_false, true_or, or_true]
    rw [show nI k + 1 = nI (k + 1) from (nI_succ k).symm]
    refine ⟨fun z => ?_, fun z => ?_⟩
    · rw [if_pos (decide_eq_true z)] at w; exact w
    · rw [if_neg (by rw [decide_eq_false z]; decide)] at w; exact w
theorem p_midl {K : Hp → Int32 → Int64 → Prop} {Q : Int64 → Hp → Prop} (hv : iv A B S nc nw nm nj cw jc I J R) {v : Int32} {J' : FJ} {c : Nat} (hc : c < nc) : ∀ (r k n : Nat), k + r = nj → r < n → K (hq A B S (up3 I 0 23 0 v) J' R) (mxI nj (fun j => I 1 28 j)) (fal2 (fun j => decide (jc j = c)) (fun j => (farM I j).toInt64) nj) → wp_X12_idle_L44 (A 0 23) (nI c) K Q n (hq A B S (up3 I 0 23 0 v) J' R) (mxI k (fun j => I 1 28 j)) (fal2 (fun j => decide (jc j = c)) (fun j => (farM I j).toInt64) k) (nI k) := by
  have h := hv.1
  have hT := iv_t hv 0
  obtain ⟨n1, n2, n3, n4, n5, n6⟩ := hv.2.1.1
  obtain ⟨k1, k2, k3, k4, k5, k6, k7, k8⟩ := hv.2.1.2.1
  have k8' : up3 I 0 23 0 v 0 23 4 = nI nj := by simp [up3, k8]
  have u1 : ∀ i p, up3 I 0 23 0 v 1 i p = I 1 i p := fun i p => by simp [up3]
  intro r
  induction r with
  | zero =>
    intro k n e hr hq
    obtain ⟨n, rfl⟩ : ∃ m, n = m + 1 := ⟨n - 1, by omega⟩
    obtain rfl : k = nj := by omega
    rw [wp_X12_idle_L44]
    simp only [fr_23 h, hi_q h, hj_q h, si_q h, sj_q h, vv_5 h, vs_5 h, vv_7 h, vs_7 h, vv_8 h, vs_8 h, vv_9 h, vs_9 h, vv_11 h, vs_11 h, vv_17 h, vs_17 h, vv_18 h, vs_18 h, vj_3 h, vj_4 h, vj_5 h, ex_some, ex_def, all_def, true_and, and_true, Nat.reduceLT, k8']
    exact ⟨fun _ => hq, fun z => absurd (nI_le (Nat.le_refl _) (by omega)) z⟩
  | succ r ih =>
    intro k n e hr hq
    obtain ⟨n, rfl⟩ : ∃ m, n = m + 1 := ⟨n - 1, by omega⟩
    have hkn : k < nj := by omega
    have hjc := (hv.2.1.2.2.2.1 k hkn).2.2.2.1
    have hjl := n6 k hkn
    have w := ih (k + 1) n (by omega) (by omega) hq
    rw [mxI, fal2] at w
    rw [wp_X12_idle_L44]
    simp only [fr_23 h, fm_28 h, fm_7 h, hi_q h, hj_q h, si_q h, sj_q h, vv_5 h, vs_5 h, vv_7 h, vs_7 h, vv_8 h, vs_8 h, vv_9 h, vs_9 h, vv_11 h, vs_11 h, vv_17 h, vs_17 h, vv_18 h, vs_18 h, vj_3 h, vj_4 h, vj_5 h, ex_some, ex_def, all_def, true_and, and_true, Nat.reduceLT, k8', u1, hjc, nI_eq (show jc k < 2 ^ 31 by omega) (show c < 2 ^ 31 by omega), nI_clamp (show k < 2 ^ 31 by omega), vin (show k < 200 by omega) (show 200 < 2 ^ 31 by decide), nI_ge hkn (show nj < 2 ^ 31 by omega), not_false_eq_true, true_implies, not_true_eq_false, false_implies, true_and, and_true, false_and, and_false, forall_const, imp_self, implies_true, if_true, if_false, eq_self, Bool.true_eq_false, Bool.false_eq_true, false_or, or_false, true_or, or_true]
    rw [show nI k + 1 = nI (k + 1) from (nI_succ k).symm]
    refine ⟨fun z => ?_, fun z => ?_⟩
    · rw [if_pos (decide_eq_true z)] at w
      refine p_far h (show k < 200 by omega) ?_
      have e1 : farM (up3 I 0 23 0 v) k = farM I k := by unfold farM; simp only [u1]
      rw [e1]; exact w
    · rw [if_neg (show ¬ (decide (jc k = c) = true) by rw [decide_eq_false z]; decide)] at w
      rw [Int64.add_zero]; exact w
theorem fal2_0 {p : Nat → Bool} {f : Nat → Int64} : ∀ {n : Nat}, (∀ i, i < n → f i = 0) → fal2 p f n = 0 := by
  intro n
  induction n with
  | zero => intro _; rfl
  | succ n ih =>
    intro h
    rw [fal2, ih (fun i hi => h i (by omega)), h n (by omega)]
    simp
theorem law23 (hv : iv A B S nc nw nm nj cw jc I J R) (b1 : vp_in (l4 + 1) L) : wp_law_c23 (hq A B S I J R) (A 0 0) (A 0 23) (A 0 24) xs L l4 (Iv (A 0 0) (A 0 23) (A 0 24)) := by
  have h := hv.1
  have hT := iv_t hv 0
  obtain ⟨n1, n2, n3, n4, n5, n6⟩ := hv.2.1.1
  obtain ⟨k1, k2, k3, k4, k5, k6, k7, k8⟩ := hv.2.1.2.1
  have hO := iv_o hv
  have hT1 := iv_t hv 1
  unfold wp_law_c23 wp_L_idle wp_X11_idle wp_X12_idle wp_X9_hasCraft wp_X8_idleMinutes wp_X12_thrown
  generalize xs (l4 + 1).toNatClampNeg = a1
  simp only [fr_0 h, fr_1 h, fr_4 h, fr_5 h, fr_23 h, hi_q h, hj_q h, si_q h, sj_q h, vv_5 h, vs_5 h, vv_7 h, vs_7 h, vv_8 h, vs_8 h, vv_9 h, vs_9 h, vv_11 h, vs_11 h, vv_17 h, vs_17 h, vv_18 h, vs_18 h, vj_3 h, vj_4 h, vj_5 h, ex_some, ex_def, all_def, true_and, and_true, Nat.reduceLT, b1, k1]
  rcases i32c a1 with z | ⟨c, hc, rfl⟩
  · simp [z, up3, hT1]
  rcases (Nat.lt_or_ge c nc).symm with hcn | hcn
  · simp [nI_pos hc, nI_le hcn hc, nI_nlt hcn hc, k5, up3, hT1]
  have c8 : ¬ nI nc ≤ nI c := nI_ge hcn (by omega)
  obtain ⟨hR5, -, -, hw, hmw⟩ := hv.2.1.2.2.1 c hcn
  simp only [nI_pos hc, c8, show ¬ ((1 : Int32) = 0) by decide, vin (show c < 8 by omega) (by decide), nI_clamp hc, hR5, ex_some, fc_2 h hcn, hi_q h, Nat.reduceLT, hw, not_false_eq_true, true_implies, not_true_eq_false, false_implies, true_and, and_true, false_and, and_false, forall_const, imp_self, implies_true, if_true, if_false, eq_self, Bool.true_eq_false, Bool.false_eq_true, false_or, or_false, true_or, or_true]
  refine p_cidl hv hcn nj 0 FU (by omega) (fu_pos (by omega)) ?_
  simp only [fr_24 h, fr_23 h, hi_q h, hj_q h, si_q h, sj_q h, vv_5 h, vs_5 h, vv_7 h, vs_7 h, vv_8 h, vs_8 h, vv_9 h, vs_9 h, vv_11 h, vs_11 h, vv_17 h, vs_17 h, vv_18 h, vs_18 h, vj_3 h, vj_4 h, vj_5 h, ex_some, ex_def, all_def, true_and, and_true, Nat.reduceLT, vp01, cl0]
  rcases hv.2.2.1 with ⟨q, q22⟩ | q
  · rw [idl_eq (g := fun _ => 0) (fun i hi => by rw [(q.2.1 i hi).2.2.2.2.1]; rfl), fal2_0 (fun _ _ => rfl), q.2.2.2.2.2.2.2.2.1]
    simp [up3, k5, nI_pos hc, nI_lt hcn (show nc < 2 ^ 31 by omega), q22, hO]
  · have hr : ¬ I 0 23 22 = 0 := by rw [q.2.1]; decide
    rw [idl_eq (g := fun j => (farM I j).toInt64) (fun i hi => by rw [(q.2.2.1 i hi).2.2.2.2.1]; rfl), q.2.2.2.2.2.2.2.2.1]
    have g1 : up3 I 0 23 0 0 0 23 22 = I 0 23 22 := by simp [up3]
    have g2 : up3 I 0 23 0 0 0 23 0 = 0 := by simp [up3]
    simp only [k5, nI_pos hc, nI_lt hcn (show nc < 2 ^ 31 by omega), g1, g2, hr, show ¬ ((0 : Int32) < 0) by decide, not_false_eq_true, true_implies, not_true_eq_false, false_implies, true_and, and_true, false_and, and_false, forall_const, imp_self, implies_true, if_true, if_false, eq_self, Bool.true_eq_false, Bool.false_eq_true, false_or, or_false, true_or, or_true]
    refine p_midl hv hcn nj 0 FU (by omega) (fu_pos (by omega)) ?_
    simp only [fr_24 h, fr_23 h, fm_5 h, hi_q h, hj_q h, si_q h, sj_q h, vv_5 h, vs_5 h, vv_7 h, vs_7 h, vv_8 h, vs_8 h, vv_9 h, vs_9 h, vv_11 h, vs_11 h, vv_17 h, vs_17 h, vv_18 h, vs_18 h, vj_3 h, vj_4 h, vj_5 h, ex_some, ex_def, all_def, true_and, and_true, Nat.reduceLT, vp01, cl0, vin (show c < 8 by omega) (show 8 < 2 ^ 31 by decide), nI_clamp hc]
    simp [up3, hmw, hO]
end OF
