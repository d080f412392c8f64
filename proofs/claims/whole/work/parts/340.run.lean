section RU
variable {A : Nat → Nat → Nat} {B : Nat → Nat × Nat} {S : Hp} {nc nw nm nj : Nat} {cw jc : Nat → Nat} {I : FI} {J : FJ} {R : FR} {xs : Nat → Int32} {L : Nat} {l4 : Int32}
variable {od : Nat → Nat} {d : Nat}
theorem sB_of {E : FI} {J0 : FJ} {R0 : FR} (hr : rx A B S nc nw nm nj cw jc od E J0 R0 I J R) : sB E nj := by
  refine ⟨fun j x hj hx => ?_, fun j hj => ?_, fun x hx => ?_, hr.2.1.1.2.2.2.1⟩
  · have a := (hr.2.1.2.2.2.2.2.2.2.2.1 j hj).2 x hx
    have b := (hr.2.1.2.2.2.2.2.2.2.2.2.1 j hj).2 x hx
    exact ⟨a, b⟩
  · obtain ⟨-, -, -, -, -, -, -, m8, m9⟩ := hr.jo hj
    obtain ⟨d1, d2, d3⟩ := hr.du hj
    have h11 := hr.2.1.2.2.2.2.2.2.2.2.2.2.2.1 j hj
    refine ⟨m8, m9, d2, ?_⟩
    have e := congrArg Int32.toInt d1
    rw [nI_toInt (by omega)] at e
    rw [← e]
    by_cases z : 0 < E 1 20 j
    · rw [if_pos z]; exact h11.2.2.1
    · rw [if_neg z]; exact Int.le_refl _
  · exact (hr.2.1.2.2.2.2.2.2.2.2.2.2.2.2.1 x hx).2
theorem cR_00 {E : FI} {J0 : FJ} {R0 : FR} {bn : Nat → Nat} {bl : Nat → Nat → Nat} (hr : rx A B S nc nw nm nj cw jc od E J0 R0 I J R) (hl : lsA A S E R0 4 17 nj bn bl) (hl2 : ∀ j b, j < nj → b < nj → (E 1 10 (200 * j + b) = 1 ↔ ∃ i, i < bn j ∧ bl j i = b)) (hl3 : ∀ j i i', j < nj → i < bn j → i' < bn j → bl j i = bl j i' → i = i') (t : ∀ j, j < nj → I 16 j 0 = 0 ∧ I 16 j 1 = -1 ∧ I 16 j 2 = -1 ∧ I 16 j 3 = -1 ∧ I 16 j 4 = 0 ∧ I 16 j 5 = 0 ∧ I 16 j 6 = 0 ∧ I 16 j 7 = nI (bn j)) (s14 : ∀ y, y < 60 → J 0 14 y = (E 1 6 y).toInt64) (aw : ∀ w, w < 32 → R 0 17 w = none) (fr : ∀ c, c < nc → I 2 c 3 = nI (cw c)) (bs : J 0 4 17 = 0) (ct : I 0 4 15 = 0 ∧ I 0 4 12 = 0 ∧ I 0 4 11 = 0 ∧ I 0 4 13 = 0) (qn : I 0 4 14 = nI nj) (qu : ∀ t, t < nj → R 0 18 t = some (A 3 (od t))) (ev : I 0 21 1 = 0) (mi : I 0 4 10 = 0 ∧ I 0 4 8 = 1 ∧ ∀ m, m < 40 → I 0 16 m = -1) : cR A E nc nj cw od s00 I J R := by
  have f0 : ∀ w, fre nj s00 w = true := fun w => fre_t.mpr (fun k _ h => absurd h (z00 k (by decide)))
  have c0 : ∀ n, n ≠ 0 → cntN nj (fun j => oS s00 j == n) = 0 := fun n hn => cntN_0.mpr (fun i _ => beq_eq_false_iff_ne.mpr (z00 i hn))
  have e0 : sumN nj (fun j => evn (oS s00 j)) = 0 := by
    have : ∀ n, sumN n (fun j => evn (oS s00 j)) = 0 := by
      intro n
      induction n with
      | zero => rfl
      | succ n ih => rw [sumN, ih]; rfl
    exact this nj
  refine ⟨fun j hj => ?_, fun y hy => ?_, fun w hw => Or.inl ⟨aw w hw, f0 w⟩, fun c hc => ?_, fun m hm => ?_, ⟨?_, ?_, ?_, 0, ct.2.2.2, ?_⟩, ⟨nj, fun t => t, qn, Nat.le_refl _, fun t ht => ⟨ht, qu t ht, z00 _ (by decide)⟩, fun t t' a _ => a, fun u hu _ => ⟨u, hu, rfl⟩⟩, ⟨fun _ => 0, ?_, ?_, fun z => ?_⟩, mi.1, mi.2.1, mi.2.2⟩
  · obtain ⟨t0, t1, t2, t3, t4, t5, t6, t7⟩ := t j hj
    have w : wts E nj s00 j = bn j := by
      unfold wts
      refine cntN_ls (f := bl j) (fun i hi => ((hl j hj).2.2.2 i hi).1) (fun i i' a b => hl3 j i i' hj a b) (fun b hb => ?_)
      rw [← hl2 j b hj hb]
      show (E 1 10 (200 * j + b) == 1 && true) = true ↔ _
      simp
    have b0 : bgI s00 j = -1 := by unfold bgI; rw [if_neg (z0b j)]
    have m0 : emI s00 j = -1 := by unfold emI; rw [if_neg (z0e j)]
    have k0 : wkI s00 j = -1 := by unfold wkI; rw [if_neg (z0b j)]
    have a0 : faI s00 j = 0 := by unfold faI; rw [if_neg (z0e j)]
    have o0 : noI E s00 j = 0 := by unfold noI; rw [if_neg (z00 j (by decide))]
    have g0 : fkI E s00 j = 0 := by unfold fkI; rw [if_neg (z00 j (by decide))]
    rw [w, b0, m0, k0, a0, o0, g0]
    exact ⟨t0, t1, t2, t3, t4, t5, t6, t7⟩
  · rw [lft_00]; exact s14 y hy
  · rw [fr c hc]
    congr 1
    have : ∀ n, cntN n (fun i => fre nj s00 (fwk cw c + i)) = n := by
      intro n
      induction n with
      | zero => rfl
      | succ n ih => rw [cntN, ih, f0]; rfl
    exact (this _).symm
  · rw [bs, jb_0]
    exact ⟨fun z => absurd z (by decide), fun ⟨k, _, z, _⟩ => absurd z (z00 k (by decide))⟩
  · rw [c0 6 (by decide)]; exact ct.1
  · rw [c0 1 (by decide)]; exact ct.2.1
  · rw [c0 2 (by decide)]; exact ct.2.2.1
  · exact ⟨fun k _ z => absurd z (z0e k), Or.inl rfl⟩
  · rw [e0]; exact ev
  · rw [e0]; exact ⟨by decide, fun i hi => absurd hi (by omega), fun i j _ hj => absurd hj (by omega)⟩
  · rw [e0]
    exact ⟨fun ⟨i, hi, _⟩ => absurd hi (by omega), fun ⟨k, _, z⟩ => z.elim (fun w => absurd w.1 (z0b k)) (fun w => absurd rfl w.1.1)⟩
theorem p_work {Q : Int32 → Hp → Prop} (h : Sh A B S nj nc) (hs : vSt A S nc nw nm nj cw jc I J R) (o1 : ∀ t, t < nj → od t < nj ∧ R 0 8 t = some (A 3 (od t))) (o2 : ∀ a b, a < b → b < nj → ahd jc (I 1 9) (od a) (od b)) (o3 : ∀ j, j < nj → ∃ t, t < nj ∧ od t = j) (hd : d ≤ 1000000) (hQ : ∀ t a m I' J' R', Rn I nj cw jc od d m (s0 I nj cw jc) t a → m ≤ 202 → wW I nj nw cw jc t → rx A B S nc nw nm nj cw jc od I J R I' J' R' → cR A I nc nj cw od t I' J' R' → I' 0 4 9 = a → Q a (hq A B S I' J' R')) : wp_X8_work (hq A B S I J R) (A 0 4) (nI d) Q := by
  have n4 : nj ≤ 200 := hs.1.2.2.2.1
  have n1 : nc ≤ 8 := hs.1.1
  unfold wp_X8_work
  refine ⟨(fr_4 h _ _ _).1, p_wipe h n4 (fun j hj => (hs.2.2.2.1 j hj).1) hs.2.1.2.2.2.1 (fun I1 J1 R1 f1 nr nw1 => ?_)⟩
  simp only [fr_4 h, hi_q h, hj_q h, si_q h, sj_q h, vv_5 h, vs_5 h, vv_7 h, vs_7 h, vv_8 h, vs_8 h, vv_9 h, vs_9 h, vv_11 h, vs_11 h, vv_17 h, vs_17 h, vv_18 h, vs_18 h, vj_3 h, vj_4 h, vj_5 h, ex_some, ex_def, all_def, true_and, and_true, Nat.reduceLT]
  have r1 : rx A B S nc nw nm nj cw jc od I J R (up3 I1 0 4 8 1) J1 R1 := ⟨h, hs, f1.I rfl, o1, o2, o3⟩
  have hsb := sB_of r1
  obtain ⟨hE, bn, bl, an, al, y1, y2, y3, y4, y5⟩ := hs.2.2.2.2.2.1
  unfold wp_X8_layOut
  have st1 : (fun c i p => if c = 0 ∧ (i = 14 ∨ i = 15) ∧ p < 0 then J1 0 6 p else J1 c i p) = J1 := by
    funext c i p; rw [if_neg (by omega)]
  have k1 := fun K Q hK => p_lay1 (I := up3 I1 0 4 8 1) (J := J1) (R := R1) (K := K) (Q := Q) h hK 60 0 FU (by omega) (by unfold FU; omega)
  rw [st1] at k1
  refine k1 _ _ (fun J2 eJ => ?_)
  have st2 : (fun c i p => if c = 2 ∧ p = 3 ∧ i < 0 then (up3 I1 0 4 8 1) 2 i 2 else (up3 I1 0 4 8 1) c i p) = up3 I1 0 4 8 1 := by
    funext c i p; rw [if_neg (by omega)]
  have k2 := fun K Q hK => p_lay2 (I := up3 I1 0 4 8 1) (J := J2) (R := R1) (K := K) (Q := Q) h n1 (fun c hc => (r1.st.2.2.1 c hc).1) r1.st.2.1.1 hK nc 0 FU (by omega) (by unfold FU; omega)
  rw [st2] at k2
  refine k2 _ _ (fun I3 eI => ?_)
  have r3 : rx A B S nc nw nm nj cw jc od I J R I3 J2 R1 := by
    refine r1.fx ⟨fun c i p e => ?_, fun c i p e => ?_, r1.2.2.1.2.2⟩
    · rw [eI]
      show (if c = 2 ∧ p = 3 ∧ i < nc then _ else _) = _
      rw [if_neg (fun z => by rw [z.1, z.2.1] at e; exact absurd e (by simp [ruI]))]
      exact r1.2.2.1.1 c i p e
    · rw [eJ]
      show (if c = 0 ∧ (i = 14 ∨ i = 15) ∧ p < 60 then _ else _) = _
      rw [if_neg (fun z => by
        obtain ⟨z1, z2, z3⟩ := z
        rw [z1] at e
        rcases z2 with z2 | z2 <;> rw [z2] at e <;> exact absurd e (by simp [ruJ]))]
      exact r1.2.2.1.2.1 c i p e
  refine p_lay3 (I1 := I3) (J1 := J2) (R1 := R1) y1 (fun I4 J4 R4 r4 q14 aI aJ aR g1 g2 g3 => ?_) nj 0 FU I3 J2 R1 (by omega) (by unfold FU; omega) r3 Ag.rf Ag.rf Ag.rf (fun i hi => by omega) (fun y hy => by rw [sumJ]; grind) (fun t ht => by omega)
  have fs : ∀ y, y < 60 → J1 0 6 y = (I 1 6 y).toInt64 := fun y hy => by
    rw [r1.jv (c := 0) (i := 6) rfl]; exact (hs.2.2.2.2.2.2.2.2.2.2.2.2.1 y hy).1
  have j14 : ∀ y, y < 60 → J4 0 14 y = (I 1 6 y).toInt64 := fun y hy => by
    rw [aJ 0 14 y rfl, eJ, ← fs y hy]
    show (if 0 = 0 ∧ (14 = 14 ∨ 14 = 15) ∧ y < 60 then _ else _) = _
    rw [if_pos ⟨rfl, Or.inl rfl, hy⟩]
  have j15 : ∀ y, y < 60 → J4 0 15 y = (I 1 6 y).toInt64 + sumJ nj (fun i => (I 1 14 (60 * i + y)).toInt64) := fun y hy => by
    rw [g2 y hy, eJ, ← fs y hy]
    show (if 0 = 0 ∧ (15 = 14 ∨ 15 = 15) ∧ y < 60 then _ else _) + _ = _
    rw [if_pos ⟨rfl, Or.inr rfl, hy⟩]
  have jo : ∀ i p, i ≠ 14 → i ≠ 15 → J4 0 i p = J1 0 i p := fun i p a b => by
    rw [aJ 0 i p (by simp [b]), eJ]
    show (if 0 = 0 ∧ (i = 14 ∨ i = 15) ∧ p < 60 then _ else _) = _
    rw [if_neg (by omega)]
  have ii : ∀ c i p, ¬ (c = 2 ∧ p = 3) → ¬ (c = 16 ∧ p = 7) → ¬ (c = 0 ∧ i = 4 ∧ p = 14) → ¬ (c = 0 ∧ i = 4 ∧ p = 8) → I4 c i p = I1 c i p := fun c i p a b e g => by
    rw [aI c i p (by simp; omega), eI]
    show (if c = 2 ∧ p = 3 ∧ i < nc then _ else _) = _
    rw [if_neg (fun z => a ⟨z.1, z.2.1⟩), up3_off g]
  obtain ⟨m1, m2, m3, m4, m5, m6, m7, m8, m9, m10, m11, m12⟩ := nr
  have c00 : cR A I nc nj cw od s00 I4 J4 R4 := by
    refine cR_00 r4 y1 (fun j b hj hb => (y3 j b hj hb).2.1) y4 (fun j hj => ?_) j14 (fun w hw => ?_) (fun c hc => ?_) ?_ ⟨?_, ?_, ?_, ?_⟩ q14 g3 ?_ ⟨?_, ?_, fun m hm => ?_⟩
    · obtain ⟨t0, t1, t2, t3, t4, t5, t6, t7⟩ := m2 j hj
      rw [ii 16 j 0 (by omega) (by omega) (by omega) (by omega), ii 16 j 1 (by omega) (by omega) (by omega) (by omega), ii 16 j 2 (by omega) (by omega) (by omega) (by omega), ii 16 j 3 (by omega) (by omega) (by omega) (by omega), ii 16 j 4 (by omega) (by omega) (by omega) (by omega), ii 16 j 5 (by omega) (by omega) (by omega) (by omega), ii 16 j 6 (by omega) (by omega) (by omega) (by omega)]
      exact ⟨t0, t1, t2, t3, t4, t5, t6, g1 j hj⟩
    · rw [aR 0 17 w rfl]; exact nw1.1 w hw
    · rw [aI 2 c 3 rfl, eI]
      show (if 2 = 2 ∧ 3 = 3 ∧ c < nc then _ else _) = _
      rw [if_pos ⟨rfl, rfl, hc⟩]
      exact (r1.st.2.2.1 c hc).2.2.2.1
    · rw [jo 4 17 (by decide) (by decide)]; exact nw1.2.1
    · rw [ii 0 4 15 (by omega) (by omega) (by omega) (by omega)]; assumption
    · rw [ii 0 4 12 (by omega) (by omega) (by omega) (by omega)]; assumption
    · rw [ii 0 4 11 (by omega) (by omega) (by omega) (by omega)]; assumption
    · rw [ii 0 4 13 (by omega) (by omega) (by omega) (by omega)]; assumption
    · rw [ii 0 21 1 (by omega) (by omega) (by omega) (by omega)]; assumption
    · rw [ii 0 4 10 (by omega) (by omega) (by omega) (by omega)]; assumption
    · rw [aI 0 4 8 rfl, eI]
      show (if 0 = 2 ∧ 8 = 3 ∧ 4 < nc then _ else _) = _
      rw [if_neg (by omega), up3_same]
    · rw [ii 0 16 m (by omega) (by omega) (by omega) (by omega)]; exact m3 m hm
  refine ⟨(fr_4 h _ _ _).1, ?_⟩
  unfold wp_X8_turnAwayHopeless
  have st3 : upR J4 0 20 (J4 0 20) = J4 := by
    funext c i p; unfold upR
    by_cases e : c = 0 ∧ i = 20
    · rw [if_pos e, e.1, e.2]
    · rw [if_neg e]
  have k3 := fun K Q hK => p_tah1 (K := K) (Q := Q) hsb r4 j15 hK nj 0 FU (J4 0 20) (by omega) (by unfold FU; omega) (fun k hk => ⟨fun z => absurd ((congrArg (fun g : Nat → Int64 => jb (g (k / 64)) (k % 64)) (funext fun p => jo 20 p (by decide) (by decide))).symm.trans z) (by rw [nw1.2.2 k hk]; decide), fun z => absurd z.1 (by omega)⟩)
  rw [st3] at k3
  refine k3 _ _ (fun f hf => ?_)
  have e00 : par s00 (fun k => decide (k < 0 ∧ hpl I nj cw jc k)) (fun _ => 5) = s00 := par_0 (fun k => decide_eq_false (fun z => by omega))
  have r5 : rx A B S nc nw nm nj cw jc od I J R I4 (upR J4 0 20 f) R4 := r4.fx (r4.2.2.1.JR (fun _ => rfl))
  refine p_tah2 (fun k _ => inferInstance) hf (fun I5 J5 r6 w6 c6 m6 => ?_) nj 0 FU I4 (upR J4 0 20 f) (by omega) (by unfold FU; omega) r5 (by rw [e00]; exact wf_00) (by rw [e00]; exact c00) (up_j f)
  have W0 : wW I nj nw cw jc (s0 I nj cw jc) := ⟨w6, wg_par pok_s0 wg_00, nng_par hsb pok_s0 wg_00 (nng_00 hsb)⟩
  refine p_work_L hsb hd 202 0 FU (s0 I nj cw jc) I5 J5 R4 (by omega) (by unfold FU; omega) r6 W0 c6 ?_ (Nat.zero_le _) (Or.inr (by omega)) hQ
  have nm : ∀ k, ¬ mks nj (s0 I nj cw jc) k := fun k z => by
    have := z.2.1
    rw [s0, par_s] at this
    split at this
    · omega
    · exact z00 k (by decide) this
  exact ⟨fun k hk => by rw [m6.1 k hk]; exact ⟨False.elim, nm k⟩, m6.2.elim (fun a => Or.inl ⟨a.1, fun k _ => nm k⟩) Or.inr⟩
end RU
