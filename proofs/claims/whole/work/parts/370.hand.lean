section MH
variable {A : Nat → Nat → Nat} {B : Nat → Nat × Nat} {S : Hp} {nc nw nm nj : Nat} {cw jc : Nat → Nat} {I : FI} {J : FJ} {R : FR} {xs : Nat → Int32} {L : Nat} {l4 : Int32}
variable {E K : FI} {L' : FJ} {od : Nat → Nat} {s t t' : Rs} {j x d c u p : Nat} {Q : Int32 → Hp → Prop}
theorem mx.oi (h : mx A B S nc nw nm nj cw jc od E K L' I J R) {a b : Nat} (ha : a < nj) (hb : b < nj) (e : od a = od b) : a = b := by
  rcases Nat.lt_trichotomy a b with q | q | q
  · exact absurd e (ahd_ne (h.2.2.2.2.2.2.1 a b q hb))
  · exact q
  · exact absurd e.symm (ahd_ne (h.2.2.2.2.2.2.1 b a q ha))
theorem rdy_bg {k w : Nat} (h0 : oS s j = 0) (h : rdy E nj (beg E s j w) k) : rdy E nj s k := by
  have o1 : ∀ m, oS (beg E s j w) m = 1 → oS s m = 1 := fun m e => by
    by_cases z : m = j
    · rw [z, bg_s] at e; omega
    · rwa [bg_o z] at e
  refine ⟨?_, fun m hm e => o1 m (h.2 m hm e)⟩
  have := h.1
  by_cases z : k = j
  · rw [z]; exact h0
  · rwa [bg_o z] at this
/-- the hands have come to craft c and to place u of the order -/
def hA (E : FI) (nj : Nat) (jc od : Nat → Nat) (t : Rs) (I : FI) (c u : Nat) : Prop := u ≤ nj ∧ (∀ p, p < u → rdy E nj t (od p) → I 1 45 (od p) ≠ 0) ∧ (∀ p, u ≤ p → p < nj → I 1 45 (od p) = 0) ∧ ∀ p, u ≤ p → p < nj → jc (od p) < c → ¬ rdy E nj t (od p)
theorem hA_step {I I' : FI} (inj : ∀ a b, a < nj → b < nj → od a = od b → a = b) (hp : u ≤ p) (hpn : p < nj) (h : hA E nj jc od t I c u) (h0 : ∀ q, u ≤ q → q < p → ¬ rdy E nj t (od q)) (hr : ∀ k, rdy E nj t' k → rdy E nj t k) (e1 : I' 1 45 (od p) ≠ 0) (e2 : ∀ k, k ≠ od p → I' 1 45 k = I 1 45 k) : hA E nj jc od t' I' c (p + 1) := by
  obtain ⟨a1, a2, a3, a4⟩ := h
  refine ⟨by omega, fun q hq r => ?_, fun q h1 h2 => ?_, fun q h1 h2 h3 r => a4 q (by omega) h2 h3 (hr _ r)⟩
  · by_cases e : q = p
    · rw [e]; exact e1
    · have r' := hr _ r
      rcases Nat.lt_or_ge q u with z | z
      · rw [e2 _ (fun w => e (inj q p (by omega) hpn w))]; exact a2 q z r'
      · exact absurd r' (h0 q z (by omega))
  · rw [e2 _ (fun w => by have := inj q p h2 hpn w; omega)]; exact a3 q (by omega) h2
theorem hA_next (hm : mx A B S nc nw nm nj cw jc od E K L' I J R) {b : Nat} (hb : b < nj) (h : hA E nj jc od t I c u) (ok : okN E nj jc t I c b) (mn : ∀ k, k < nj → okN E nj jc t I c k → frs E b k) : ∃ p, u ≤ p ∧ p < nj ∧ od p = b ∧ ∀ q, u ≤ q → q < p → ¬ rdy E nj t (od q) := by
  obtain ⟨p, hp, e⟩ := hm.2.2.2.2.2.2.2 b hb
  refine ⟨p, ?_, hp, e, fun q h1 h2 r => ?_⟩
  · rcases Nat.lt_or_ge p u with z | z
    · exact absurd (by rw [e]; exact ok.2.1) (h.2.1 p z (by rw [e]; exact ok.2.2))
    · exact z
  · have ha := hm.2.2.2.2.2.2.1 q p h2 hp
    rw [e] at ha
    rcases ha with z | ⟨z1, z2⟩
    · exact h.2.2.2 q h1 (by omega) (by rw [← ok.1]; exact z) r
    · have := mn (od q) (hm.2.2.2.2.2.1 q (by omega)) ⟨z1.trans ok.1, h.2.2.1 q h1 (by omega), r⟩
      rcases this with w | ⟨w1, w2⟩
      · rcases z2 with v | ⟨v1, v2⟩
        · rw [Int32.lt_iff_toInt_lt] at w v; omega
        · rw [v1, Int32.lt_iff_toInt_lt] at w; omega
      · rcases z2 with v | ⟨v1, v2⟩
        · rw [w1, Int32.lt_iff_toInt_lt] at v; omega
        · omega
theorem hA_none (hm : mx A B S nc nw nm nj cw jc od E K L' I J R) (h : hA E nj jc od t I c u) (no : ∀ k, k < nj → ¬ okN E nj jc t I c k) : hA E nj jc od t I (c + 1) u := by
  obtain ⟨a1, a2, a3, a4⟩ := h
  refine ⟨a1, a2, a3, fun q h1 h2 h3 r => ?_⟩
  by_cases e : jc (od q) = c
  · exact no (od q) (hm.2.2.2.2.2.1 q h2) ⟨e, a3 q h1 h2, r⟩
  · exact a4 q h1 h2 (by omega) r
theorem p_hask {l1 l2 : Int32} {K2 : Hp → Prop} (hK : ∀ I', mx A B S nc nw nm nj cw jc od E K L' I' J R → rR E nj s I' J → (∀ k, k < nj → I' 1 45 k = 0) → K2 (hq A B S I' J R)) : ∀ (r i fu : Nat) (I : FI), i + r = nj → r < fu → mx A B S nc nw nm nj cw jc od E K L' I J R → rR E nj s I J → (∀ k, k < i → I 1 45 k = 0) → wp_X12_hands_L4 (A 0 23) l1 l2 K2 Q fu (hq A B S I J R) (nI i) := by
  intro r
  induction r with
  | zero =>
    intro i fu I hi hf hm hr h0
    obtain ⟨fu, rfl⟩ : ∃ z, fu = z + 1 := ⟨fu - 1, by omega⟩
    have h := hm.1
    have : i = nj := by omega
    subst this
    rw [wp_X12_hands_L4]
    simp only [fr_23 h, hi_q h, hj_q h, si_q h, sj_q h, vv_5 h, vs_5 h, vv_7 h, vs_7 h, vv_8 h, vs_8 h, vv_9 h, vs_9 h, vv_11 h, vs_11 h, vv_17 h, vs_17 h, vv_18 h, vs_18 h, vj_3 h, vj_4 h, vj_5 h, ex_some, ex_def, all_def, true_and, and_true, Nat.reduceLT, hm.cn.2.2.2]
    exact ⟨fun _ => hK I hm hr h0, fun z => absurd (Int32.le_refl _) z⟩
  | succ r ih =>
    intro i fu I hi hf hm hr h0
    obtain ⟨fu, rfl⟩ : ∃ z, fu = z + 1 := ⟨fu - 1, by omega⟩
    have h := hm.1
    have n4 := hm.n.2.2.2
    have e0 : ¬ nI nj ≤ nI i := by rw [nI_leI (by omega) (by omega)]; omega
    rw [wp_X12_hands_L4]
    simp only [fr_23 h, fm_45 h, hi_q h, hj_q h, si_q h, sj_q h, vv_5 h, vs_5 h, vv_7 h, vs_7 h, vv_8 h, vs_8 h, vv_9 h, vs_9 h, vv_11 h, vs_11 h, vv_17 h, vs_17 h, vv_18 h, vs_18 h, vj_3 h, vj_4 h, vj_5 h, ex_some, ex_def, all_def, true_and, and_true, Nat.reduceLT, hm.cn.2.2.2, e0, not_false_eq_true, true_implies, not_true_eq_false, false_implies, true_and, and_true, false_and, and_false, forall_const, imp_self, implies_true, if_true, if_false, eq_self, Bool.true_eq_false, Bool.false_eq_true, false_or, or_false, true_or, or_true, nI_clamp (show i < 2 ^ 31 by omega), vin (show i < 200 by omega) (show 200 < 2 ^ 31 by decide), ← nI_succ]
    refine ih (i + 1) fu _ (by omega) (by omega) (hm.up rfl) hr (fun k hk => ?_)
    by_cases e : k = i
    · rw [e, up3_same]
    · rw [up3_off (by omega)]; exact h0 k (by omega)
/-- what the next ready job is -/
def nxR (E : FI) (nj : Nat) (jc : Nat → Nat) (t : Rs) (I : FI) (c : Nat) (v : Int32) : Prop := (v = -1 ∧ ∀ k, k < nj → ¬ okN E nj jc t I c k) ∨ ∃ b, v = nI b ∧ b < nj ∧ okN E nj jc t I c b ∧ ∀ k, k < nj → okN E nj jc t I c k → frs E b k
theorem p_nrx (hm : mx A B S nc nw nm nj cw jc od E K L' I J R) (hw : wf E nj nw cw jc s) (hr : rTr E nj s I) (hc : c < nc) (hQ : ∀ v, nxR E nj jc s I c v → Q v (hq A B S I J R)) : wp_X12_nextReady (hq A B S I J R) (A 0 23) (nI c) Q := p_nrm hm hw hr hc (fun b hb ok mn => hQ _ (Or.inr ⟨b, rfl, hb, ok, mn⟩)) (fun no => hQ _ (Or.inl ⟨rfl, no⟩))
theorem p_hnd42 (hs : sB E nj) (hc : c < nc) {K2 : Hp → Int32 → Prop} (hK : ∀ u t l2 I' J', mx A B S nc nw nm nj cw jc od E K L' I' J' R → wW E nj nw cw jc t → rR E nj t I' J' → bgR E nj cw jc od u s t → hA E nj jc od t I' (c + 1) u → (l2 = 0 ∨ l2 = 1) → (l2 ≠ 0 → awk nj t) → K2 (hq A B S I' J' R) l2) : ∀ (r fu u : Nat) (t : Rs) (l2 v : Int32) (I : FI) (J : FJ), nj ≤ u + r → r < fu → mx A B S nc nw nm nj cw jc od E K L' I J R → wW E nj nw cw jc t → rR E nj t I J → bgR E nj cw jc od u s t → hA E nj jc od t I c u → (l2 = 0 ∨ l2 = 1) → (l2 ≠ 0 → awk nj t) → nxR E nj jc t I c v → wp_X12_hands_L42 (A 0 23) 0 (nI c) K2 Q fu (hq A B S I J R) l2 v := by
  intro r
  induction r with
  | zero =>
    intro fu u t l2 v I J hu hf hm hW hr hb hh hl ha hv
    obtain ⟨fu, rfl⟩ : ∃ z, fu = z + 1 := ⟨fu - 1, by omega⟩
    rw [wp_X12_hands_L42]
    rcases hv with ⟨rfl, no⟩ | ⟨b, rfl, hbn, ok, mn⟩
    · exact ⟨fun _ => hK u t l2 I J hm hW hr hb (hA_none hm hh no) hl ha, fun q => absurd rfl q⟩
    · obtain ⟨p, p1, p2, -, -⟩ := hA_next hm hbn hh ok mn
      omega
  | succ r ih =>
    intro fu u t l2 v I J hu hf hm hW hr hb hh hl ha hv
    obtain ⟨fu, rfl⟩ : ∃ z, fu = z + 1 := ⟨fu - 1, by omega⟩
    have h := hm.1
    have n4 := hm.n.2.2.2
    rw [wp_X12_hands_L42]
    rcases hv with ⟨rfl, no⟩ | ⟨b, rfl, hbn, ok, mn⟩
    · exact ⟨fun _ => hK u t l2 I J hm hW hr hb (hA_none hm hh no) hl ha, fun q => absurd rfl q⟩
    · obtain ⟨p, p1, p2, p3, p4⟩ := hA_next hm hbn hh ok mn
      subst p3
      have inj := fun a b (ha : a < nj) (hb : b < nj) => hm.oi ha hb
      refine ⟨fun q => absurd q (nI_nm1 (by omega)), fun _ => ⟨fr_23 h _ _ _, A 1 45, (fm_45 h _ _ _).1, (fm_45 h _ _ _).2.1, ?_, ?_⟩⟩
      · rw [(fm_45 h _ _ _).2.2]; exact vin (show od p < 200 by omega) (by decide)
      rw [si_q h (by decide), nI_clamp (show od p < 2 ^ 31 by omega)]
      have m1 : mx A B S nc nw nm nj cw jc od E K L' (up3 I 1 45 (od p) 1) J R := hm.up rfl
      have r1 : rR E nj t (up3 I 1 45 (od p) 1) J := hr
      have q1 : up3 I 1 45 (od p) 1 1 45 (od p) ≠ 0 := by rw [up3_same]; decide
      have q2 : ∀ k, k ≠ od p → up3 I 1 45 (od p) 1 1 45 k = I 1 45 k := fun k z => up3_off (by omega)
      have bp := bgR_skip inj hb p1 (by omega) p4
      refine p_canbm m1 r1 hbn ok.2.2 (fun cn => ⟨fun q => absurd q (by decide), fun _ => ⟨fun _ => ⟨fr_23 h _ _ _, ?_⟩, fun q => absurd rfl q⟩⟩) (fun cn => ⟨fun _ => ⟨fr_23 h _ _ _, ?_⟩, fun q => absurd rfl q⟩)
      · refine p_bwm hs m1 hW r1 hbn cn (fun w I' J' hl' hnw m' r' e45 => ⟨fr_23 h _ _ _, ?_⟩)
        have W' := wW_bg hs hW hbn cn hl' hnw
        exact p_nrx m' W'.1 r'.1 hc (fun v hv => ih fu (p + 1) _ 1 v I' J' (by omega) (by omega) m' W' r' ⟨t, bp, Or.inl ⟨w, cn, hl', rfl⟩⟩ (hA_step inj p1 p2 hh p4 (fun k => rdy_bg cn.1.1) (by rw [e45]; exact q1) (fun k z => by rw [e45]; exact q2 k z)) (Or.inr rfl) (fun _ => ⟨od p, hbn, bg_s _ _ _ _⟩) hv)
      · exact p_nrx m1 hW.1 r1.1 hc (fun v hv => ih fu (p + 1) t l2 v _ J (by omega) (by omega) m1 hW r1 ⟨t, bp, Or.inr ⟨cn, rfl⟩⟩ (hA_step inj p1 p2 hh p4 (fun k => id) q1 q2) hl ha hv)
theorem p_hnd27 (hs : sB E nj) (hQ : ∀ t a I' J', bgR E nj cw jc od nj s t → wW E nj nw cw jc t → mx A B S nc nw nm nj cw jc od E K L' I' J' R → rR E nj t I' J' → (a ≠ 0 → awk nj t) → Q a (hq A B S I' J' R)) : ∀ (r c fu u : Nat) (t : Rs) (l2 : Int32) (I : FI) (J : FJ), c + r = nc → r < fu → mx A B S nc nw nm nj cw jc od E K L' I J R → wW E nj nw cw jc t → rR E nj t I J → bgR E nj cw jc od u s t → hA E nj jc od t I c u → (l2 = 0 ∨ l2 = 1) → (l2 ≠ 0 → awk nj t) → wp_X12_hands_L27 (A 0 23) 0 Q fu (hq A B S I J R) l2 (nI c) := by
  intro r
  induction r with
  | zero =>
    intro c fu u t l2 I J hc hf hm hW hr hb hh hl ha
    obtain ⟨fu, rfl⟩ : ∃ z, fu = z + 1 := ⟨fu - 1, by omega⟩
    have h := hm.1
    have : c = nc := by omega
    subst this
    rw [wp_X12_hands_L27]
    simp only [fr_23 h, hi_q h, hj_q h, si_q h, sj_q h, vv_5 h, vs_5 h, vv_7 h, vs_7 h, vv_8 h, vs_8 h, vv_9 h, vs_9 h, vv_11 h, vs_11 h, vv_17 h, vs_17 h, vv_18 h, vs_18 h, vj_3 h, vj_4 h, vj_5 h, ex_some, ex_def, all_def, true_and, and_true, Nat.reduceLT, hm.cn.1]
    refine ⟨fun _ => ⟨hl, hQ t l2 I J ?_ hW hm hr ha⟩, fun z => absurd (Int32.le_refl _) z⟩
    exact bgR_skip (fun a b ha hb => hm.oi ha hb) hb hh.1 (Nat.le_refl _) (fun p a b => hh.2.2.2 p a b (hm.jce (hm.2.2.2.2.2.1 p b)).2)
  | succ r ih =>
    intro c fu u t l2 I J hc hf hm hW hr hb hh hl ha
    obtain ⟨fu, rfl⟩ : ∃ z, fu = z + 1 := ⟨fu - 1, by omega⟩
    have h := hm.1
    have n1 := hm.n.1
    have n4 := hm.n.2.2.2
    have hcn : c < nc := by omega
    have e0 : ¬ nI nc ≤ nI c := by rw [nI_leI (by omega) (by omega)]; omega
    rw [wp_X12_hands_L27]
    simp only [fr_23 h, hi_q h, hj_q h, si_q h, sj_q h, vv_5 h, vs_5 h, vv_7 h, vs_7 h, vv_8 h, vs_8 h, vv_9 h, vs_9 h, vv_11 h, vs_11 h, vv_17 h, vs_17 h, vv_18 h, vs_18 h, vj_3 h, vj_4 h, vj_5 h, ex_some, ex_def, all_def, true_and, and_true, Nat.reduceLT, hm.cn.1, e0, not_false_eq_true, true_implies, not_true_eq_false, false_implies, true_and, and_true, false_and, and_false, forall_const, imp_self, implies_true, if_true, if_false, eq_self, Bool.true_eq_false, Bool.false_eq_true, false_or, or_false, true_or, or_true, ← nI_succ]
    exact p_nrx hm hW.1 hr.1 hcn (fun v hv => p_hnd42 hs hcn (fun u' t' l2' I' J' m' W' r' b' h' hl' ha' => ih (c + 1) fu u' t' l2' I' J' (by omega) (by omega) m' W' r' b' h' hl' ha') nj FU u t l2 v I J (by omega) (by unfold FU; omega) hm hW hr hb hh hl ha hv)
theorem p_hnd (hs : sB E nj) (hm : mx A B S nc nw nm nj cw jc od E K L' I J R) (hW : wW E nj nw cw jc s) (hr : rR E nj s I J) (hQ : ∀ t a I' J', bgR E nj cw jc od nj s t → wW E nj nw cw jc t → mx A B S nc nw nm nj cw jc od E K L' I' J' R → rR E nj t I' J' → (a ≠ 0 → awk nj t) → Q a (hq A B S I' J' R)) : wp_X12_hands (hq A B S I J R) (A 0 23) 0 Q := by
  have n1 := hm.n.1
  have n4 := hm.n.2.2.2
  unfold wp_X12_hands
  refine p_hask (s := s) (fun I' m' r' h0 => ?_) nj 0 FU I (by omega) (by unfold FU; omega) hm hr (fun k hk => by omega)
  exact p_hnd27 hs hQ nc 0 FU 0 s 0 I' J (by omega) (by unfold FU; omega) m' hW r' rfl ⟨Nat.zero_le _, fun p hp => by omega, fun p _ hp => h0 _ (m'.2.2.2.2.2.1 p hp), fun p _ _ z => by omega⟩ (Or.inl rfl) (fun q => absurd rfl q)
/-- told only: somebody would begin -/
def tlD (E : FI) (nj : Nat) (cw jc od : Nat → Nat) (s : Rs) (u : Nat) (v : Int32) : Prop := (v = 0 ∧ ∀ p, p < u → ¬ can E nj cw jc s (od p)) ∨ (v = 1 ∧ ∃ k, k < nj ∧ can E nj cw jc s k)
theorem p_tol42 (hc : c < nc) (hw : wf E nj nw cw jc s) {K2 : Hp → Int32 → Prop} (hK : ∀ u l2 I', mx A B S nc nw nm nj cw jc od E K L' I' J R → rR E nj s I' J → hA E nj jc od s I' (c + 1) u → tlD E nj cw jc od s u l2 → K2 (hq A B S I' J R) l2) : ∀ (r fu u : Nat) (l2 v : Int32) (I : FI), nj ≤ u + r → r < fu → mx A B S nc nw nm nj cw jc od E K L' I J R → rR E nj s I J → hA E nj jc od s I c u → tlD E nj cw jc od s u l2 → nxR E nj jc s I c v → wp_X12_hands_L42 (A 0 23) 1 (nI c) K2 Q fu (hq A B S I J R) l2 v := by
  intro r
  induction r with
  | zero =>
    intro fu u l2 v I hu hf hm hr hh hl hv
    obtain ⟨fu, rfl⟩ : ∃ z, fu = z + 1 := ⟨fu - 1, by omega⟩
    rw [wp_X12_hands_L42]
    rcases hv with ⟨rfl, no⟩ | ⟨b, rfl, hbn, ok, mn⟩
    · exact ⟨fun _ => hK u l2 I hm hr (hA_none hm hh no) hl, fun q => absurd rfl q⟩
    · obtain ⟨p, p1, p2, -, -⟩ := hA_next hm hbn hh ok mn
      omega
  | succ r ih =>
    intro fu u l2 v I hu hf hm hr hh hl hv
    obtain ⟨fu, rfl⟩ : ∃ z, fu = z + 1 := ⟨fu - 1, by omega⟩
    have h := hm.1
    have n4 := hm.n.2.2.2
    rw [wp_X12_hands_L42]
    rcases hv with ⟨rfl, no⟩ | ⟨b, rfl, hbn, ok, mn⟩
    · exact ⟨fun _ => hK u l2 I hm hr (hA_none hm hh no) hl, fun q => absurd rfl q⟩
    · obtain ⟨p, p1, p2, p3, p4⟩ := hA_next hm hbn hh ok mn
      subst p3
      have inj := fun a b (ha : a < nj) (hb : b < nj) => hm.oi ha hb
      refine ⟨fun q => absurd q (nI_nm1 (by omega)), fun _ => ⟨fr_23 h _ _ _, A 1 45, (fm_45 h _ _ _).1, (fm_45 h _ _ _).2.1, ?_, ?_⟩⟩
      · rw [(fm_45 h _ _ _).2.2]; exact vin (show od p < 200 by omega) (by decide)
      rw [si_q h (by decide), nI_clamp (show od p < 2 ^ 31 by omega)]
      have m1 : mx A B S nc nw nm nj cw jc od E K L' (up3 I 1 45 (od p) 1) J R := hm.up rfl
      have r1 : rR E nj s (up3 I 1 45 (od p) 1) J := hr
      have q1 : up3 I 1 45 (od p) 1 1 45 (od p) ≠ 0 := by rw [up3_same]; decide
      have q2 : ∀ k, k ≠ od p → up3 I 1 45 (od p) 1 1 45 k = I 1 45 k := fun k z => up3_off (by omega)
      have st := hA_step (t' := s) (c := c) inj p1 p2 hh p4 (fun k => id) q1 q2
      refine p_canbm m1 r1 hbn ok.2.2 (fun cn => ⟨fun q => absurd q (by decide), fun _ => ⟨fun q => absurd q (by decide), fun _ => ⟨fr_23 h _ _ _, ?_⟩⟩⟩) (fun cn => ⟨fun _ => ⟨fr_23 h _ _ _, ?_⟩, fun q => absurd rfl q⟩)
      · exact p_nrx m1 hw r1.1 hc (fun v hv => ih fu (p + 1) 1 v _ (by omega) (by omega) m1 r1 st (Or.inr ⟨rfl, od p, hbn, cn⟩) hv)
      · refine p_nrx m1 hw r1.1 hc (fun v hv => ih fu (p + 1) l2 v _ (by omega) (by omega) m1 r1 st (hl.imp (fun ⟨a, b⟩ => ⟨a, fun q hq z => ?_⟩) id) hv)
        rcases Nat.lt_or_ge q u with w | w
        · exact b q w z
        · by_cases e : q = p
          · rw [e] at z; exact cn z
          · exact p4 q w (by omega) z.1
theorem p_tol27 (hw : wf E nj nw cw jc s) (hQ1 : (∃ k, k < nj ∧ can E nj cw jc s k) → ∀ I', mx A B S nc nw nm nj cw jc od E K L' I' J R → rR E nj s I' J → Q 1 (hq A B S I' J R)) (hQ0 : (¬ ∃ k, k < nj ∧ can E nj cw jc s k) → ∀ I', mx A B S nc nw nm nj cw jc od E K L' I' J R → rR E nj s I' J → Q 0 (hq A B S I' J R)) : ∀ (r c fu u : Nat) (l2 : Int32) (I : FI), c + r = nc → r < fu → mx A B S nc nw nm nj cw jc od E K L' I J R → rR E nj s I J → hA E nj jc od s I c u → tlD E nj cw jc od s u l2 → wp_X12_hands_L27 (A 0 23) 1 Q fu (hq A B S I J R) l2 (nI c) := by
  intro r
  induction r with
  | zero =>
    intro c fu u l2 I hc hf hm hr hh hl
    obtain ⟨fu, rfl⟩ : ∃ z, fu = z + 1 := ⟨fu - 1, by omega⟩
    have h := hm.1
    have : c = nc := by omega
    subst this
    rw [wp_X12_hands_L27]
    simp only [fr_23 h, hi_q h, hj_q h, si_q h, sj_q h, vv_5 h, vs_5 h, vv_7 h, vs_7 h, vv_8 h, vs_8 h, vv_9 h, vs_9 h, vv_11 h, vs_11 h, vv_17 h, vs_17 h, vv_18 h, vs_18 h, vj_3 h, vj_4 h, vj_5 h, ex_some, ex_def, all_def, true_and, and_true, Nat.reduceLT, hm.cn.1]
    refine ⟨fun _ => ?_, fun z => absurd (Int32.le_refl _) z⟩
    rcases hl with ⟨rfl, a⟩ | ⟨rfl, a⟩
    · refine ⟨Or.inl rfl, hQ0 (fun ⟨k, hk, cn⟩ => ?_) I hm hr⟩
      obtain ⟨p, hp, e⟩ := hm.2.2.2.2.2.2.2 k hk
      rw [← e] at cn
      rcases Nat.lt_or_ge p u with w | w
      · exact a p w cn
      · exact hh.2.2.2 p w hp (hm.jce (hm.2.2.2.2.2.1 p hp)).2 cn.1
    · exact ⟨Or.inr rfl, hQ1 a I hm hr⟩
  | succ r ih =>
    intro c fu u l2 I hc hf hm hr hh hl
    obtain ⟨fu, rfl⟩ : ∃ z, fu = z + 1 := ⟨fu - 1, by omega⟩
    have h := hm.1
    have n1 := hm.n.1
    have n4 := hm.n.2.2.2
    have hcn : c < nc := by omega
    have e0 : ¬ nI nc ≤ nI c := by rw [nI_leI (by omega) (by omega)]; omega
    rw [wp_X12_hands_L27]
    simp only [fr_23 h, hi_q h, hj_q h, si_q h, sj_q h, vv_5 h, vs_5 h, vv_7 h, vs_7 h, vv_8 h, vs_8 h, vv_9 h, vs_9 h, vv_11 h, vs_11 h, vv_17 h, vs_17 h, vv_18 h, vs_18 h, vj_3 h, vj_4 h, vj_5 h, ex_some, ex_def, all_def, true_and, and_true, Nat.reduceLT, hm.cn.1, e0, not_false_eq_true, true_implies, not_true_eq_false, false_implies, true_and, and_true, false_and, and_false, forall_const, imp_self, implies_true, if_true, if_false, eq_self, Bool.true_eq_false, Bool.false_eq_true, false_or, or_false, true_or, or_true, ← nI_succ]
    exact p_nrx hm hw hr.1 hcn (fun v hv => p_tol42 hcn hw (fun u' l2' I' m' r' h' hl' => ih (c + 1) fu u' l2' I' (by omega) (by omega) m' r' h' hl') nj FU u l2 v I (by omega) (by unfold FU; omega) hm hr hh hl hv)
theorem p_tol (hm : mx A B S nc nw nm nj cw jc od E K L' I J R) (hw : wf E nj nw cw jc s) (hr : rR E nj s I J) (hQ1 : (∃ k, k < nj ∧ can E nj cw jc s k) → ∀ I', mx A B S nc nw nm nj cw jc od E K L' I' J R → rR E nj s I' J → Q 1 (hq A B S I' J R)) (hQ0 : (¬ ∃ k, k < nj ∧ can E nj cw jc s k) → ∀ I', mx A B S nc nw nm nj cw jc od E K L' I' J R → rR E nj s I' J → Q 0 (hq A B S I' J R)) : wp_X12_hands (hq A B S I J R) (A 0 23) 1 Q := by
  have n1 := hm.n.1
  have n4 := hm.n.2.2.2
  unfold wp_X12_hands
  refine p_hask (s := s) (fun I' m' r' h0 => ?_) nj 0 FU I (by omega) (by unfold FU; omega) hm hr (fun k hk => by omega)
  exact p_tol27 hw hQ1 hQ0 nc 0 FU 0 0 I' (by omega) (by unfold FU; omega) m' r' ⟨Nat.zero_le _, fun p hp => by omega, fun p _ hp => h0 _ (m'.2.2.2.2.2.1 p hp), fun p _ _ z => by omega⟩ (Or.inl ⟨rfl, fun p hp => by omega⟩)
end MH
