section MG
variable {E : FI} {nj nw d : Nat} {cw jc od : Nat → Nat} {s t : Rs}
theorem wf_par {P : Nat → Bool} {v : Nat → Nat} (hp : pok nj s P v) (hw : wf E nj nw cw jc s) : wf E nj nw cw jc (par s P v) := by
  obtain ⟨w1, w2, w3, w4, w5, w6, w7⟩ := hw
  have h6 : ∀ i, oS (par s P v) i = 6 → oS s i = 6 := fun i h => by
    rw [par_s] at h
    by_cases z : P i = true
    · rw [if_pos z] at h; rcases hp i z with ⟨-, q⟩ | ⟨-, q⟩ <;> omega
    · rw [if_neg z] at h; exact h
  refine ⟨fun i hi => ?_, fun i hi h => w2 i hi (h6 i h), fun i k hi hk a b => w3 i k hi hk (h6 i a) (h6 k b), fun i k m hi hk hm a b => w4 i k m hi hk hm (h6 i a) (h6 k b), fun i hi h => ?_, fun i hi a b => ?_, w7⟩
  · rw [par_s]
    by_cases z : P i = true
    · rw [if_pos z]; rcases hp i z with ⟨-, q⟩ | ⟨-, q⟩ <;> omega
    · rw [if_neg z]; exact w1 i hi
  · rw [par_s] at h
    by_cases z : P i = true
    · rw [if_pos z] at h
      rcases hp i z with ⟨q, -⟩ | ⟨-, q⟩
      · exact w5 i hi (by rw [q]; rfl)
      · rcases q with q | q <;> rw [q] at h <;> exact absurd h (by decide)
    · rw [if_neg z] at h; exact w5 i hi h
  · rw [par_s] at a b
    rw [par_e]
    by_cases z : P i = true
    · rw [if_pos z]; exact Nat.le_refl _
    · rw [if_neg z] at a b ⊢; exact w6 i hi a b
theorem nxt_u {m m' : Nat} (h : nxt E nj s d m) (h' : nxt E nj s d m') : m = m' := by
  have a : m ≤ m' := by
    rcases h'.2.2 with e | ⟨k, hk, h6, e⟩
    · rw [e]; exact h.1
    · rw [← e]; exact h.2.1 k hk h6
  have b : m' ≤ m := by
    rcases h.2.2 with e | ⟨k, hk, h6, e⟩
    · rw [e]; exact h'.1
    · rw [← e]; exact h'.2.1 k hk h6
  omega
theorem wW_setM {m : Nat} (hd : d ≤ 1000000) (W3 : wW E nj nw cw jc s) (hn : nxt E nj s d m) (hm : oM s ≤ m) : wW E nj nw cw jc (setM s m) := by
  obtain ⟨f1, f2, f3, f4, f5, f6, f7⟩ := W3.1
  refine ⟨⟨f1, f2, f3, f4, fun j hj e => ?_, fun j hj e1 e2 => ?_, ?_⟩, ⟨fun j hj e => ?_, fun j hj e => ?_, ?_⟩, W3.2.2⟩
  · have := f5 j hj e; show oB s j ≤ m; omega
  · have := f6 j hj e1 e2; show oE s j ≤ m; omega
  · have := hn.1; show m ≤ 1000000; omega
  · have a := W3.2.1.1 j hj e
    have b := hn.2.1 j hj e
    exact ⟨by show oB s j ≤ m; omega, b⟩
  · have a := W3.2.1.2.1 j hj e
    exact ⟨a.1, a.2.1, by show oE s j ≤ m; omega⟩
  · have := hn.1; show m ≤ 1000000; omega
theorem cntN_n {p : Nat → Bool} : ∀ {n : Nat}, cntN n p = n ↔ ∀ i, i < n → p i = true := by
  intro n
  induction n with
  | zero => exact ⟨fun _ i hi => by omega, fun _ => rfl⟩
  | succ n ih =>
    have hl := cntN_le p n
    rw [cntN]
    constructor
    · intro h i hi
      by_cases z : p n = true
      · by_cases e : i = n
        · rw [e]; exact z
        · rw [if_pos z] at h; exact ih.mp (by omega) i (by omega)
      · rw [if_neg z] at h; omega
    · intro h
      rw [if_pos (h n (by omega)), ih.mpr (fun i hi => h i (by omega))]
theorem nev1 : (∀ k, k < nj → oS (nevs nj s) k = 1) ↔ ∀ k, k < nj → oS s k = 1 := by
  constructor
  · intro h k hk
    have := h k hk
    rw [nevs, par_s] at this
    split at this
    · omega
    · exact this
  · intro h k hk
    rw [nevs, par_s, if_neg (fun z => by have := (of_decide_eq_true z).2; rw [h k hk] at this; omega)]
    exact h k hk
theorem ansW_1 (h : ∀ k, k < nj → oS (nevs nj s) k = 1) : ansW nj s = 0 := by
  unfold ansW
  rw [if_pos (cntN_n.mpr (fun i hi => by rw [nev1.mp h i hi]; rfl))]
theorem ansW_0 (h : ¬ ∀ k, k < nj → oS (nevs nj s) k = 1) : ansW nj s = 1 := by
  unfold ansW
  rw [if_neg (fun z => h (nev1.mpr (fun k hk => by have := cntN_n.mp z k hk; exact beq_iff_eq.mp this)))]
end MG
section MGO
variable {A : Nat → Nat → Nat} {B : Nat → Nat × Nat} {S : Hp} {nc nw nm nj : Nat} {cw jc : Nat → Nat} {I : FI} {J : FJ} {R : FR} {xs : Nat → Int32} {L : Nat} {l4 : Int32}
variable {E K : FI} {L' : FJ} {od : Nat → Nat} {s : Rs} {d : Nat} {Q : Int32 → Hp → Prop}
theorem p_g124 (hm : mx A B S nc nw nm nj cw jc od E K L' I J R) (hw : wf E nj nw cw jc s) (hr : rR E nj s I J) (hQ : ∀ I', mx A B S nc nw nm nj cw jc od E K L' I' J R → rR E nj (nevs nj s) I' J → Q (ansW nj s) (hq A B S I' J R)) : hK (hq A B S I J R) (A 0 23) = 14 ∧ wp_X12_neverBegin (hq A B S I J R) (A 0 23) (fun S63 => hK S63 (A 0 23) = 14 ∧ wp_X12_areAllDone S63 (A 0 23) (fun r66 S65 => (r66 = 0 → Q 1 S65) ∧ (¬ (r66 = 0) → Q 0 S65))) := by
  refine ⟨fr_23 hm.1 _ _ _, p_nevm hm hw hr (fun I' m' r' => ⟨fr_23 hm.1 _ _ _, p_allm m' (wf_par pok_nevs hw) r'.1 (fun q => ⟨fun z => absurd z (by decide), fun _ => ?_⟩) (fun q => ⟨fun _ => ?_, fun z => absurd rfl z⟩)⟩)⟩
  · have := hQ I' m' r'
    rw [ansW_1 q] at this; exact this
  · have := hQ I' m' r'
    rw [ansW_0 q] at this; exact this
theorem p_g56 (hm : mx A B S nc nw nm nj cw jc od E K L' I J R) (hw : wf E nj nw cw jc s) (hr : rR E nj s I J) (h1 : awk nj s → ∀ I' J', mx A B S nc nw nm nj cw jc od E K L' I' J' R → rR E nj (ints nj s) I' J' → Q 2 (hq A B S I' J' R)) (h2 : ¬ awk nj s → (∃ k, k < nj ∧ can E nj cw jc s k) → ∀ I' J', mx A B S nc nw nm nj cw jc od E K L' I' J' R → rR E nj s I' J' → Q 2 (hq A B S I' J' R)) (h3 : ¬ awk nj s → (¬ ∃ k, k < nj ∧ can E nj cw jc s k) → ∀ I' J', mx A B S nc nw nm nj cw jc od E K L' I' J' R → rR E nj (nevs nj s) I' J' → Q (ansW nj s) (hq A B S I' J' R)) : hK (hq A B S I J R) (A 0 23) = 14 ∧ wp_X12_isAnyAtWork (hq A B S I J R) (A 0 23) (fun r41 S40 => wp_X12_goesOn_L63 (A 0 23) r41 (fun (S49 : Hp) => (r41 = 0 → hK S49 (A 0 23) = 14 ∧ wp_X12_hands S49 (A 0 23) 1 (fun r53 S52 => (r53 = 0 → hK S52 (A 0 23) = 14 ∧ wp_X12_neverBegin S52 (A 0 23) (fun S56 => hK S56 (A 0 23) = 14 ∧ wp_X12_areAllDone S56 (A 0 23) (fun r59 S58 => (r59 = 0 → Q 1 S58) ∧ (¬ (r59 = 0) → Q 0 S58)))) ∧ (¬ (r53 = 0) → Q 2 S52))) ∧ (¬ (r41 = 0) → Q 2 S49)) Q FU S40 0) := by
  have h := hm.1
  have n4 := hm.n.2.2.2
  have e0 : par s (fun k => decide (k < 0 ∧ oS s k = 6)) (fun _ => 4) = s := par_0 (fun k => decide_eq_false (fun z => by omega))
  refine ⟨fr_23 h _ _ _, p_anym hm hw hr.1 (fun aw => ?_) (fun aw => ?_)⟩
  · exact p_intsm hw (fun I' J' m' r' => ⟨fun z => absurd z (by decide), fun _ => h1 aw I' J' m' r'⟩) nj 0 FU I J (by omega) (by unfold FU; omega) hm (by rw [e0]; exact hw) (by rw [e0]; exact hr)
  · have ei : ints nj s = s := par_0 (fun k => decide_eq_false (fun z => aw ⟨k, z.1, z.2⟩))
    refine p_intsm hw (fun I' J' m' r' => ⟨fun _ => ⟨fr_23 h _ _ _, ?_⟩, fun z => absurd rfl z⟩) nj 0 FU I J (by omega) (by unfold FU; omega) hm (by rw [e0]; exact hw) (by rw [e0]; exact hr)
    rw [ei] at r'
    exact p_tol m' hw r' (fun cn I2 m2 r2 => ⟨fun z => absurd z (by decide), fun _ => h2 aw cn I2 J' m2 r2⟩) (fun cn I2 m2 r2 => ⟨fun _ => p_g124 m2 hw r2 (fun I3 m3 r3 => h3 aw cn I3 J' m3 r3), fun z => absurd rfl z⟩)
theorem p_goes_L (hs : sB E nj) (hd : d ≤ 1000000) {K56 K124 : Hp → Prop} {t : Rs} {a : Int32} (hK56 : ∀ s I J, mx A B S nc nw nm nj cw jc od E K L' I J R → wf E nj nw cw jc s → rR E nj s I J → (awk nj s → ∀ I' J', mx A B S nc nw nm nj cw jc od E K L' I' J' R → rR E nj (ints nj s) I' J' → Q 2 (hq A B S I' J' R)) → (¬ awk nj s → (∃ k, k < nj ∧ can E nj cw jc s k) → ∀ I' J', mx A B S nc nw nm nj cw jc od E K L' I' J' R → rR E nj s I' J' → Q 2 (hq A B S I' J' R)) → (¬ awk nj s → (¬ ∃ k, k < nj ∧ can E nj cw jc s k) → ∀ I' J', mx A B S nc nw nm nj cw jc od E K L' I' J' R → rR E nj (nevs nj s) I' J' → Q (ansW nj s) (hq A B S I' J' R)) → K56 (hq A B S I J R)) (hK124 : ∀ s I J, mx A B S nc nw nm nj cw jc od E K L' I J R → wf E nj nw cw jc s → rR E nj s I J → (∀ I', mx A B S nc nw nm nj cw jc od E K L' I' J R → rR E nj (nevs nj s) I' J → Q (ansW nj s) (hq A B S I' J R)) → K124 (hq A B S I J R)) (hQ : ∀ I' J', mx A B S nc nw nm nj cw jc od E K L' I' J' R → rR E nj t I' J' → Q a (hq A B S I' J' R)) : ∀ (n fu : Nat) (s : Rs) (I : FI) (J : FJ), Rn E nj cw jc od d n s t a → n < fu → mx A B S nc nw nm nj cw jc od E K L' I J R → wW E nj nw cw jc s → oM s ≤ d → rR E nj s I J → wp_X12_goesOn_L0 (A 0 23) (nI d) K56 K124 Q fu (hq A B S I J R) := by
  intro n
  induction n with
  | zero => intro fu s I J hR; exact hR.elim
  | succ n ih =>
    intro fu s I J hR hf hm hW hmd hr
    obtain ⟨fu, rfl⟩ : ∃ z, fu = z + 1 := ⟨fu - 1, by omega⟩
    have h := hm.1
    have n4 := hm.n.2.2.2
    have mM : oM s ≤ 1000000 := hW.1.2.2.2.2.2.2
    have e0 : par s (fun k => decide (k < 0 ∧ oS s k = 6 ∧ endN E s k = oM s)) (endV E) = s := par_0 (fun k => decide_eq_false (fun z => by omega))
    rw [wp_X12_goesOn_L0]
    refine p_endsm hW.1 (fun I1 J1 m1 w1 r1 => ⟨fr_23 h _ _ _, p_canm m1 w1 r1 (fun I2 m2 w2 r2 => ⟨fr_23 h _ _ _, ?_⟩)⟩) nj 0 FU I J (by omega) (by unfold FU; omega) hm (by rw [e0]; exact hW.1) (by rw [e0]; exact hr)
    have W2 : wW E nj nw cw jc (cans E nj (ends E nj s)) := ⟨w2, wg_par pok_cans (wg_par pok_ends hW.2.1), nng_par hs pok_cans (wg_par pok_ends hW.2.1) (nng_par hs pok_ends hW.2.1 hW.2.2)⟩
    have now : I2 0 23 24 = nI (oM s) := r2.2.2.2.2.2.2.1
    rw [hi_q h (by decide), now, nI_eq (by omega) (by omega)]
    refine ⟨fun ed => ?_, fun nd => ?_⟩
    · have c1 : trn E nj cw jc od d s t (some a) := by
        rcases hR with hR | ⟨s', hR, -⟩
        · exact hR
        · rcases hR with ⟨-, ⟨-, -, e⟩ | ⟨-, -, -, e⟩ | ⟨-, -, -, e⟩⟩ | ⟨z, -⟩
          · cases e
          · cases e
          · cases e
          · exact absurd ed z
      rcases c1 with ⟨-, c1⟩ | ⟨z, -⟩
      · refine hK56 _ I2 J1 m2 w2 r2 (fun aw I' J' m' r' => ?_) (fun aw cn I' J' m' r' => ?_) (fun aw cn I' J' m' r' => ?_)
        · rcases c1 with ⟨a1, a2, a3⟩ | ⟨a1, a2, a3, a4⟩ | ⟨a1, a2, a3, a4⟩
          · have := hQ I' J' m' (by rw [a2]; exact r')
            rw [Option.some.inj a3] at this; exact this
          · exact absurd aw a1
          · exact absurd aw a1
        · rcases c1 with ⟨a1, a2, a3⟩ | ⟨a1, a2, a3, a4⟩ | ⟨a1, a2, a3, a4⟩
          · exact absurd a1 aw
          · have := hQ I' J' m' (by rw [a3]; exact r')
            rw [Option.some.inj a4] at this; exact this
          · exact absurd cn a2
        · rcases c1 with ⟨a1, a2, a3⟩ | ⟨a1, a2, a3, a4⟩ | ⟨a1, a2, a3, a4⟩
          · exact absurd a1 aw
          · exact absurd a2 cn
          · have := hQ I' J' m' (by rw [a3]; exact r')
            rw [Option.some.inj a4] at this; exact this
      · exact absurd ed z
    · refine p_hnd hs m2 W2 r2 (fun t3 v I3 J3 b3 W3 m3 r3 ha => ?_)
      have em3 : oM t3 = oM s := (bgR_m b3).trans rfl
      have go : awk nj t3 → wp_X12_goesOn_L132 (A 0 23) (nI d) (fun (S35 : Hp) (x36 : Int32) => hK S35 (A 0 23) = 14 ∧ wp_X12_goesOn_L0 (A 0 23) (nI d) K56 K124 Q fu (sI S35 (A 0 23) 24 x36)) Q FU (hq A B S I3 J3 R) (nI d) 0 := fun aw => by
        rcases hR with hR | ⟨s', hR, hn⟩
        · rcases hR with ⟨z, -⟩ | ⟨-, s3, b3', ⟨na, -, -⟩ | ⟨-, m, -, -, e⟩⟩
          · exact absurd z nd
          · exact absurd aw (by rw [bgR_det b3 b3']; exact na)
          · cases e
        · rcases hR with ⟨z, -⟩ | ⟨-, s3, b3', ⟨-, -, e⟩ | ⟨-, m, hx, et, -⟩⟩
          · exact absurd z nd
          · cases e
          · have e3 := bgR_det b3 b3'
            subst e3
            subst et
            refine p_nxtm hd m3 W3.1 r3.1 (fun m' hx' => ⟨fr_23 h _ _ _, ?_⟩) nj 0 FU d (by omega) (by unfold FU; omega) (Nat.le_refl _) (fun k hk => by omega) (Or.inl rfl)
            have em := nxt_u hx hx'
            subst em
            have mgt : oM t3 ≤ m := by
              rcases hx.2.2 with e | ⟨k, hk, h6, e⟩
              · omega
              · have := later hW.2.1 hs b3 k hk h6; omega
            rw [si_q h (by decide)]
            exact ih fu _ _ _ hn (by omega) (m3.up rfl) (wW_setM hd W3 hx mgt) hx.1 ⟨r3.1, r3.2.1, r3.2.2.1, r3.2.2.2.1, r3.2.2.2.2.1, r3.2.2.2.2.2.1, up3_same _ _ _ _ _, r3.2.2.2.2.2.2.2⟩
      have st : ¬ awk nj t3 → K124 (hq A B S I3 J3 R) := fun aw => by
        refine hK124 t3 I3 J3 m3 W3.1 r3 (fun I' m' r' => ?_)
        rcases hR with hR | ⟨s', hR, hn⟩
        · rcases hR with ⟨z, -⟩ | ⟨-, s3, b3', ⟨-, et, e⟩ | ⟨aw', -⟩⟩
          · exact absurd z nd
          · have e3 := bgR_det b3 b3'
            subst e3
            have := hQ I' J3 m' (by rw [et]; exact r')
            rw [Option.some.inj e] at this; exact this
          · rw [← bgR_det b3 b3'] at aw'; exact absurd aw' aw
        · rcases hR with ⟨z, -⟩ | ⟨-, s3, b3', ⟨-, -, e⟩ | ⟨aw', -⟩⟩
          · exact absurd z nd
          · cases e
          · rw [← bgR_det b3 b3'] at aw'; exact absurd aw' aw
      exact ⟨_, rfl, fun z => ⟨fr_23 h _ _ _, p_anym m3 W3.1 r3.1 (fun aw => ⟨fun q => absurd q (by decide), fun _ => go aw⟩) (fun aw => ⟨fun _ => st aw, fun q => absurd rfl q⟩)⟩, fun z => go (ha z)⟩
theorem p_goes {t : Rs} {a : Int32} {n : Nat} (hs : sB E nj) (hd : d ≤ 1000000) (hR : Rn E nj cw jc od d n s t a) (hn : n ≤ 202) (hm : mx A B S nc nw nm nj cw jc od E K L' I J R) (hW : wW E nj nw cw jc s) (hmd : oM s ≤ d) (hr : rR E nj s I J) (hQ : ∀ I' J', mx A B S nc nw nm nj cw jc od E K L' I' J' R → rR E nj t I' J' → Q a (hq A B S I' J' R)) : wp_X12_goesOn (hq A B S I J R) (A 0 23) (nI d) Q := by
  unfold wp_X12_goesOn
  exact p_goes_L hs hd (fun s I J m w r h1 h2 h3 => p_g56 m w r h1 h2 h3) (fun s I J m w r h => p_g124 m w r h) hQ n FU s I J hR (by unfold FU; omega) hm hW hmd hr
end MGO
