def oI (b : Option Nat) : Int32 := match b with | none => -1 | some b => nI b
def cho (cn : Nat) (ch : Nat → Nat) (i : Nat) : Option Nat := if i < cn then some (ch i) else none
section PN
variable {A : Nat → Nat → Nat} {B : Nat → Nat × Nat} {S : Hp} {nc nw nm nj : Nat} {cw jc : Nat → Nat} {I : FI} {J : FJ} {R : FR} {xs : Nat → Int32} {L : Nat} {l4 : Int32}
variable {E : FI} {tc hc : Nat → Int32} {Q : Int32 → Hp → Prop}
theorem iv_t0 (hv : iv A B S nc nw nm nj cw jc I J R) (v : Int32) : iv A B S nc nw nm nj cw jc (up3 I 0 23 0 v) J R := ⟨hv.1, vSt_c (Fy.rf.I rfl) hv.2.1, vRn_c (Ag.up Ag.rf rfl) Ag.rf hv.2.2.1, vPa_c (Ag.up Ag.rf rfl) Ag.rf hv.2.2.2⟩
theorem iv_o0 (hv : iv A B S nc nw nm nj cw jc I J R) (v : Int64) : iv A B S nc nw nm nj cw jc I (up3 J 0 24 0 v) R := ⟨hv.1, vSt_c (Fy.rf.J rfl) hv.2.1, vRn_c Ag.rf (Ag.up Ag.rf rfl) hv.2.2.1, hv.2.2.2⟩
theorem iv_le {I' : FI} (hv : iv A B S nc nw nm nj cw jc I J R) (hX : lX A B S nc nw nm nj cw jc I J R I') : iv A B S nc nw nm nj cw jc I' J R := by
  refine ⟨hv.1, vSt_c ⟨hX.2.2.mo (fun c i p e => ?_), Ag.rf, Ag.rf⟩ hv.2.1, vRn_c (hX.2.2.mo (fun c i p e => ?_)) Ag.rf hv.2.2.1, vPa_c (hX.2.2.mo (fun c i p e => ?_)) Ag.rf hv.2.2.2⟩
  all_goals
    simp only [leI, dyI, gRn, gPa, Bool.and_eq_true, Bool.or_eq_true, beq_iff_eq, Bool.not_eq_true', Bool.or_eq_false_iff, Bool.and_eq_false_iff, beq_eq_false_iff_ne, decide_eq_true_eq, decide_eq_false_iff_not, ne_eq] at e ⊢
    omega
theorem iv_I (hv : iv A B S nc nw nm nj cw jc I J R) : Iv (A 0 0) (A 0 23) (A 0 24) (hq A B S I J R) := ⟨A, B, S, nc, nw, nm, nj, cw, jc, _, _, _, rfl, rfl, rfl, rfl, hv⟩
/-- what the reference's next job of the chain is -/
theorem p_noc {o : Option Nat} (hX : lX A B S nc nw nm nj cw jc E J R I) (hy : ∀ j, j < nj → I 1 46 j = tc j) (ho : ∀ j, o = some j → j < nj) (hQ : ∀ b, pBst nj (fun k => ∀ j, o = some j → E 1 10 (200 * k + j) = 1) (fun j => (tc j).toInt) b → Q (oI b) (hq A B S I J R)) : wp_X12_nextOfChain (hq A B S I J R) (A 0 23) (oI o) Q := by
  have h := hX.1
  have n4 := hX.n4
  unfold wp_X12_nextOfChain
  have key : ∀ (r i fu : Nat) (b : Option Nat), i + r = nj → r < fu → pBst nj (fun k => k < i ∧ ∀ j, o = some j → E 1 10 (200 * k + j) = 1) (fun j => (tc j).toInt) b → wp_X12_nextOfChain_L4 (hq A B S I J R) (A 0 23) (oI o) Q fu (oI b) (nI i) := by
    intro r
    induction r with
    | zero =>
      intro i fu b hi hf hb
      obtain ⟨fu, rfl⟩ : ∃ z, fu = z + 1 := ⟨fu - 1, by omega⟩
      have : i = nj := by omega
      subst this
      rw [wp_X12_nextOfChain_L4]
      refine ⟨fr_23 h _ _ _, fun _ => hQ b (pBst_cg (fun k hk => ⟨fun z => z.2, fun z => ⟨hk, z⟩⟩) hb), fun z => absurd ?_ z⟩
      rw [hi_q h (by decide), hX.c]; exact Int32.le_refl _
    | succ r ih =>
      intro i fu b hi hf hb
      obtain ⟨fu, rfl⟩ : ∃ z, fu = z + 1 := ⟨fu - 1, by omega⟩
      have hin : i < nj := by omega
      have e0 : ¬ nI nj ≤ nI i := by rw [nI_leI (by omega) (by omega)]; omega
      have skip : ¬ (∀ j, o = some j → E 1 10 (200 * i + j) = 1) → wp_X12_nextOfChain_L4 (hq A B S I J R) (A 0 23) (oI o) Q fu (oI b) (nI (i + 1)) := fun z => ih (i + 1) fu b (by omega) (by omega) (pBst_cg (fun k _ => ⟨fun w => ⟨by omega, w.2⟩, fun w => ⟨by
        have : k ≠ i := fun q => z (by rw [← q]; exact w.2)
        omega, w.2⟩⟩) hb)
      have v200 : vp_in (nI i) (hN (hq A B S I J R) (A 1 46)) := by rw [(fm_46 h _ _ _).2.2]; exact vin (show i < 200 by omega) (by decide)
      have j4 : (∀ j, o = some j → E 1 10 (200 * i + j) = 1) → (oI b = (-1) → wp_X12_nextOfChain_L4 (hq A B S I J R) (A 0 23) (oI o) Q fu (nI i) (nI i + 1)) ∧ (¬ (oI b = (-1)) → ∃ b10 : Nat, (hR (hq A B S I J R) (A 0 23) 46) = some b10 ∧ hK (hq A B S I J R) b10 = 15 ∧ vp_in (nI i) (hN (hq A B S I J R) b10) ∧ vp_in (oI b) (hN (hq A B S I J R) b10) ∧ ((hI (hq A B S I J R) b10 ((nI i) : Int32).toNatClampNeg) ≤ (hI (hq A B S I J R) b10 ((oI b) : Int32).toNatClampNeg) → wp_X12_nextOfChain_L4 (hq A B S I J R) (A 0 23) (oI o) Q fu (oI b) (nI i + 1)) ∧ (¬ ((hI (hq A B S I J R) b10 ((nI i) : Int32).toNatClampNeg) ≤ (hI (hq A B S I J R) b10 ((oI b) : Int32).toNatClampNeg)) → wp_X12_nextOfChain_L4 (hq A B S I J R) (A 0 23) (oI o) Q fu (nI i) (nI i + 1))) := fun oki => by
        rw [← nI_succ]
        cases b with
        | none =>
          refine ⟨fun _ => ih (i + 1) fu (some i) (by omega) (by omega) ⟨hin, ⟨by omega, oki⟩, fun k hk ok => ?_⟩, fun z => absurd rfl z⟩
          by_cases e : k = i
          · rw [e]; exact Or.inr ⟨rfl, Nat.le_refl _⟩
          · exact absurd ⟨by omega, ok.2⟩ (hb k hk)
        | some b =>
          obtain ⟨b1, b2, b3⟩ := hb
          refine ⟨fun z => absurd z (nI_nm1 (by omega)), fun _ => ⟨A 1 46, (fm_46 h _ _ _).1, (fm_46 h _ _ _).2.1, v200, ?_, ?_⟩⟩
          · rw [(fm_46 h _ _ _).2.2]; exact vin (show b < 200 by omega) (by decide)
          rw [hi_q h (by decide), hi_q h (by decide), nI_clamp (show i < 2 ^ 31 by omega), show (oI (some b)).toNatClampNeg = b from nI_clamp (show b < 2 ^ 31 by omega), hy i hin, hy b b1]
          refine ⟨fun z => ih (i + 1) fu (some b) (by omega) (by omega) ⟨b1, ⟨by omega, b2.2⟩, fun k hk ok => ?_⟩, fun z => ih (i + 1) fu (some i) (by omega) (by omega) ⟨hin, ⟨by omega, oki⟩, fun k hk ok => ?_⟩⟩
          · by_cases e : k = i
            · rw [Int32.le_iff_toInt_le] at z
              rw [e]
              have := b2.1
              show (tc i).toInt < (tc b).toInt ∨ (tc i).toInt = (tc b).toInt ∧ b ≤ i
              omega
            · exact b3 k hk ⟨by omega, ok.2⟩
          · rw [Int32.le_iff_toInt_le] at z
            by_cases e : k = i
            · rw [e]; exact Or.inr ⟨rfl, Nat.le_refl _⟩
            · have := b3 k hk ⟨by omega, ok.2⟩
              simp only at this ⊢
              omega
      rw [wp_X12_nextOfChain_L4]
      refine ⟨fr_23 h _ _ _, fun z => absurd z (by rw [hi_q h (by decide), hX.c]; exact e0), fun _ => ⟨_, rfl, fun z => ?_, fun z => ?_⟩⟩
      · cases o with
        | none => exact j4 (fun j e => by cases e)
        | some j => exact absurd z (nI_nm1 (by have := ho j rfl; omega))
      · cases o with
        | none => exact absurd rfl z
        | some j =>
          have hj := ho j rfl
          refine ⟨A 1 10, (fm_10 h _ _ _).1, (fm_10 h _ _ _).2.1, ?_, ?_⟩
          · rw [(fm_10 h _ _ _).2.2, show oI (some j) = nI j from rfl, i200]; exact vin (show 200 * i + j < 40000 by omega) (by decide)
          rw [hi_q h (by decide), show oI (some j) = nI j from rfl, i200, nI_clamp (show 200 * i + j < 2 ^ 31 by omega), hX.e (show 10 < 26 by decide), hX.b hin hj]
          refine ⟨fun w => ?_, fun w => j4 (fun j' e => by cases e; exact Classical.not_not.mp w)⟩
          rw [← nI_succ]
          exact skip (fun q => w (q j rfl))
  exact key nj 0 FU none (by omega) (by unfold FU; omega) (fun k _ z => by omega)
/-- the chain, as the class holds it -/
def chn (E : FI) (nj : Nat) (tc : Nat → Int32) (cn : Nat) (ch : Nat → Nat) : Prop := cn ≤ 200 ∧ (∀ i, i < cn → ch i < nj) ∧ pBst nj (fun _ => True) (fun j => (tc j).toInt) (if cn = 0 then none else some (ch 0)) ∧ ∀ i, i < cn → pBst nj (fun k => E 1 10 (200 * k + ch i) = 1) (fun j => (tc j).toInt) (if i + 1 = cn then none else some (ch (i + 1)))
theorem chn_0 {cn : Nat} {ch : Nat → Nat} (hc : chn E nj tc cn ch) : pBst nj (fun k => ∀ j, none = some j → E 1 10 (200 * k + j) = 1) (fun j => (tc j).toInt) (cho cn ch 0) := by
  have e : cho cn ch 0 = if cn = 0 then none else some (ch 0) := by
    unfold cho
    by_cases z : cn = 0
    · rw [if_pos z, if_neg (by omega)]
    · rw [if_neg z, if_pos (by omega)]
  rw [e]
  exact pBst_cg (fun k _ => ⟨fun _ j w => (by cases w), fun _ => trivial⟩) hc.2.2.1
theorem chn_s {cn i : Nat} {ch : Nat → Nat} (hc : chn E nj tc cn ch) (hi : i < cn) : pBst nj (fun k => ∀ j, some (ch i) = some j → E 1 10 (200 * k + j) = 1) (fun j => (tc j).toInt) (cho cn ch (i + 1)) := by
  have e : cho cn ch (i + 1) = if i + 1 = cn then none else some (ch (i + 1)) := by
    unfold cho
    by_cases z : i + 1 = cn
    · rw [if_pos z, if_neg (by omega)]
    · rw [if_neg z, if_pos (by omega)]
  rw [e]
  exact pBst_cg (fun k _ => ⟨fun q j w => (by cases w; exact q), fun q => q _ rfl⟩) (hc.2.2.2 i hi)
theorem p_c24 {cn i : Nat} {ch : Nat → Nat} (hX : lX A B S nc nw nm nj cw jc E J R I) (hy : ∀ j, j < nj → I 1 46 j = tc j) (hc : chn E nj tc cn ch) (hi : i < 2 ^ 31) (hQ : Q (oI (cho cn ch i)) (hq A B S I J R)) : ∀ (r k fu : Nat), cn ≤ k + r → k ≤ cn → r < fu → k ≤ i → wp_X12_critical_L24 (A 0 23) (nI i) Q fu (hq A B S I J R) (oI (cho cn ch k)) (nI k) := by
  have h := hX.1
  have n4 := hX.n4
  have c2 := hc.1
  intro r
  induction r with
  | zero =>
    intro k fu hk hk2 hf hki
    obtain ⟨fu, rfl⟩ : ∃ z, fu = z + 1 := ⟨fu - 1, by omega⟩
    have e1 : cho cn ch k = none := if_neg (by omega)
    have e2 : cho cn ch i = none := if_neg (by omega)
    rw [e2] at hQ
    rw [wp_X12_critical_L24, e1]
    exact ⟨fun _ => hQ, fun _ => ⟨fun _ => hQ, fun z => absurd rfl z⟩⟩
  | succ r ih =>
    intro k fu hk hk2 hf hki
    obtain ⟨fu, rfl⟩ : ∃ z, fu = z + 1 := ⟨fu - 1, by omega⟩
    rw [wp_X12_critical_L24, nI_leI hi (by omega)]
    refine ⟨fun z => ?_, fun z => ⟨fun w => ?_, fun w => ⟨fr_23 h _ _ _, ?_⟩⟩⟩
    · have : i = k := by omega
      rw [← this]; exact hQ
    · have e1 : cho cn ch k = none := by
        cases q : cho cn ch k with
        | none => rfl
        | some j =>
          rw [q] at w
          have : k < cn ∧ ch k = j := by
            unfold cho at q
            by_cases y : k < cn
            · rw [if_pos y] at q; exact ⟨y, Option.some.inj q⟩
            · rw [if_neg y] at q; cases q
          exact absurd w (nI_nm1 (by have := hc.2.1 k this.1; omega))
      have kn : cn ≤ k := by
        rcases Nat.lt_or_ge k cn with y | y
        · rw [cho, if_pos y] at e1; cases e1
        · exact y
      have e2 : cho cn ch i = none := if_neg (by omega)
      rw [e2] at hQ
      rw [e1]; exact hQ
    · have kn : k < cn := by
        rcases Nat.lt_or_ge k cn with y | y
        · exact y
        · exact absurd (by rw [cho, if_neg (by omega)]; rfl) w
      have e1 : cho cn ch k = some (ch k) := if_pos kn
      rw [e1]
      refine p_noc hX hy (fun j e => by cases e; exact hc.2.1 k kn) (fun b hb => ?_)
      rw [pBst_u hb (chn_s hc kn), ← nI_succ]
      exact ih (k + 1) fu (by omega) (by omega) (by omega) (by omega)
theorem p_n153 {cn : Nat} {ch : Nat → Nat} (hX : lX A B S nc nw nm nj cw jc E J R I) (hy : ∀ j, j < nj → I 1 46 j = tc j) (hc : chn E nj tc cn ch) (hQ : Q (nI cn) (hq A B S I J R)) : ∀ (r k fu : Nat), cn = k + r → r < fu → wp_X12_count_L153 (A 0 23) Q fu (hq A B S I J R) (nI k) (oI (cho cn ch k)) := by
  have h := hX.1
  have n4 := hX.n4
  have c2 := hc.1
  intro r
  induction r with
  | zero =>
    intro k fu hk hf
    obtain ⟨fu, rfl⟩ : ∃ z, fu = z + 1 := ⟨fu - 1, by omega⟩
    have e1 : cho cn ch k = none := if_neg (by omega)
    have e2 : k = cn := by omega
    rw [wp_X12_count_L153, e1, e2]
    exact ⟨fun _ => hQ, fun z => absurd rfl z⟩
  | succ r ih =>
    intro k fu hk hf
    obtain ⟨fu, rfl⟩ : ∃ z, fu = z + 1 := ⟨fu - 1, by omega⟩
    have kn : k < cn := by omega
    have e1 : cho cn ch k = some (ch k) := if_pos kn
    rw [wp_X12_count_L153, e1]
    refine ⟨fun w => absurd w (nI_nm1 (by have := hc.2.1 k kn; omega)), fun w => ⟨fr_23 h _ _ _, p_noc hX hy (fun j e => by cases e; exact hc.2.1 k kn) (fun b hb => ?_)⟩⟩
    rw [pBst_u hb (chn_s hc kn), ← nI_succ]
    exact ih (k + 1) fu (by omega) (by omega)
theorem mx_len {cn : Nat} {ch : Nat → Nat} (hc : chn E nj tc cn ch) (hp : ∀ j, j < nj → 1 ≤ (tc j).toInt) : mxI nj tc = if cn = 0 then 0 else tc (ch 0) := by
  have hb := hc.2.2.1
  by_cases z : cn = 0
  · rw [if_pos z] at hb ⊢
    rcases Nat.eq_zero_or_pos nj with n0 | n0
    · rw [n0]; rfl
    · exact absurd trivial (hb 0 n0)
  · rw [if_neg z] at hb ⊢
    obtain ⟨b1, -, b3⟩ := hb
    obtain ⟨m1, m2, m3⟩ := mxI_p tc nj
    have p := hp (ch 0) b1
    have q := m2 (ch 0) b1
    rcases m3 with e | ⟨t, ht, e⟩
    · rw [e] at q
      have : (0 : Int32).toInt = 0 := rfl
      omega
    · have w := b3 t ht trivial
      simp only at w
      rw [← e] at q ⊢
      exact Int32.toInt_inj.mp (by omega)
end PN
