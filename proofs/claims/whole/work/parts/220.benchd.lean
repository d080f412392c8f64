/-! mixing, counting, cutting on the class's bench -/
theorem bst_neg {ok : Nat → Bool} {v v' : Nat → Int64} : ∀ {n : Nat}, (∀ i, i < n → (ok i = true → v' i = v i ∧ 0 ≤ (v i).toInt) ∧ (ok i = false → v' i = -1)) → ∀ {c : Nat}, bst (fun _ => true) v' n = some c → (∀ b, bst ok v n = some b → c = b) ∧ (bst ok v n = none → v' c = -1) := by
  have m1 : (-1 : Int64).toInt = -1 := by decide
  intro n
  induction n with
  | zero => intro _ c h; cases h
  | succ n ih =>
    intro h c hc
    have hN := h n (by omega)
    rw [bst] at hc
    rw [bst]
    cases e : bst (fun _ => true) v' n with
    | none =>
      have h0 : n = 0 := by
        cases n with
        | zero => rfl
        | succ n => have := bst_none e 0 (by omega); simp at this
      subst h0
      rw [e] at hc
      simp only [if_true] at hc
      cases hc
      have e0 : bst ok v 0 = none := rfl
      rw [e0]
      cases ho : ok 0 with
      | true => simp
      | false => simp [hN.2 ho]
    | some c0 =>
      obtain ⟨i1, i2⟩ := ih (fun i hi => h i (by omega)) e
      rw [e] at hc
      simp only [true_and] at hc
      cases eb : bst ok v n with
      | none =>
        have hc0 := i2 eb
        cases ho : ok n with
        | true =>
          have g := hN.1 ho
          have hlt : v' c0 < v' n := by rw [hc0, g.1, Int64.lt_iff_toInt_lt, m1]; omega
          rw [if_pos hlt] at hc
          cases hc
          simp
        | false =>
          have g := hN.2 ho
          have hlt : ¬ v' c0 < v' n := by rw [hc0, g, Int64.lt_iff_toInt_lt]; omega
          rw [if_neg hlt] at hc
          cases hc
          simp [hc0]
      | some b =>
        have hb := i1 b eb
        subst hb
        obtain ⟨hb1, hb2⟩ := bst_ok eb
        have gb := (h c0 (by omega)).1 hb2
        cases ho : ok n with
        | true =>
          have g := hN.1 ho
          rw [gb.1, g.1] at hc
          by_cases z : v c0 < v n
          · rw [if_pos z] at hc; cases hc; simp [z]
          · rw [if_neg z] at hc; cases hc; simp [z]
        | false =>
          have g := hN.2 ho
          have hlt : ¬ v' c0 < v' n := by rw [gb.1, g, Int64.lt_iff_toInt_lt, m1]; omega
          rw [if_neg hlt] at hc
          cases hc
          simp
theorem gn_mono {v : Nat → Int64} {n : Nat} : ∀ {s t i : Nat}, s ≤ t → gn v n s i = true → gn v n t i = true := by
  intro s t
  induction t with
  | zero => intro i h h2; rw [show s = 0 by omega] at h2; exact h2
  | succ t ih =>
    intro i h h2
    by_cases e : s = t + 1
    · rw [← e]; exact h2
    · rw [gn, ih (by omega) h2, Bool.true_or]
theorem gn_all {v : Nat → Int64} {n j : Nat} (hj : j < n) : gn v n n j = true := by
  cases e : gn v n n j with
  | true => rfl
  | false =>
    have hb : ∀ t, t < n → ∃ b, bst (fun j => !gn v n t j) v n = some b ∧ b < n ∧ gn v n t b = false := fun t ht => gn_best ht
    have hg : ∀ t (ht : t < n), gn v n (t + 1) (hb t ht).choose = true := fun t ht => by
      have z := (hb t ht).choose_spec.1
      rw [gn, Bool.or_eq_true]
      exact Or.inr (decide_eq_true z)
    have hne : ∀ t (ht : t < n), (hb t ht).choose ≠ j := fun t ht z => by
      have := gn_mono (t := n) (by omega) (hg t ht)
      rw [z, e] at this; cases this
    have hd : ∀ s t (hs : s < n) (ht : t < n), s < t → (hb s hs).choose ≠ (hb t ht).choose := fun s t hs ht hst z => by
      have h1 := gn_mono (t := t) (by omega) (hg s hs)
      rw [z, (hb t ht).choose_spec.2.2] at h1; cases h1
    have := pig (n - 1) n (fun t => if ht : t < n then (if (hb t ht).choose < j then (hb t ht).choose else (hb t ht).choose - 1) else 0) (fun t ht => by
      simp only [ht, dif_pos]
      have h1 := (hb t ht).choose_spec.2.1
      have h2 := hne t ht
      split <;> omega) (fun s t hs ht h => by
      simp only [hs, ht, dif_pos] at h
      have h1 := hne s hs
      have h2 := hne t ht
      have h3 : (hb s hs).choose = (hb t ht).choose := by
        by_cases z1 : (hb s hs).choose < j
        · by_cases z2 : (hb t ht).choose < j
          · rw [if_pos z1, if_pos z2] at h; exact h
          · rw [if_pos z1, if_neg z2] at h; omega
        · by_cases z2 : (hb t ht).choose < j
          · rw [if_neg z1, if_pos z2] at h; omega
          · rw [if_neg z1, if_neg z2] at h; omega
      by_cases z : s < t
      · exact absurd h3 (hd s t hs ht z)
      · by_cases z2 : t < s
        · exact absurd h3.symm (hd t s ht hs z2)
        · omega)
    omega
section BD
variable {S : Hp} {e p d r w n : Nat} {k a b : Int32} {x : Nat → Int32} {f g : Nat → Int64} {v : Int32}
def mxF (a : Int32) (n : Nat) (x : Nat → Int32) (f : Nat → Int64) (t j : Nat) : Int64 := if j < n then (if gn (rm a n x) n t j = true then qt a n x j + 1 else qt a n x j) else f j
def mxG (a : Int32) (n : Nat) (x : Nat → Int32) (g : Nat → Int64) (t j : Nat) : Int64 := if j < n then (if gn (rm a n x) n t j = true then -1 else rm a n x j) else g j
theorem p_mix_L {K Q : Hp → Prop} (h : isBn S e p d) (hr : isRc S r w k a b n x) (hb : bBelow a n x = false) (hs : ¬ bSum n x = 0) {o : Nat} (ho : o < n) (hk : K (bn S e p d (mxF a n x f o) (mxG a n x g o) v)) :
    ∀ (m t l : Nat), t + m = o → m < l → wp_X1_mixParts_L9 e (some r) (lN o) K Q l (bn S e p d (mxF a n x f t) (mxG a n x g t) v) (nI t) := by
  have hn := hr.2.2.2.2.2.2.2.2.1
  intro m
  induction m with
  | zero =>
    intro t l hi hl
    obtain ⟨l, rfl⟩ : ∃ m, l = m + 1 := ⟨l - 1, by omega⟩
    obtain rfl : t = o := by omega
    rw [wp_X1_mixParts_L9, nI_l (by omega)]
    exact ⟨fun _ => hk, fun z => absurd ((lN_le62 (by omega) (by omega)).mpr (Nat.le_refl _)) z⟩
  | succ m ih =>
    intro t l hi hl
    obtain ⟨l, rfl⟩ : ∃ m, l = m + 1 := ⟨l - 1, by omega⟩
    have hr' := hr.bn (f := mxF a n x f t) (g := mxG a n x g t) (v := v) h
    have h4 := hr'.2.2.2.2.2.2.2.1
    rw [wp_X1_mixParts_L9, nI_l (by omega), lN_le62 (by omega) (by omega)]
    refine ⟨fun z => by omega, fun _ => ⟨r, rfl, hr'.1, fun z => absurd (show nI n ≤ nI t by rw [← h4]; exact z) (nI_ge (by omega) (by omega)), fun _ => ⟨h.1, ?_⟩⟩⟩
    rw [h4]
    refine p_gRest h hn (by omega) (fun c hc => ?_)
    obtain ⟨b0, hb0, hb1, hb2⟩ := gn_best (v := rm a n x) (n := n) (t := t) (by omega)
    have hcb : c = b0 := by
      refine (bst_neg (ok := fun j => !gn (rm a n x) n t j) (v := rm a n x) (fun i hi => ⟨fun z => ?_, fun z => ?_⟩) hc).1 b0 hb0
      · have z : gn (rm a n x) n t i = false := by simpa using z
        unfold mxG
        rw [if_pos hi, z]
        exact ⟨rfl, rm_nonneg hn hb hs hi⟩
      · have z : gn (rm a n x) n t i = true := by simpa using z
        unfold mxG
        rw [if_pos hi, if_pos z]
    subst hcb
    refine ⟨h.1, p, h.2.1, h.2.2.2.1, (bn_in h (by omega)).1, (bn_in h (by omega)).1, d, h.2.2.1, h.2.2.2.2.1, (bn_in h (by omega)).2, ?_⟩
    rw [nI_clamp (by omega), bn_p h, bn_sp h, bn_sd, nI_1]
    have e1 : (fun j => if j = c then mxF a n x f t c + 1 else mxF a n x f t j) = mxF a n x f (t + 1) := by
      funext j
      unfold mxF
      by_cases z : j = c
      · subst z
        rw [if_pos rfl, if_pos hb1, hb2, if_pos hb1, gn, hb0]
        simp
      · rw [if_neg z, gn, hb0]
        have : ¬ c = j := fun y => z y.symm
        simp [this]
    have e2 : (fun j => if j = c then (-1 : Int64) else mxG a n x g t j) = mxG a n x g (t + 1) := by
      funext j
      unfold mxG
      by_cases z : j = c
      · subst z
        rw [if_pos rfl, if_pos hb1, gn, hb0]
        simp
      · rw [if_neg z, gn, hb0]
        have : ¬ c = j := fun y => z y.symm
        simp [this]
    rw [e1, e2]
    exact ih (t + 1) l (by omega) (by omega)
theorem p_pos_L {Q : Hp → Prop} (h : isBn S e p d) (hr : isRc S r w k a b n x) (hq : Q (bn S e p d f g (cntI n (fun i => decide (0 < f i))))) :
    ∀ (m i l : Nat), i + m = n → m < l → wp_X1_mixParts_L66 e (some r) Q l (bn S e p d f g (cntI i (fun i => decide (0 < f i)))) (nI i) := by
  have hn := hr.2.2.2.2.2.2.2.2.1
  intro m
  induction m with
  | zero =>
    intro i l hi hl
    obtain ⟨l, rfl⟩ : ∃ m, l = m + 1 := ⟨l - 1, by omega⟩
    obtain rfl : i = n := by omega
    have hr' := hr.bn (f := f) (g := g) (v := cntI i (fun i => decide (0 < f i))) h
    rw [wp_X1_mixParts_L66]
    refine ⟨r, rfl, hr'.1, fun _ => hq, fun z => absurd ?_ z⟩
    rw [hr'.2.2.2.2.2.2.2.1]
    exact nI_le (Nat.le_refl _) (by omega)
  | succ m ih =>
    intro i l hi hl
    obtain ⟨l, rfl⟩ : ∃ m, l = m + 1 := ⟨l - 1, by omega⟩
    have hr' := hr.bn (f := f) (g := g) (v := cntI i (fun i => decide (0 < f i))) h
    rw [wp_X1_mixParts_L66]
    refine ⟨r, rfl, hr'.1, fun z => absurd (show nI n ≤ nI i by rw [← hr'.2.2.2.2.2.2.2.1]; exact z) (nI_ge (by omega) (by omega)), fun _ => ⟨h.1, p, h.2.1, h.2.2.2.1, (bn_in h (by omega)).1, fun z => ?_, fun z => ?_⟩⟩
    · rw [nI_clamp (by omega), bn_p h] at z
      rw [nI_1]
      have := ih (i + 1) l (by omega) (by omega)
      rw [cntI, if_neg (by simp [j_nlt.mpr z])] at this
      exact this
    · rw [nI_clamp (by omega), bn_p h] at z
      rw [nI_1, bn_se, bn_e]
      have := ih (i + 1) l (by omega) (by omega)
      rw [cntI, if_pos (by simp [j_nle.mp z])] at this
      exact this
theorem c_add99 (y : Int64) : y + 100 - 1 = y + 99 := by
  rw [Int64.sub_eq_add_neg, Int64.add_assoc]; rfl
theorem p_count_L {Q : Hp → Prop} (h : isBn S e p d) (hr : isRc S r w k a b n x) (hq : Q (bn S e p d (fun j => if j < n then cP a x j else f j) g (sumJ n (cP a x)).toInt32)) :
    ∀ (m i l : Nat), i + m = n → m < l → wp_X1_countUp_L16 e r (100 + a.toInt64) Q l (bn S e p d (fun j => if j < i then cP a x j else f j) g v) (sumJ i (cP a x)) (nI i) := by
  have hn := hr.2.2.2.2.2.2.2.2.1
  intro m
  induction m with
  | zero =>
    intro i l hi hl
    obtain ⟨l, rfl⟩ : ∃ m, l = m + 1 := ⟨l - 1, by omega⟩
    obtain rfl : i = n := by omega
    have hr' := hr.bn (f := fun j => if j < i then cP a x j else f j) (g := g) (v := v) h
    rw [wp_X1_countUp_L16, bn_se, hr'.2.2.2.2.2.2.2.1]
    exact ⟨hr'.1, fun _ => ⟨h.1, hq⟩, fun z => absurd (nI_le (Nat.le_refl _) (by omega)) z⟩
  | succ m ih =>
    intro i l hi hl
    obtain ⟨l, rfl⟩ : ∃ m, l = m + 1 := ⟨l - 1, by omega⟩
    have hr' := hr.bn (f := fun j => if j < i then cP a x j else f j) (g := g) (v := v) h
    obtain ⟨k1, k2, k3, k4, k5, k6, k7, k8, k9, k10⟩ := hr'
    rw [wp_X1_countUp_L16, k8]
    refine ⟨k1, fun z => absurd z (nI_ge (by omega) (by omega)), fun _ => ⟨h.1, w, k2, k3, by rw [k4]; exact nI_in (by omega) (by decide), p, h.2.1, h.2.2.2.1, (bn_in h (by omega)).1, p, h.2.1, h.2.2.2.1, (bn_in h (by omega)).1, fun z17 hz17 => ?_⟩⟩
    rw [nI_clamp (by omega), k10 i (by omega), c_add99, bn_sp h, bn_p h, if_pos rfl] at hz17
    rw [nI_clamp (by omega), k10 i (by omega), c_add99, bn_sp h, nI_1]
    have hz17 : z17 = sumJ (i + 1) (cP a x) := hz17
    subst hz17
    have e1 : (fun j => if j = i then ((x i).toInt64 * (100 + a.toInt64) + 99) / 100 else if j < i then cP a x j else f j) = (fun j => if j < i + 1 then cP a x j else f j) := by
      funext j
      by_cases z : j = i
      · rw [if_pos z, if_pos (by omega), z]; rfl
      · rw [if_neg z]
        by_cases z2 : j < i
        · rw [if_pos z2, if_pos (by omega)]
        · rw [if_neg z2, if_neg (by omega)]
    rw [e1]
    exact ih (i + 1) l (by omega) (by omega)
theorem p_cut0_L {K Q : Hp → Prop} (h : isBn S e p d) (hr : isRc S r w k a b n x) (hk : K (bn S e p d (fun j => if j < n then -1 else f j) g v)) :
    ∀ (m i l : Nat), i + m = n → m < l → wp_X1_cutBoards_L2 e (some r) K Q l (bn S e p d (fun j => if j < i then -1 else f j) g v) (nI i) := by
  have hn := hr.2.2.2.2.2.2.2.2.1
  intro m
  induction m with
  | zero =>
    intro i l hi hl
    obtain ⟨l, rfl⟩ : ∃ m, l = m + 1 := ⟨l - 1, by omega⟩
    obtain rfl : i = n := by omega
    have hr' := hr.bn (f := fun j => if j < i then -1 else f j) (g := g) (v := v) h
    rw [wp_X1_cutBoards_L2]
    refine ⟨r, rfl, hr'.1, fun _ => hk, fun z => absurd ?_ z⟩
    rw [hr'.2.2.2.2.2.2.2.1]
    exact nI_le (Nat.le_refl _) (by omega)
  | succ m ih =>
    intro i l hi hl
    obtain ⟨l, rfl⟩ : ∃ m, l = m + 1 := ⟨l - 1, by omega⟩
    have hr' := hr.bn (f := fun j => if j < i then -1 else f j) (g := g) (v := v) h
    rw [wp_X1_cutBoards_L2]
    refine ⟨r, rfl, hr'.1, fun z => absurd (show nI n ≤ nI i by rw [← hr'.2.2.2.2.2.2.2.1]; exact z) (nI_ge (by omega) (by omega)), fun _ => ⟨h.1, p, h.2.1, h.2.2.2.1, (bn_in h (by omega)).1, ?_⟩⟩
    rw [nI_clamp (by omega), bn_sp h, nI_1]
    have e1 : (fun j => if j = i then (-1 : Int64) else if j < i then -1 else f j) = (fun j => if j < i + 1 then -1 else f j) := by
      funext j
      by_cases z : j = i
      · rw [if_pos z, if_pos (by omega)]
      · rw [if_neg z]
        by_cases z2 : j < i
        · rw [if_pos z2, if_pos (by omega)]
        · rw [if_neg z2, if_neg (by omega)]
    rw [e1]
    exact ih (i + 1) l (by omega) (by omega)
def enc (o : Option Nat) : Int32 := match o with
  | none => -1
  | some b => nI b
theorem wide_lt (y z : Int32) : y.toInt64 < z.toInt64 ↔ y < z := by rw [Int64.lt_iff_toInt_lt, Int32.lt_iff_toInt_lt, Int32.toInt_toInt64, Int32.toInt_toInt64]
theorem p_gUncut_L {Q : Int32 → Hp → Prop} (h : isBn S e p d) (hr : isRc S r w k a b n x) (hq : Q (enc (bst (fun j => decide (f j = -1)) (xl x) n)) (bn S e p d f g v)) :
    ∀ (m i l : Nat), i + m = n → m < l → wp_X1_greatestUncut_L4 (bn S e p d f g v) e (some r) Q l (enc (bst (fun j => decide (f j = -1)) (xl x) i)) (nI i) := by
  have hn := hr.2.2.2.2.2.2.2.2.1
  have hr' := hr.bn (f := f) (g := g) (v := v) h
  obtain ⟨k1, k2, k3, k4, k5, k6, k7, k8, k9, k10⟩ := hr'
  intro m
  induction m with
  | zero =>
    intro i l hi hl
    obtain ⟨l, rfl⟩ : ∃ m, l = m + 1 := ⟨l - 1, by omega⟩
    obtain rfl : i = n := by omega
    rw [wp_X1_greatestUncut_L4]
    refine ⟨r, rfl, k1, fun _ => hq, fun z => absurd ?_ z⟩
    rw [k8]
    exact nI_le (Nat.le_refl _) (by omega)
  | succ m ih =>
    intro i l hi hl
    obtain ⟨l, rfl⟩ : ∃ m, l = m + 1 := ⟨l - 1, by omega⟩
    have IH := ih (i + 1) l (by omega) (by omega)
    rw [wp_X1_greatestUncut_L4]
    rw [bst] at IH
    refine ⟨r, rfl, k1, fun z => absurd (show nI n ≤ nI i by rw [← k8]; exact z) (nI_ge (by omega) (by omega)), fun _ => ⟨h.1, p, h.2.1, h.2.2.2.1, (bn_in h (by omega)).1, fun z => ?_, fun z => ?_⟩⟩
    · rw [nI_clamp (by omega), bn_p h] at z
      rw [nI_1]
      cases eb : bst (fun j => decide (f j = -1)) (xl x) i with
      | none =>
        rw [eb] at IH
        simp only [z, decide_true, if_true] at IH
        exact ⟨fun _ => IH, fun y => absurd rfl y⟩
      | some c =>
        rw [eb] at IH
        have hc := (bst_ok eb).1
        simp only [z, decide_true, true_and] at IH
        refine ⟨fun y => absurd y (nI_nm1 (by omega)), fun _ => ⟨w, k2, k3, by rw [k4]; exact nI_in (by omega) (by decide), by rw [k4]; exact nI_in (by omega) (by decide), fun y => ?_, fun y => ?_⟩⟩
        · rw [nI_clamp (by omega), show (enc (some c)) = nI c from rfl, nI_clamp (by omega), k10 i (by omega), k10 c (by omega)] at y
          rw [if_neg (by unfold xl; rw [wide_lt]; exact i_nlt.mpr y)] at IH
          exact IH
        · rw [nI_clamp (by omega), show (enc (some c)) = nI c from rfl, nI_clamp (by omega), k10 i (by omega), k10 c (by omega)] at y
          rw [if_pos (by unfold xl; rw [wide_lt]; exact i_nle.mp y)] at IH
          exact IH
    · rw [nI_clamp (by omega), bn_p h] at z
      rw [nI_1]
      cases eb : bst (fun j => decide (f j = -1)) (xl x) i with
      | none =>
        rw [eb] at IH
        simp only [z, decide_false, Bool.false_eq_true, if_false] at IH
        exact IH
      | some c =>
        rw [eb] at IH
        simp only [z, decide_false, Bool.false_eq_true, false_and, if_false] at IH
        exact IH
theorem p_board_L {z : Int64} {K : Prop} {Q : Int32 → Hp → Prop} (h : isBn S e p d) (hr : isRc S r w k a b n x) {M : Nat} (hM : M < 30) :
    ∀ (m i l : Nat), i + m = M → m < l → (fstB g a b z m i = M → K) → (fstB g a b z m i ≠ M → Q (nI (fstB g a b z m i)) (bn S e p d f (fun j => if j = fstB g a b z m i then g (fstB g a b z m i) + b.toInt64 + z else g j) (nI M))) → wp_X1_boardFor_L3 (bn S e p d f g (nI M)) e z (some r) K Q l (nI i) := by
  have hr' := hr.bn (f := f) (g := g) (v := nI M) h
  obtain ⟨k1, k2, k3, k4, k5, k6, k7, k8, k9, k10⟩ := hr'
  intro m
  induction m with
  | zero =>
    intro i l hi hl h1 h2
    obtain ⟨l, rfl⟩ : ∃ m, l = m + 1 := ⟨l - 1, by omega⟩
    rw [wp_X1_boardFor_L3, bn_e]
    refine ⟨h.1, fun _ => h1 (by rw [fstB]; omega), fun y => absurd (nI_le (by omega) (by omega)) y⟩
  | succ m ih =>
    intro i l hi hl h1 h2
    obtain ⟨l, rfl⟩ : ∃ m, l = m + 1 := ⟨l - 1, by omega⟩
    rw [fstB] at h1 h2
    rw [wp_X1_boardFor_L3, bn_e]
    refine ⟨h.1, fun y => absurd y (nI_ge (by omega) (by omega)), fun _ => ⟨fun y => absurd y (nI_ge (b := 30) (by omega) (by decide)), fun _ => ⟨d, h.2.2.1, h.2.2.2.2.1, (bn_in h (by omega)).2, r, rfl, k1, fun z9 hz9 => ?_⟩⟩⟩
    rw [nI_clamp (by omega), bn_d, k7] at hz9
    rw [k6, hz9, nI_1, nI_clamp (by omega), bn_sd]
    refine ⟨fun y => ?_, fun y => ⟨(bn_in h (by omega)).2, ?_⟩⟩
    · rw [if_pos y] at h1 h2
      exact ih (i + 1) l (by omega) (by omega) h1 h2
    · rw [if_neg y] at h2
      exact h2 (by omega)
theorem fstB_congr {u u' : Nat → Int64} {z : Int64} : ∀ (m i : Nat), (∀ j, i ≤ j → j < i + m → u j = u' j) → fstB u a b z m i = fstB u' a b z m i := by
  intro m
  induction m with
  | zero => intro i _; rfl
  | succ m ih =>
    intro i h
    rw [fstB, fstB, h i (by omega) (by omega), ih (i + 1) (fun j h1 h2 => h j (by omega) (by omega))]
theorem nJ_nm1 {m : Nat} (hm : m < 2 ^ 31) : ¬ (nI m).toInt64 = -1 := fun z => by
  have := congrArg Int64.toInt z
  rw [Int32.toInt_toInt64, nI_toInt hm] at this
  have h2 : (-1 : Int64).toInt = -1 := by decide
  omega
def ctF (a b : Int32) (n : Nat) (x : Nat → Int32) (f : Nat → Int64) (t j : Nat) : Int64 := if j < n then (if gn (xl x) n t j = true then (cutS a b n x t).2.2 j else -1) else f j
theorem cut_p (t j : Nat) : gn (xl x) n t j = true → ∃ m, m < 2 ^ 31 ∧ (cutS a b n x t).2.2 j = (nI m).toInt64 ∨ n ≥ 2 ^ 31 ∨ t ≥ 2 ^ 31 := by
  induction t with
  | zero => intro h; cases h
  | succ t ih =>
    intro h
    by_cases ht : t + 1 ≥ 2 ^ 31
    · exact ⟨0, Or.inr (Or.inr ht)⟩
    rw [gn, Bool.or_eq_true] at h
    rw [cutS]
    have hm := cut_n (a := a) (b := b) (n := n) (x := x) t
    cases eb : bst (fun j => !gn (xl x) n t j) (xl x) n with
    | none =>
      rw [eb] at h
      simp only [reduceCtorEq, decide_false, or_false, Bool.false_eq_true] at h
      obtain ⟨m, hh⟩ := ih h
      refine ⟨m, ?_⟩
      rcases hh with hh | hh | hh
      · exact Or.inl hh
      · exact Or.inr (Or.inl hh)
      · omega
    | some c =>
      rw [eb] at h
      dsimp only
      by_cases z : j = c
      · have := fstB_le (cutS a b n x t).2.1 a b (xl x c) (cutS a b n x t).1 0
        refine ⟨fstB (cutS a b n x t).2.1 a b (xl x c) (cutS a b n x t).1 0, Or.inl ⟨by omega, ?_⟩⟩
        rw [if_pos z]
      · rw [if_neg z]
        have : ¬ c = j := fun y => z y.symm
        simp only [Option.some.injEq, this, decide_false, Bool.false_eq_true, or_false] at h
        obtain ⟨m, hh⟩ := ih h
        refine ⟨m, ?_⟩
        rcases hh with hh | hh | hh
        · exact Or.inl hh
        · exact Or.inr (Or.inl hh)
        · omega
theorem p_cut_L {Q : Hp → Prop} (h : isBn S e p d) (hr : isRc S r w k a b n x) (hq : ∀ g', Q (bn S e p d (ctF a b n x f n) g' (nI (cutS a b n x n).1))) :
    ∀ (m t l : Nat) (g : Nat → Int64), t + m = n → m < l → (∀ i, i < (cutS a b n x t).1 → g i = (cutS a b n x t).2.1 i) → wp_X1_cutBoards_L27 e (some r) Q l (bn S e p d (ctF a b n x f t) g (nI (cutS a b n x t).1)) (nI t) := by
  have hn := hr.2.2.2.2.2.2.2.2.1
  intro m
  induction m with
  | zero =>
    intro t l g hi hl hg
    obtain ⟨l, rfl⟩ : ∃ m, l = m + 1 := ⟨l - 1, by omega⟩
    obtain rfl : t = n := by omega
    have hr' := hr.bn (f := ctF a b t x f t) (g := g) (v := nI (cutS a b t x t).1) h
    rw [wp_X1_cutBoards_L27]
    refine ⟨r, rfl, hr'.1, fun _ => hq g, fun z => absurd ?_ z⟩
    rw [hr'.2.2.2.2.2.2.2.1]
    exact nI_le (Nat.le_refl _) (by omega)
  | succ m ih =>
    intro t l g hi hl hg
    obtain ⟨l, rfl⟩ : ∃ m, l = m + 1 := ⟨l - 1, by omega⟩
    have hmt := cut_n (a := a) (b := b) (n := n) (x := x) t
    generalize hM : (cutS a b n x t).1 = M at hg hmt
    have hr' := hr.bn (f := ctF a b n x f t) (g := g) (v := nI M) h
    obtain ⟨k1, k2, k3, k4, k5, k6, k7, k8, k9, k10⟩ := hr'
    obtain ⟨c, hc0, hc1, hc2⟩ := gn_best (v := xl x) (n := n) (t := t) (by omega)
    have hbest : bst (fun j => decide (ctF a b n x f t j = -1)) (xl x) n = some c := by
      rw [← hc0]
      refine bst_congr (fun i hi => ⟨?_, rfl⟩)
      unfold ctF
      rw [if_pos hi]
      cases eg : gn (xl x) n t i with
      | false => simp
      | true =>
        obtain ⟨m0, hh⟩ := cut_p (a := a) (b := b) t i eg
        rcases hh with hh | hh | hh
        · rw [if_pos rfl, hh.2]; simp [nJ_nm1 hh.1]
        · omega
        · omega
    rw [wp_X1_cutBoards_L27]
    refine ⟨r, rfl, k1, fun z => absurd (show nI n ≤ nI t by rw [← k8]; exact z) (nI_ge (by omega) (by omega)), fun _ => ⟨h.1, ?_⟩⟩
    refine p_gUncut_L h hr ?_ n 0 FU (by omega) (fu_pos (by omega))
    rw [hbest]
    refine ⟨fun z => absurd z (nI_nm1 (by omega)), fun _ => ⟨h.1, k1, w, k2, k3, by rw [k4]; exact nI_in (by omega) (by decide), ?_⟩⟩
    show wp_X1_boardFor _ e ((hI _ w (nI c).toNatClampNeg).toInt64) (some r) _
    rw [nI_clamp (by omega), k10 c hc1]
    have hfc : fstB g a b (x c).toInt64 M 0 = fstB (cutS a b n x t).2.1 a b (xl x c) (cutS a b n x t).1 0 := by
      rw [hM]
      exact fstB_congr M 0 (fun j _ h2 => hg j (by omega))
    have IH : ∀ g', (∀ i, i < (cutS a b n x (t + 1)).1 → g' i = (cutS a b n x (t + 1)).2.1 i) → wp_X1_cutBoards_L27 e (some r) Q l (bn S e p d (ctF a b n x f (t + 1)) g' (nI (cutS a b n x (t + 1)).1)) (nI (t + 1)) := fun g' hg' => ih (t + 1) l g' (by omega) (by omega) hg'
    rw [cutS, hc0] at IH
    dsimp only at IH
    rw [← hfc, hM] at IH
    have hfF : ∀ kk : Nat, fstB g a b (x c).toInt64 M 0 = kk → (fun j => if j = c then (nI kk).toInt64 else ctF a b n x f t j) = ctF a b n x f (t + 1) := by
      intro kk hkk
      funext j
      unfold ctF
      rw [gn, cutS, hc0]
      dsimp only
      rw [← hfc, hkk]
      by_cases z : j = c
      · subst z
        rw [if_pos rfl, if_pos hc1]
        simp
      · have : ¬ c = j := fun y => z y.symm
        rw [if_neg z]
        simp [this, z]
    unfold wp_X1_boardFor
    refine p_board_L h hr (by omega) M 0 FU (by omega) (fu_pos (by omega)) (fun hkk => ?_) (fun hkk => ?_)
    · rw [bn_e]
      refine ⟨h.1, fun _ => ⟨d, h.2.2.1, h.2.2.2.2.1, (bn_in h (by omega)).2, ?_⟩, fun y => absurd (nI_lt (b := 30) (by omega) (by decide)) y⟩
      rw [nI_clamp (by omega), bn_sd, bn_e, bn_se, bn_e, nI_1 M, nI_pred]
      refine ⟨p, h.2.1, h.2.2.2.1, (bn_in h (by omega)).1, ?_⟩
      show wp_X1_cutBoards_L27 e (some r) Q l (sJ _ p (nI c).toNatClampNeg _) _
      rw [nI_clamp (by omega), bn_sp h, nI_1, hfF M hkk]
      rw [if_pos hkk] at IH
      refine IH _ (fun i hi => ?_)
      rw [hkk, if_pos rfl]
      by_cases z : i = M
      · rw [if_pos z, if_pos z]; rfl
      · rw [if_neg z, if_neg z]; exact hg i (by omega)
    · have hle := fstB_le g a b (x c).toInt64 M 0
      refine ⟨p, h.2.1, h.2.2.2.1, (bn_in h (by omega)).1, ?_⟩
      show wp_X1_cutBoards_L27 e (some r) Q l (sJ _ p (nI c).toNatClampNeg _) _
      rw [nI_clamp (by omega), bn_sp h, nI_1, hfF _ rfl]
      rw [if_neg hkk] at IH
      refine IH _ (fun i hi => ?_)
      by_cases z : i = fstB g a b (x c).toInt64 M 0
      · rw [if_pos z, if_pos z, if_neg hkk, hg _ (by omega)]; rfl
      · rw [if_neg z, if_neg z]; exact hg i (by omega)
end BD
