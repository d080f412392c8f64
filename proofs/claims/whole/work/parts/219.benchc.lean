/-! the class's bench -/
theorem hp_ext {S T : Hp} (h1 : ∀ b, hK S b = hK T b) (h2 : ∀ b, hN S b = hN T b) (h3 : ∀ b j, hI S b j = hI T b j) (h4 : ∀ b j, hJ S b j = hJ T b j) (h5 : ∀ b j, hR S b j = hR T b j) (h6 : hT S = hT T) : S = T :=
  Prod.ext (funext h1) (Prod.ext (funext h2) (Prod.ext (funext fun b => funext (h3 b)) (Prod.ext (funext fun b => funext (h4 b)) (Prod.ext (funext fun b => funext (h5 b)) h6))))
def isBn (S : Hp) (e p d : Nat) : Prop := hK S e = 3 ∧ hR S e 0 = some p ∧ hR S e 1 = some d ∧ hK S p = 16 ∧ hK S d = 16 ∧ hN S p = 30 ∧ hN S d = 30 ∧ p ≠ d
def bn (S : Hp) (e p d : Nat) (f g : Nat → Int64) (v : Int32) : Hp := sI (sWJ (sWJ S p f) d g) e 2 v
section BN
variable {S : Hp} {e p d r w n : Nat} {k a b : Int32} {x : Nat → Int32} {f g : Nat → Int64} {v : Int32}
theorem bn_p (h : isBn S e p d) (i : Nat) : hJ (bn S e p d f g v) p i = f i := by
  unfold bn
  rw [hJ_sI, hJ_sWJ, if_neg h.2.2.2.2.2.2.2, hJ_sWJ, if_pos rfl]
theorem bn_d (i : Nat) : hJ (bn S e p d f g v) d i = g i := by
  unfold bn
  rw [hJ_sI, hJ_sWJ, if_pos rfl]
theorem bn_e : hI (bn S e p d f g v) e 2 = v := by
  unfold bn
  rw [hI_sI, if_pos ⟨rfl, rfl⟩]
theorem bn_sp (h : isBn S e p d) (i : Nat) (z : Int64) : sJ (bn S e p d f g v) p i z = bn S e p d (fun j => if j = i then z else f j) g v := by
  rw [sJ_row]
  have : (fun j => if j = i then z else hJ (bn S e p d f g v) p j) = (fun j => if j = i then z else f j) := by funext j; rw [bn_p h]
  rw [this]
  refine hp_ext (fun _ => rfl) (fun _ => rfl) (fun _ _ => rfl) (fun c j => ?_) (fun _ _ => rfl) rfl
  unfold bn
  simp only [hJ_sI, hJ_sWJ]
  by_cases e1 : c = p
  · subst e1
    simp [h.2.2.2.2.2.2.2]
  · by_cases e2 : c = d
    · subst e2; simp [e1]
    · simp [e1, e2]
theorem bn_sd (i : Nat) (z : Int64) : sJ (bn S e p d f g v) d i z = bn S e p d f (fun j => if j = i then z else g j) v := by
  rw [sJ_row]
  have : (fun j => if j = i then z else hJ (bn S e p d f g v) d j) = (fun j => if j = i then z else g j) := by funext j; rw [bn_d]
  rw [this]
  refine hp_ext (fun _ => rfl) (fun _ => rfl) (fun _ _ => rfl) (fun c j => ?_) (fun _ _ => rfl) rfl
  unfold bn
  simp only [hJ_sI, hJ_sWJ]
  by_cases e2 : c = d <;> simp [e2]
theorem bn_se (z : Int32) : sI (bn S e p d f g v) e 2 z = bn S e p d f g z := by
  refine hp_ext (fun _ => rfl) (fun _ => rfl) (fun c j => ?_) (fun _ _ => rfl) (fun _ _ => rfl) rfl
  unfold bn
  simp only [hI_sI]
  by_cases e2 : c = e ∧ j = 2 <;> simp [e2]
theorem isRc.bn (h : isRc S r w k a b n x) (h2 : isBn S e p d) : isRc (bn S e p d f g v) r w k a b n x := by
  obtain ⟨k1, k2, k3, k4, k5, k6, k7, k8, k9, k10⟩ := h
  have hre : r ≠ e := fun z => by rw [z, h2.1] at k1; exact absurd k1 (by decide)
  have hwe : w ≠ e := fun z => by rw [z, h2.1] at k3; exact absurd k3 (by decide)
  have hi : ∀ c j, c ≠ e → hI (Pilot.CSetWorkshopLaw_law_r9471_6d153d.bn S e p d f g v) c j = hI S c j := fun c j hc => by
    unfold Pilot.CSetWorkshopLaw_law_r9471_6d153d.bn
    rw [hI_sI, if_neg (fun z => hc z.1)]; rfl
  exact ⟨k1, k2, k3, k4, (hi r 0 hre).trans k5, (hi r 1 hre).trans k6, (hi r 2 hre).trans k7, (hi r 4 hre).trans k8, k9, fun i hi2 => (hi w i hwe).trans (k10 i hi2)⟩
theorem bn_self (S : Hp) (h : isBn S e p d) : bn S e p d (hJ S p) (hJ S d) (hI S e 2) = S := by
  refine hp_ext (fun _ => rfl) (fun _ => rfl) (fun c j => ?_) (fun c j => ?_) (fun _ _ => rfl) rfl
  · unfold bn
    simp only [hI_sI, hI_sWJ]
    by_cases e2 : c = e ∧ j = 2
    · rw [if_pos e2, e2.1, e2.2]
    · rw [if_neg e2]
  · unfold bn
    simp only [hJ_sI, hJ_sWJ]
    by_cases e2 : c = d
    · rw [if_pos e2, e2]
    · rw [if_neg e2]
      by_cases e3 : c = p
      · rw [if_pos e3, e3]
      · rw [if_neg e3]
theorem bn_in (h : isBn S e p d) {i : Nat} (hi : i < 30) : vp_in (nI i) (hN S p) ∧ vp_in (nI i) (hN S d) := by
  rw [h.2.2.2.2.2.1, h.2.2.2.2.2.2.1]
  exact ⟨nI_in hi (by decide), nI_in hi (by decide)⟩
theorem p_comp_L {ro : Option Nat} {K Q : Hp → Prop} (h : isBn S e p d) (hk : K (bn S e p d (fun j => if j < 30 then 0 else f j) g v)) : ∀ (m i l : Nat), i + m = 30 → m < l → wp_X1_compute_L2 e ro K Q l (bn S e p d (fun j => if j < i then 0 else f j) g v) (nI i) := by
  intro m
  induction m with
  | zero =>
    intro i l hi hl
    obtain ⟨l, rfl⟩ : ∃ m, l = m + 1 := ⟨l - 1, by omega⟩
    obtain rfl : i = 30 := by omega
    rw [wp_X1_compute_L2]
    exact ⟨fun _ => hk, fun z => absurd (nI_le (a := 30) (b := 30) (Nat.le_refl _) (by decide)) z⟩
  | succ m ih =>
    intro i l hi hl
    obtain ⟨l, rfl⟩ : ∃ m, l = m + 1 := ⟨l - 1, by omega⟩
    rw [wp_X1_compute_L2]
    refine ⟨fun z => absurd z (nI_ge (b := 30) (by omega) (by decide)), fun _ => ⟨h.1, p, h.2.1, h.2.2.2.1, (bn_in h (by omega)).1, ?_⟩⟩
    rw [nI_clamp (by omega), nI_1, bn_sp h]
    have e1 : (fun j => if j = i then (0 : Int64) else if j < i then 0 else f j) = (fun j => if j < i + 1 then 0 else f j) := by
      funext j
      by_cases z : j = i
      · rw [if_pos z, if_pos (by omega)]
      · rw [if_neg z]
        by_cases z2 : j < i
        · rw [if_pos z2, if_pos (by omega)]
        · rw [if_neg z2, if_neg (by omega)]
    rw [e1]
    exact ih (i + 1) l (by omega) (by omega)
theorem p_share_L {Q : Int64 → Hp → Prop} (h : isBn S e p d) (hr : isRc S r w k a b n x) (hs : ¬ bSum n x = 0) (hq : Q (ovr a n x n) (bn S e p d (fun j => if j < n then qt a n x j else f j) (fun j => if j < n then rm a n x j else g j) v)) :
    ∀ (m i l : Nat), i + m = n → m < l → wp_X1_share_L23 e r (bSum n x) Q l (bn S e p d (fun j => if j < i then qt a n x j else f j) (fun j => if j < i then rm a n x j else g j) v) (ovr a n x i) (nI i) := by
  intro m
  induction m with
  | zero =>
    intro i l hi hl
    obtain ⟨l, rfl⟩ : ∃ m, l = m + 1 := ⟨l - 1, by omega⟩
    obtain rfl : i = n := by omega
    have hr' := hr.bn (f := (fun j => if j < i then qt a i x j else f j)) (g := (fun j => if j < i then rm a i x j else g j)) (v := v) h
    obtain ⟨k1, k2, k3, k4, k5, k6, k7, k8, k9, k10⟩ := hr'
    rw [wp_X1_share_L23, k8]
    exact ⟨k1, fun _ => hq, fun z => absurd (nI_le (Nat.le_refl _) (by omega)) z⟩
  | succ m ih =>
    intro i l hi hl
    obtain ⟨l, rfl⟩ : ∃ m, l = m + 1 := ⟨l - 1, by omega⟩
    have hr' := hr.bn (f := (fun j => if j < i then qt a n x j else f j)) (g := (fun j => if j < i then rm a n x j else g j)) (v := v) h
    obtain ⟨k1, k2, k3, k4, k5, k6, k7, k8, k9, k10⟩ := hr'
    rw [wp_X1_share_L23, k8, k6]
    refine ⟨k1, fun z => absurd z (nI_ge (by omega) (by omega)), fun _ => ⟨w, k2, k3, by rw [k4]; exact nI_in (by omega) (by decide), fun z13 hz13 => ?_⟩⟩
    rw [nI_clamp (by omega), k10 i (by omega)] at hz13
    have hz13 : z13 = wh a x i := hz13
    subst hz13
    rw [nI_clamp (by omega)]
    refine ⟨h.1, hs, p, h.2.1, h.2.2.2.1, (bn_in h (by omega)).1, hs, d, h.2.2.1, h.2.2.2.2.1, (bn_in h (by omega)).2, p, h.2.1, h.2.2.2.1, (bn_in h (by omega)).1, fun z26 hz26 => ?_⟩
    rw [bn_sp h, bn_sd, bn_p h, if_pos rfl] at hz26
    rw [bn_sp h, bn_sd, nI_1]
    have hz26 : z26 = ovr a n x (i + 1) := hz26
    subst hz26
    have e1 : (fun j => if j = i then wh a x i / bSum n x else if j < i then qt a n x j else f j) = (fun j => if j < i + 1 then qt a n x j else f j) := by
      funext j
      by_cases z : j = i
      · rw [if_pos z, if_pos (by omega), z]; rfl
      · rw [if_neg z]
        by_cases z2 : j < i
        · rw [if_pos z2, if_pos (by omega)]
        · rw [if_neg z2, if_neg (by omega)]
    have e2 : (fun j => if j = i then wh a x i - wh a x i / bSum n x * bSum n x else if j < i then rm a n x j else g j) = (fun j => if j < i + 1 then rm a n x j else g j) := by
      funext j
      by_cases z : j = i
      · rw [if_pos z, if_pos (by omega), z]; rfl
      · rw [if_neg z]
        by_cases z2 : j < i
        · rw [if_pos z2, if_pos (by omega)]
        · rw [if_neg z2, if_neg (by omega)]
    rw [e1, e2]
    exact ih (i + 1) l (by omega) (by omega)
theorem p_share {Q : Int64 → Hp → Prop} (h : isBn S e p d) (hr : isRc S r w k a b n x) (hb : bBelow a n x = false) (hs : ¬ bSum n x = 0) (hq : Q (ovr a n x n) (bn S e p d (fun j => if j < n then qt a n x j else f j) (fun j => if j < n then rm a n x j else g j) v)) : wp_X1_share (bn S e p d f g v) e (some r) Q := by
  have hr' := hr.bn (f := f) (g := g) (v := v) h
  have hn := hr.2.2.2.2.2.2.2.2.1
  unfold wp_X1_share
  refine ⟨r, rfl, hr'.1, p_sum hr' ⟨fun _ => ⟨hr'.1, fun z7 hz7 => ?_⟩, fun z => absurd ?_ z⟩⟩
  · rw [hr'.2.2.2.2.2.1] at hz7
    have := p_share_L (f := f) (g := g) (v := v) h hr hs hq n 0 FU (by omega) (fu_pos (by omega))
    simp only [Nat.not_lt_zero, if_false] at this
    rw [hz7]
    exact this
  · rw [Int64.lt_iff_toInt_lt]
    exact bSum_pos hn hb hs
theorem p_load_L {K Q : Hp → Prop} (h : isBn S e p d) (hr : isRc S r w k a b n x) {o : Nat} (ho : o < n) (hk : K (bn S e p d (fun j => if j < o then f j + 1 else f j) g v)) :
    ∀ (m i l : Nat), i + m = o → m < l → wp_X1_loadPoints_L9 e (some r) (lN o) K Q l (bn S e p d (fun j => if j < i then f j + 1 else f j) g v) (nI i) := by
  have hn := hr.2.2.2.2.2.2.2.2.1
  intro m
  induction m with
  | zero =>
    intro i l hi hl
    obtain ⟨l, rfl⟩ : ∃ m, l = m + 1 := ⟨l - 1, by omega⟩
    obtain rfl : i = o := by omega
    rw [wp_X1_loadPoints_L9, nI_l (by omega)]
    exact ⟨fun _ => hk, fun z => absurd ((lN_le62 (by omega) (by omega)).mpr (Nat.le_refl _)) z⟩
  | succ m ih =>
    intro i l hi hl
    obtain ⟨l, rfl⟩ : ∃ m, l = m + 1 := ⟨l - 1, by omega⟩
    have hr' := hr.bn (f := (fun j => if j < i then f j + 1 else f j)) (g := g) (v := v) h
    rw [wp_X1_loadPoints_L9, nI_l (by omega), lN_le62 (by omega) (by omega)]
    refine ⟨fun z => by omega, fun _ => ⟨r, rfl, hr'.1, fun z => absurd (show nI n ≤ nI i by rw [← hr'.2.2.2.2.2.2.2.1]; exact z) (nI_ge (by omega) (by omega)), fun _ => ⟨h.1, p, h.2.1, h.2.2.2.1, (bn_in h (by omega)).1, (bn_in h (by omega)).1, ?_⟩⟩⟩
    rw [nI_clamp (by omega), bn_p h, bn_sp h, nI_1]
    have e1 : (fun j => if j = i then (if i < i then f i + 1 else f i) + 1 else if j < i then f j + 1 else f j) = (fun j => if j < i + 1 then f j + 1 else f j) := by
      funext j
      by_cases z : j = i
      · rw [if_pos z, if_neg (by omega), if_pos (by omega), z]
      · rw [if_neg z]
        by_cases z2 : j < i
        · rw [if_pos z2, if_pos (by omega)]
        · rw [if_neg z2, if_neg (by omega)]
    rw [e1]
    exact ih (i + 1) l (by omega) (by omega)
theorem p_gRest_L {Q : Int32 → Hp → Prop} (h : isBn S e p d) (hn : n ≤ 30) (hq : ∀ c, bst (fun _ => true) g n = some c → Q (nI c) (bn S e p d f g v)) :
    ∀ (m i l c : Nat), i + m = n → m < l → bst (fun _ => true) g i = some c → wp_X1_greatestRest_L4 (bn S e p d f g v) e (nI n) Q l (nI c) (nI i) := by
  intro m
  induction m with
  | zero =>
    intro i l c hi hl hc
    obtain ⟨l, rfl⟩ : ∃ m, l = m + 1 := ⟨l - 1, by omega⟩
    obtain rfl : i = n := by omega
    rw [wp_X1_greatestRest_L4]
    exact ⟨fun _ => hq c hc, fun z => absurd (nI_le (Nat.le_refl _) (by omega)) z⟩
  | succ m ih =>
    intro i l c hi hl hc
    obtain ⟨l, rfl⟩ : ∃ m, l = m + 1 := ⟨l - 1, by omega⟩
    have hci := (bst_ok hc).1
    rw [wp_X1_greatestRest_L4]
    refine ⟨fun z => absurd z (nI_ge (by omega) (by omega)), fun _ => ⟨h.1, d, h.2.2.1, h.2.2.2.2.1, (bn_in h (by omega)).2, (bn_in h (by omega)).2, fun z => ?_, fun z => ?_⟩⟩
    · rw [nI_clamp (by omega), nI_clamp (by omega), bn_d, bn_d] at z
      rw [nI_1]
      refine ih (i + 1) l c (by omega) (by omega) ?_
      rw [bst, hc]
      simp only [true_and, if_neg (j_nlt.mpr z)]
    · rw [nI_clamp (by omega), nI_clamp (by omega), bn_d, bn_d] at z
      rw [nI_1]
      refine ih (i + 1) l i (by omega) (by omega) ?_
      rw [bst, hc]
      simp only [true_and, if_pos (j_nle.mp z)]
theorem p_gRest {Q : Int32 → Hp → Prop} (h : isBn S e p d) (hn : n ≤ 30) (h0 : 0 < n) (hq : ∀ c, bst (fun _ => true) g n = some c → Q (nI c) (bn S e p d f g v)) : wp_X1_greatestRest (bn S e p d f g v) e (nI n) Q :=
  p_gRest_L h hn hq (n - 1) 1 FU 0 (by omega) (fu_pos (by omega)) rfl
end BN
