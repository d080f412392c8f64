/-! what a step leaves as it was; Amounts against a row of 60 -/
def Ot (P : Nat → Prop) (S S' : Hp) : Prop := (∀ b, hK S' b = hK S b) ∧ (∀ b, hN S' b = hN S b) ∧ hT S' = hT S ∧ ∀ b, ¬ P b → (∀ j, hI S' b j = hI S b j) ∧ (∀ j, hJ S' b j = hJ S b j) ∧ (∀ j, hR S' b j = hR S b j)
theorem Ot.refl (P : Nat → Prop) (S : Hp) : Ot P S S := ⟨fun _ => rfl, fun _ => rfl, rfl, fun _ _ => ⟨fun _ => rfl, fun _ => rfl, fun _ => rfl⟩⟩
theorem Ot.trans {P : Nat → Prop} {S S1 S2 : Hp} (h : Ot P S S1) (h2 : Ot P S1 S2) : Ot P S S2 :=
  ⟨fun b => (h2.1 b).trans (h.1 b), fun b => (h2.2.1 b).trans (h.2.1 b), h2.2.2.1.trans h.2.2.1, fun b hb => ⟨fun j => ((h2.2.2.2 b hb).1 j).trans ((h.2.2.2 b hb).1 j), fun j => ((h2.2.2.2 b hb).2.1 j).trans ((h.2.2.2 b hb).2.1 j), fun j => ((h2.2.2.2 b hb).2.2 j).trans ((h.2.2.2 b hb).2.2 j)⟩⟩
theorem Ot.mono {P P' : Nat → Prop} {S S1 : Hp} (h : Ot P S S1) (hP : ∀ b, P b → P' b) : Ot P' S S1 := ⟨h.1, h.2.1, h.2.2.1, fun b hb => h.2.2.2 b (fun z => hb (hP b z))⟩
theorem Ot.sI {P : Nat → Prop} {S S1 : Hp} (h : Ot P S S1) {a i : Nat} {v : Int32} (ha : P a) : Ot P S (sI S1 a i v) :=
  h.trans ⟨fun _ => rfl, fun _ => rfl, rfl, fun b hb => ⟨fun j => by rw [hI_sI, if_neg (fun z => hb (by rw [z.1]; exact ha))], fun j => rfl, fun j => rfl⟩⟩
theorem Ot.sJ {P : Nat → Prop} {S S1 : Hp} (h : Ot P S S1) {a i : Nat} {v : Int64} (ha : P a) : Ot P S (sJ S1 a i v) :=
  h.trans ⟨fun _ => rfl, fun _ => rfl, rfl, fun b hb => ⟨fun j => rfl, fun j => by rw [hJ_sJ, if_neg (fun z => hb (by rw [z.1]; exact ha))], fun j => rfl⟩⟩
theorem Ot.sR {P : Nat → Prop} {S S1 : Hp} (h : Ot P S S1) {a i : Nat} {v : Option Nat} (ha : P a) : Ot P S (sR S1 a i v) :=
  h.trans ⟨fun _ => rfl, fun _ => rfl, rfl, fun b hb => ⟨fun j => rfl, fun j => rfl, fun j => by rw [hR_sR, if_neg (fun z => hb (by rw [z.1]; exact ha))]⟩⟩
theorem Ot.sWI {P : Nat → Prop} {S S1 : Hp} (h : Ot P S S1) {a : Nat} {f : Nat → Int32} (ha : P a) : Ot P S (sWI S1 a f) :=
  h.trans ⟨fun _ => rfl, fun _ => rfl, rfl, fun b hb => ⟨fun j => by rw [hI_sWI, if_neg (fun z => hb (by rw [z]; exact ha))], fun j => rfl, fun j => rfl⟩⟩
theorem Ot.sWJ {P : Nat → Prop} {S S1 : Hp} (h : Ot P S S1) {a : Nat} {f : Nat → Int64} (ha : P a) : Ot P S (sWJ S1 a f) :=
  h.trans ⟨fun _ => rfl, fun _ => rfl, rfl, fun b hb => ⟨fun j => rfl, fun j => by rw [hJ_sWJ, if_neg (fun z => hb (by rw [z]; exact ha))], fun j => rfl⟩⟩
theorem Ot.sWR {P : Nat → Prop} {S S1 : Hp} (h : Ot P S S1) {a : Nat} {f : Nat → Option Nat} (ha : P a) : Ot P S (sWR S1 a f) :=
  h.trans ⟨fun _ => rfl, fun _ => rfl, rfl, fun b hb => ⟨fun j => rfl, fun j => rfl, fun j => by rw [hR_sWR, if_neg (fun z => hb (by rw [z]; exact ha))]⟩⟩
/-- as many as there are places -/
theorem pig : ∀ (m n : Nat) (f : Nat → Nat), (∀ i, i < n → f i < m) → (∀ i j, i < n → j < n → f i = f j → i = j) → n ≤ m := by
  intro m
  induction m with
  | zero =>
    intro n f h1 _
    cases n with
    | zero => exact Nat.le_refl 0
    | succ n => exact absurd (h1 0 (by omega)) (by omega)
  | succ m ih =>
    intro n f h1 h2
    by_cases hz : ∃ i, i < n ∧ f i = m
    · obtain ⟨i0, hi0, he⟩ := hz
      have := ih (n - 1) (fun i => if i = i0 then f (n - 1) else f i) (fun i hi => by
        by_cases e : i = i0
        · rw [if_pos e]
          have a1 := h1 (n - 1) (by omega)
          have a2 : f (n - 1) ≠ m := fun z => by
            have := h2 (n - 1) i0 (by omega) hi0 (z.trans he.symm)
            omega
          omega
        · rw [if_neg e]
          have a1 := h1 i (by omega)
          have a2 : f i ≠ m := fun z => e (h2 i i0 (by omega) hi0 (z.trans he.symm))
          omega) (fun i j hi hj hij => by
        by_cases e : i = i0
        · by_cases e2 : j = i0
          · rw [e, e2]
          · rw [if_pos e, if_neg e2] at hij
            have := h2 _ _ (by omega) (by omega) hij
            omega
        · by_cases e2 : j = i0
          · rw [if_neg e, if_pos e2] at hij
            have := h2 _ _ (by omega) (by omega) hij
            omega
          · rw [if_neg e, if_neg e2] at hij
            exact h2 _ _ (by omega) (by omega) hij)
      omega
    · have := ih n f (fun i hi => by
        have a1 := h1 i hi
        have a2 : f i ≠ m := fun z => hz ⟨i, hi, z⟩
        omega) h2
      omega
/-- an Amounts object: its two rows -/
def isAm (S : Hp) (a p q : Nat) : Prop := hK S a = 2 ∧ hR S a 0 = some p ∧ hR S a 1 = some q ∧ hK S p = 15 ∧ hK S q = 15 ∧ hN S p = 60 ∧ hN S q = 60 ∧ p ≠ q ∧ a ≠ p ∧ a ≠ q
/-- its n stocks st 0, st 1 .. are those with an amount in the row -/
def amR (S : Hp) (a p q : Nat) (row : Nat → Int32) (n : Nat) (st : Nat → Nat) : Prop := hI S a 2 = nI n ∧ n ≤ 60 ∧ (∀ i, i < n → st i < 60 ∧ hI S p i = nI (st i) ∧ hI S q i = row (st i) ∧ row (st i) ≠ 0) ∧ (∀ i j, i < n → j < n → st i = st j → i = j) ∧ ∀ s, s < 60 → row s ≠ 0 → ∃ i, i < n ∧ st i = s
/-- the same where cells may be made besides -/
def On (P : Nat → Prop) (S S' : Hp) : Prop := hT S' = hT S ∧ ∀ b, hK S b ≠ 0 → hK S' b = hK S b ∧ hN S' b = hN S b ∧ (¬ P b → (∀ j, hI S' b j = hI S b j) ∧ (∀ j, hJ S' b j = hJ S b j) ∧ (∀ j, hR S' b j = hR S b j))
theorem Ot.on {P : Nat → Prop} {S S' : Hp} (h : Ot P S S') : On P S S' := ⟨h.2.2.1, fun b _ => ⟨h.1 b, h.2.1 b, h.2.2.2 b⟩⟩
theorem On.refl (P : Nat → Prop) (S : Hp) : On P S S := (Ot.refl P S).on
theorem On.trans {P : Nat → Prop} {S S1 S2 : Hp} (h : On P S S1) (h2 : On P S1 S2) : On P S S2 := ⟨h2.1.trans h.1, fun b hb => by
  obtain ⟨a1, a2, a3⟩ := h.2 b hb
  obtain ⟨b1, b2, b3⟩ := h2.2 b (by rw [a1]; exact hb)
  exact ⟨b1.trans a1, b2.trans a2, fun hp => ⟨fun j => ((b3 hp).1 j).trans ((a3 hp).1 j), fun j => ((b3 hp).2.1 j).trans ((a3 hp).2.1 j), fun j => ((b3 hp).2.2 j).trans ((a3 hp).2.2 j)⟩⟩⟩
theorem On.mono {P P' : Nat → Prop} {S S1 : Hp} (h : On P S S1) (hP : ∀ b, hK S b ≠ 0 → P b → P' b) : On P' S S1 := ⟨h.1, fun b hb => ⟨(h.2 b hb).1, (h.2 b hb).2.1, fun z => (h.2 b hb).2.2 (fun w => z (hP b hb w))⟩⟩
theorem On.new {P : Nat → Prop} {S S1 : Hp} (h : On P S S1) {q k n : Nat} (hq : hK S q = 0) : On P S (sN S1 q k n) := ⟨h.1, fun b hb => by
  have hne : b ≠ q := fun z => hb (by rw [z]; exact hq)
  obtain ⟨a1, a2, a3⟩ := h.2 b hb
  rw [hK_sN, if_neg hne, hN_sN, if_neg hne]
  refine ⟨a1, a2, fun hp => ⟨fun j => ?_, fun j => ?_, fun j => ?_⟩⟩
  · rw [hI_sN, if_neg hne]; exact (a3 hp).1 j
  · rw [hJ_sN, if_neg hne]; exact (a3 hp).2.1 j
  · rw [hR_sN, if_neg hne]; exact (a3 hp).2.2 j⟩
theorem On.k {P : Nat → Prop} {S S' : Hp} (h : On P S S') {b k : Nat} (hk : hK S b = k) (h0 : k ≠ 0) : hK S' b = k := ((h.2 b (by rw [hk]; exact h0)).1).trans hk
theorem On.n {P : Nat → Prop} {S S' : Hp} (h : On P S S') {b k : Nat} (hk : hK S b = k) (h0 : k ≠ 0) : hN S' b = hN S b := (h.2 b (by rw [hk]; exact h0)).2.1
theorem On.i {P : Nat → Prop} {S S' : Hp} (h : On P S S') {b k : Nat} (hk : hK S b = k) (h0 : k ≠ 0) (hp : ¬ P b) (j : Nat) : hI S' b j = hI S b j := ((h.2 b (by rw [hk]; exact h0)).2.2 hp).1 j
theorem On.j {P : Nat → Prop} {S S' : Hp} (h : On P S S') {b k : Nat} (hk : hK S b = k) (h0 : k ≠ 0) (hp : ¬ P b) (j : Nat) : hJ S' b j = hJ S b j := ((h.2 b (by rw [hk]; exact h0)).2.2 hp).2.1 j
theorem On.r {P : Nat → Prop} {S S' : Hp} (h : On P S S') {b k : Nat} (hk : hK S b = k) (h0 : k ≠ 0) (hp : ¬ P b) (j : Nat) : hR S' b j = hR S b j := ((h.2 b (by rw [hk]; exact h0)).2.2 hp).2.2 j
theorem isAm.on {P : Nat → Prop} {S S' : Hp} {a p q : Nat} (h : isAm S a p q) (ho : On P S S') (ha : ¬ P a) : isAm S' a p q := by
  obtain ⟨h1, h2, h3, h4, h5, h6, h7, h8⟩ := h
  exact ⟨ho.k h1 (by decide), (ho.r h1 (by decide) ha 0).trans h2, (ho.r h1 (by decide) ha 1).trans h3, ho.k h4 (by decide), ho.k h5 (by decide), (ho.n h4 (by decide)).trans h6, (ho.n h5 (by decide)).trans h7, h8⟩
theorem amR.on {P : Nat → Prop} {S S' : Hp} {a p q n : Nat} {row : Nat → Int32} {st : Nat → Nat} (h : amR S a p q row n st) (hm : isAm S a p q) (ho : On P S S') (ha : ¬ P a) (hp : ¬ P p) (hq : ¬ P q) : amR S' a p q row n st := by
  obtain ⟨h1, h2, h3, h4⟩ := h
  exact ⟨(ho.i hm.1 (by decide) ha 2).trans h1, h2, fun i hi => by
    obtain ⟨g1, g2, g3, g4⟩ := h3 i hi
    exact ⟨g1, (ho.i hm.2.2.2.1 (by decide) hp i).trans g2, (ho.i hm.2.2.2.2.1 (by decide) hq i).trans g3, g4⟩, h4⟩
theorem isJS.on {P : Nat → Prop} {S S' : Hp} {a w : Nat} (h : isJS S a w) (ho : On P S S') (ha : ¬ P a) : isJS S' a w :=
  ⟨ho.k h.1 (by decide), (ho.r h.1 (by decide) ha 0).trans h.2.1, ho.k h.2.2.1 (by decide), (ho.n h.2.2.1 (by decide)).trans h.2.2.2⟩
theorem js_on {P : Nat → Prop} {S S' : Hp} {a w : Nat} (h : isJS S a w) (ho : On P S S') (hw : ¬ P w) (k : Nat) : js S' w k = js S w k := by unfold js; rw [ho.j h.2.2.1 (by decide) hw]
theorem p_placeOf_L {S : Hp} {a p q n s : Nat} {row : Nat → Int32} {st : Nat → Nat} {Q : Int32 → Hp → Prop} (h : isAm S a p q) (hr : amR S a p q row n st) (hs : s < 60) (h1 : ∀ i, i < n → st i = s → Q (nI i) S) (h2 : (∀ i, i < n → st i ≠ s) → Q (-1) S) : ∀ (r k f : Nat), k + r = n → r < f → (∀ i, i < k → st i ≠ s) → wp_X0_placeOf_L2 S a (nI s) Q f (nI k) := by
  obtain ⟨r1, r2, r3, r4, r5⟩ := hr
  intro r
  induction r with
  | zero =>
    intro k f hk hf hz
    obtain ⟨f, rfl⟩ : ∃ m, f = m + 1 := ⟨f - 1, by omega⟩
    obtain rfl : k = n := by omega
    rw [wp_X0_placeOf_L2, r1]
    exact ⟨h.1, fun _ => h2 hz, fun g => absurd (nI_le (Nat.le_refl k) (by omega)) g⟩
  | succ r ih =>
    intro k f hk hf hz
    obtain ⟨f, rfl⟩ : ∃ m, f = m + 1 := ⟨f - 1, by omega⟩
    rw [wp_X0_placeOf_L2, r1]
    obtain ⟨g1, g2, g3, g4⟩ := r3 k (by omega)
    refine ⟨h.1, fun g => absurd g (nI_ge (by omega) (by omega)), fun _ => ⟨p, h.2.1, h.2.2.2.1, ?_, ?_⟩⟩
    · rw [h.2.2.2.2.2.1]; exact nI_in (by omega) (by decide)
    · rw [nI_clamp (by omega), g2, nI_eq (by omega) (by omega)]
      refine ⟨fun e => h1 k (by omega) e, fun e => ?_⟩
      rw [nI_1]
      refine ih (k + 1) f (by omega) (by omega) (fun i hi => ?_)
      by_cases z : i = k
      · rw [z]; exact e
      · exact hz i (by omega)
theorem p_placeOf {S : Hp} {a p q n s : Nat} {row : Nat → Int32} {st : Nat → Nat} {Q : Int32 → Hp → Prop} (h : isAm S a p q) (hr : amR S a p q row n st) (hs : s < 60) (h1 : ∀ i, i < n → st i = s → Q (nI i) S) (h2 : (∀ i, i < n → st i ≠ s) → Q (-1) S) : wp_X0_placeOf S a (nI s) Q :=
  p_placeOf_L h hr hs h1 h2 n 0 FU (by omega) (fu_pos (by have := hr.2.1; omega)) (fun i hi => absurd hi (Nat.not_lt_zero i))
theorem nI_nm1 {n : Nat} (h : n < 2 ^ 31) : ¬ nI n = -1 := fun e => by
  have := congrArg Int32.toInt e
  rw [nI_toInt h] at this
  have h2 : (-1 : Int32).toInt = -1 := by decide
  omega
theorem p_amountOf {S : Hp} {a p q n s : Nat} {row : Nat → Int32} {st : Nat → Nat} {Q : Int32 → Hp → Prop} (h : isAm S a p q) (hr : amR S a p q row n st) (hs : s < 60) (hq : Q (row s) S) : wp_X0_amountOf S a (nI s) Q := by
  unfold wp_X0_amountOf
  refine ⟨h.1, p_placeOf h hr hs (fun i hi e => ?_) (fun hz => ?_)⟩
  · have hn := hr.2.1
    obtain ⟨g1, g2, g3, g4⟩ := hr.2.2.1 i hi
    refine ⟨fun z => absurd z (nI_nm1 (by omega)), fun _ => ⟨h.1, q, h.2.2.1, h.2.2.2.2.1, ?_, ?_⟩⟩
    · rw [h.2.2.2.2.2.2.1]; exact nI_in (by omega) (by decide)
    · rw [nI_clamp (by omega), g3, e]; exact hq
  · refine ⟨fun _ => ?_, fun z => absurd rfl z⟩
    by_cases z : row s = 0
    · rw [z] at hq; exact hq
    · obtain ⟨i, hi, e⟩ := hr.2.2.2.2 s hs z
      exact absurd e (hz i hi)
def amF (n : Nat) (f g : Nat → Int32) (row : Nat → Int32) (st : Nat → Nat) : Prop := n ≤ 60 ∧ (∀ i, i < n → st i < 60 ∧ f i = nI (st i) ∧ g i = row (st i) ∧ row (st i) ≠ 0) ∧ (∀ i j, i < n → j < n → st i = st j → i = j) ∧ ∀ s, s < 60 → row s ≠ 0 → ∃ i, i < n ∧ st i = s
theorem sI_two (S : Hp) {p q i : Nat} {v w : Int32} (h : p ≠ q) : sI (sI S p i v) q i w = sWI (sWI S p (fun j => if j = i then v else hI S p j)) q (fun j => if j = i then w else hI S q j) := by
  rw [sI_row, sI_row]
  congr 1
  funext j
  rw [hI_sWI, if_neg h.symm]
theorem sI_self (S : Hp) {a i : Nat} {v : Int32} (h : hI S a i = v) : sI S a i v = S := by
  rw [sI_row]
  exact sWI_self S a _ (fun j => by
    by_cases e : j = i
    · rw [if_pos e, e]; exact h.symm
    · rw [if_neg e])
theorem p_put {S : Hp} {a p q n s : Nat} {row : Nat → Int32} {st : Nat → Nat} {v : Int32} {Q : Hp → Prop} (h : isAm S a p q) (hr : amR S a p q row n st) (hs : s < 60) (hv : v ≠ 0)
    (hq : ∀ n' f g st', amF n' f g (fun t => if t = s then v else row t) st' → Q (sWI (sWI (sI S a 2 (nI n')) p f) q g)) : wp_X0_put S a (nI s) v Q := by
  have hn := hr.2.1
  obtain ⟨k1, k2, k3, k4, k5, k6, k7, k8, k9, k10⟩ := h
  unfold wp_X0_put
  refine ⟨k1, p_placeOf ⟨k1, k2, k3, k4, k5, k6, k7, k8, k9, k10⟩ hr hs (fun i hi e => ?_) (fun hz => ?_)⟩
  · refine ⟨_, rfl, fun z => absurd z (nI_nm1 (by omega)), fun _ => ⟨fun z => absurd z (nI_nm1 (by omega)), fun _ => ⟨k1, p, k2, k4, ?_, q, k3, k5, ?_, ?_⟩⟩⟩
    · rw [k6]; exact nI_in (by omega) (by decide)
    · rw [hN_sI, k7]; exact nI_in (by omega) (by decide)
    · obtain ⟨r1, r2, r3, r4, r5⟩ := hr
      rw [nI_clamp (by omega), sI_two S k8]
      have := hq n (fun j => if j = i then nI s else hI S p j) (fun j => if j = i then v else hI S q j) st ⟨r2, fun j hj => ?_, r4, fun t ht h0 => ?_⟩
      · rw [sI_self S r1] at this; exact this
      · obtain ⟨g1, g2, g3, g4⟩ := r3 j hj
        dsimp only
        by_cases z : j = i
        · subst z
          simp only [if_true, e]
          exact ⟨hs, trivial, trivial, hv⟩
        · have z2 : st j ≠ s := fun w => z (r4 j i hj hi (w.trans e.symm))
          simp only [z, z2, if_false]
          exact ⟨g1, g2, g3, g4⟩
      · dsimp only at h0
        by_cases z : t = s
        · exact ⟨i, hi, e.trans z.symm⟩
        · rw [if_neg z] at h0; exact r5 t ht h0
  · have hlt : n < 60 := by
      have := pig 60 (n + 1) (fun i => if i < n then st i else s) (fun i hi => by
        by_cases z : i < n
        · rw [if_pos z]; exact (hr.2.2.1 i z).1
        · rw [if_neg z]; exact hs) (fun i j hi hj e => by
        by_cases z : i < n
        · by_cases z2 : j < n
          · rw [if_pos z, if_pos z2] at e; exact hr.2.2.2.1 i j z z2 e
          · rw [if_pos z, if_neg z2] at e; exact absurd e (hz i z)
        · by_cases z2 : j < n
          · rw [if_neg z, if_pos z2] at e; exact absurd e.symm (hz j z2)
          · omega)
      omega
    obtain ⟨r1, r2, r3, r4, r5⟩ := hr
    refine ⟨_, rfl, fun _ => ⟨k1, fun z => ?_, fun _ x hx => ?_⟩, fun z => absurd rfl z⟩
    · rw [r1] at z; exact absurd z (nI_ge (b := 60) hlt (by decide))
    · rw [hx, r1]
      refine ⟨fun z => absurd z (nI_nm1 (by omega)), fun _ => ⟨k1, p, k2, k4, ?_, q, k3, k5, ?_, ?_⟩⟩
      · rw [hN_sI, k6]; exact nI_in hlt (by decide)
      · rw [hN_sI, hN_sI, k7]; exact nI_in hlt (by decide)
      · rw [nI_clamp (by omega), nI_1, sI_two _ k8]
        refine hq (n + 1) _ _ (fun i => if i = n then s else st i) ⟨hlt, fun j hj => ?_, fun i j hi hj e => ?_, fun t ht h0 => ?_⟩
        · by_cases z : j = n
          · subst z
            simp only [if_true]
            exact ⟨hs, trivial, trivial, hv⟩
          · have hj2 : j < n := by omega
            obtain ⟨g1, g2, g3, g4⟩ := r3 j hj2
            simp only [hI_sI, z, Ne.symm k9, Ne.symm k10, hz j hj2, false_and, if_false]
            exact ⟨g1, g2, g3, g4⟩
        · dsimp only at e
          by_cases z : i = n
          · by_cases z2 : j = n
            · rw [z, z2]
            · rw [if_pos z, if_neg z2] at e; exact absurd e.symm (hz j (by omega))
          · by_cases z2 : j = n
            · rw [if_neg z, if_pos z2] at e; exact absurd e (hz i (by omega))
            · rw [if_neg z, if_neg z2] at e; exact r4 i j (by omega) (by omega) e
        · dsimp only at h0 ⊢
          by_cases z : t = s
          · exact ⟨n, by omega, by rw [if_pos rfl]; exact z.symm⟩
          · rw [if_neg z] at h0
            obtain ⟨i, hi, e⟩ := r5 t ht h0
            exact ⟨i, by omega, by rw [if_neg (by omega)]; exact e⟩
