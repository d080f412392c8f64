/-! what stands between class and reference: the cells that no run changes -/
abbrev FI := Nat → Nat → Nat → Int32
abbrev FJ := Nat → Nat → Nat → Int64
abbrev FR := Nat → Nat → Nat → Option Nat
def Ag {α : Type} (g : Nat → Nat → Nat → Bool) (I I' : Nat → Nat → Nat → α) : Prop := ∀ c i p, g c i p = true → I' c i p = I c i p
theorem Ag.rf {α : Type} {g : Nat → Nat → Nat → Bool} {I : Nat → Nat → Nat → α} : Ag g I I := fun _ _ _ _ => rfl
theorem Ag.tr {α : Type} {g : Nat → Nat → Nat → Bool} {I I' I2 : Nat → Nat → Nat → α} (h : Ag g I I') (h2 : Ag g I' I2) : Ag g I I2 := fun c i p e => (h2 c i p e).trans (h c i p e)
theorem Ag.up {α : Type} {g : Nat → Nat → Nat → Bool} {I I' : Nat → Nat → Nat → α} (h : Ag g I I') {c0 i0 p0 : Nat} {v : α} (hg : g c0 i0 p0 = false) : Ag g I (up3 I' c0 i0 p0 v) := fun c i p e => by
  unfold up3
  by_cases z : c = c0 ∧ i = i0 ∧ p = p0
  · obtain ⟨rfl, rfl, rfl⟩ := z; rw [hg] at e; cases e
  · rw [if_neg z]; exact h c i p e
theorem Ag.ur {α : Type} {g : Nat → Nat → Nat → Bool} {I I' : Nat → Nat → Nat → α} (h : Ag g I I') {c0 i0 : Nat} {f : Nat → α} (hg : ∀ p, g c0 i0 p = false) : Ag g I (upR I' c0 i0 f) := fun c i p e => by
  unfold upR
  by_cases z : c = c0 ∧ i = i0
  · obtain ⟨rfl, rfl⟩ := z; rw [hg p] at e; cases e
  · rw [if_neg z]; exact h c i p e
theorem Ag.mo {α : Type} {g g' : Nat → Nat → Nat → Bool} {I I' : Nat → Nat → Nat → α} (h : Ag g I I') (hg : ∀ c i p, g' c i p = true → g c i p = true) : Ag g' I I' := fun c i p e => h c i p (hg c i p e)
theorem up3_same {α : Type} (f : Nat → Nat → Nat → α) (c i p : Nat) (v : α) : up3 f c i p v c i p = v := by unfold up3; simp
theorem up3_off {α : Type} {f : Nat → Nat → Nat → α} {c i p d j q : Nat} {v : α} (h : ¬ (d = c ∧ j = i ∧ q = p)) : up3 f c i p v d j q = f d j q := if_neg h
def fwk (cw : Nat → Nat) : Nat → Nat
  | 0 => 0
  | n + 1 => fwk cw n + cw n
theorem fwk_mono (cw : Nat → Nat) : ∀ {a b : Nat}, a ≤ b → fwk cw a ≤ fwk cw b := by
  intro a b h
  induction b with
  | zero => rw [Nat.le_zero.mp h]; exact Nat.le_refl _
  | succ b ih =>
    by_cases e : a = b + 1
    · rw [e]; exact Nat.le_refl _
    · exact Nat.le_trans (ih (by omega)) (by rw [fwk]; omega)
theorem fwk_congr {cw cw' : Nat → Nat} : ∀ {n : Nat}, (∀ i, i < n → cw i = cw' i) → fwk cw n = fwk cw' n := by
  intro n
  induction n with
  | zero => intro _; rfl
  | succ n ih => intro h; rw [fwk, fwk, ih (fun i hi => h i (by omega)), h n (by omega)]
def vN (nc nw nm nj : Nat) (cw jc : Nat → Nat) : Prop := nc ≤ 8 ∧ nw ≤ 32 ∧ nm ≤ 40 ∧ nj ≤ 200 ∧ fwk cw nc = nw ∧ ∀ j, j < nj → jc j < nc
def gCnt (c i p : Nat) : Bool := c == 0 && (i == 1 || (i == 23 && (p == 1 || p == 2 || p == 3 || p == 4)))
def vCnt (nc nw nm nj : Nat) (I : FI) : Prop := I 0 1 1 = nI nc ∧ I 0 1 2 = nI nw ∧ I 0 1 3 = nI nm ∧ I 0 1 7 = nI nj ∧ I 0 23 1 = nI nc ∧ I 0 23 2 = nI nw ∧ I 0 23 3 = nI nm ∧ I 0 23 4 = nI nj
theorem vCnt_c {nc nw nm nj : Nat} {I I' : FI} (e : Ag gCnt I I') (h : vCnt nc nw nm nj I) : vCnt nc nw nm nj I' := by
  unfold vCnt at *
  rw [e 0 1 1 rfl, e 0 1 2 rfl, e 0 1 3 rfl, e 0 1 7 rfl, e 0 23 1 rfl, e 0 23 2 rfl, e 0 23 3 rfl, e 0 23 4 rfl]
  exact h
def gCr (c i p : Nat) : Bool := (c == 2 && (p == 0 || p == 1 || p == 2)) || (c == 1 && i == 5)
def kCr (c i _p : Nat) : Bool := c == 0 && i == 5
def vCr (nc : Nat) (cw : Nat → Nat) (A : Nat → Nat → Nat) (I : FI) (R : FR) : Prop := ∀ c, c < nc → R 0 5 c = some (A 2 c) ∧ I 2 c 0 = nI c ∧ I 2 c 1 = nI (fwk cw c) ∧ I 2 c 2 = nI (cw c) ∧ I 1 5 c = nI (cw c)
theorem vCr_c {nc : Nat} {cw : Nat → Nat} {A : Nat → Nat → Nat} {I I' : FI} {R R' : FR} (e : Ag gCr I I') (k : Ag kCr R R') (h : vCr nc cw A I R) : vCr nc cw A I' R' := fun c hc => by
  rw [e 2 c 0 rfl, e 2 c 1 rfl, e 2 c 2 rfl, e 1 5 c rfl, k 0 5 c rfl]
  exact h c hc
def gJo (c i p : Nat) : Bool := (c == 3 && (p == 0 || p == 2 || p == 3)) || (c == 1 && (i == 7 || i == 8 || i == 9))
def kJo (c i p : Nat) : Bool := (c == 0 && i == 7) || (c == 3 && p == 1)
def vJo (nj : Nat) (jc : Nat → Nat) (A : Nat → Nat → Nat) (I : FI) (R : FR) : Prop := ∀ j, j < nj → R 0 7 j = some (A 3 j) ∧ I 3 j 0 = nI j ∧ R 3 j 1 = some (A 2 (jc j)) ∧ I 1 7 j = nI (jc j) ∧ I 3 j 2 = I 1 8 j ∧ 1 ≤ (I 1 8 j).toInt ∧ (I 1 8 j).toInt ≤ 10000 ∧ I 3 j 3 = I 1 9 j
theorem vJo_c {nj : Nat} {jc : Nat → Nat} {A : Nat → Nat → Nat} {I I' : FI} {R R' : FR} (e : Ag gJo I I') (k : Ag kJo R R') (h : vJo nj jc A I R) : vJo nj jc A I' R' := fun j hj => by
  rw [e 3 j 0 rfl, e 3 j 2 rfl, e 3 j 3 rfl, e 1 7 j rfl, e 1 8 j rfl, e 1 9 j rfl, k 0 7 j rfl, k 3 j 1 rfl]
  exact h j hj
/-- a is asked ahead of b -/
def ahd (jc : Nat → Nat) (pr : Nat → Int32) (a b : Nat) : Prop := jc a < jc b ∨ jc a = jc b ∧ (pr a < pr b ∨ pr a = pr b ∧ a < b)
def gOd (c i _p : Nat) : Bool := c == 1 && i == 9
def kOd (c i _p : Nat) : Bool := c == 0 && i == 8
def vOd (nj : Nat) (jc : Nat → Nat) (A : Nat → Nat → Nat) (I : FI) (R : FR) : Prop := ∃ od : Nat → Nat, (∀ t, t < nj → od t < nj ∧ R 0 8 t = some (A 3 (od t))) ∧ (∀ s t, s < t → t < nj → ahd jc (I 1 9) (od s) (od t)) ∧ ∀ j, j < nj → ∃ t, t < nj ∧ od t = j
theorem vOd_c {nj : Nat} {jc : Nat → Nat} {A : Nat → Nat → Nat} {I I' : FI} {R R' : FR} (e : Ag gOd I I') (k : Ag kOd R R') (h : vOd nj jc A I R) : vOd nj jc A I' R' := by
  obtain ⟨od, h1, h2, h3⟩ := h
  have e2 : I' 1 9 = I 1 9 := funext fun p => e 1 9 p rfl
  exact ⟨od, fun t ht => by rw [k 0 8 t rfl]; exact h1 t ht, fun s t a b => by rw [e2]; exact h2 s t a b, h3⟩
/-- the lists of the jobs before (cells 4, 17) and after (cells 5, 18) each job -/
def lsA (A : Nat → Nat → Nat) (S : Hp) (I : FI) (R : FR) (c d nj : Nat) (bn : Nat → Nat) (bl : Nat → Nat → Nat) : Prop := ∀ j, j < nj → I c j 2 = nI (bn j) ∧ bn j ≤ 200 ∧ (R c j 1 = some (A d j) ∧ hK S (A d j) = 20 ∧ bn j ≤ hN S (A d j) ∧ 1 ≤ hN S (A d j) ∧ hN S (A d j) ≤ 300 ∨ bn j = 0 ∧ R c j 1 = some (hT S) ∧ hK S (hT S) = 21 ∧ hN S (hT S) = 0) ∧ ∀ i, i < bn j → bl j i < nj ∧ R d j i = some (A 3 (bl j i))
def gLs (c i p : Nat) : Bool := ((c == 4 || c == 5) && p == 2) || (c == 1 && i == 10)
def kLs (c _i p : Nat) : Bool := ((c == 4 || c == 5) && p == 1) || c == 17 || c == 18
def vLs (A : Nat → Nat → Nat) (S : Hp) (nj : Nat) (I : FI) (R : FR) : Prop := (hK S (hT S) = 21 ∧ hN S (hT S) = 0) ∧ ∃ (bn : Nat → Nat) (bl : Nat → Nat → Nat) (an : Nat → Nat) (al : Nat → Nat → Nat), lsA A S I R 4 17 nj bn bl ∧ lsA A S I R 5 18 nj an al ∧
  (∀ j b, j < nj → b < nj → (I 1 10 (200 * j + b) = 0 ∨ I 1 10 (200 * j + b) = 1) ∧ (I 1 10 (200 * j + b) = 1 ↔ ∃ i, i < bn j ∧ bl j i = b) ∧ (I 1 10 (200 * j + b) = 1 ↔ ∃ i, i < an b ∧ al b i = j)) ∧
  (∀ j i i', j < nj → i < bn j → i' < bn j → bl j i = bl j i' → i = i') ∧ ∀ j i i', j < nj → i < an j → i' < an j → al j i = al j i' → i = i'
theorem lsA_c {A : Nat → Nat → Nat} {S S' : Hp} {I I' : FI} {R R' : FR} {c d nj : Nat} {bn : Nat → Nat} {bl : Nat → Nat → Nat} (hcd : c = 4 ∧ d = 17 ∨ c = 5 ∧ d = 18) (e : Ag gLs I I') (k : Ag kLs R R') (hK1 : ∀ b, hK S' b = hK S b) (hN1 : ∀ b, hN S' b = hN S b) (hT1 : hT S' = hT S) (h : lsA A S I R c d nj bn bl) : lsA A S' I' R' c d nj bn bl := fun j hj => by
  rw [hT1, hK1, hK1, hN1, hN1]
  rcases hcd with ⟨rfl, rfl⟩ | ⟨rfl, rfl⟩
  · rw [e 4 j 2 rfl, k 4 j 1 rfl]
    obtain ⟨a, b, c, d⟩ := h j hj
    exact ⟨a, b, c, fun i hi => by rw [k 17 j i rfl]; exact d i hi⟩
  · rw [e 5 j 2 rfl, k 5 j 1 rfl]
    obtain ⟨a, b, c, d⟩ := h j hj
    exact ⟨a, b, c, fun i hi => by rw [k 18 j i rfl]; exact d i hi⟩
theorem vLs_c {A : Nat → Nat → Nat} {S S' : Hp} {nj : Nat} {I I' : FI} {R R' : FR} (e : Ag gLs I I') (k : Ag kLs R R') (hK1 : ∀ b, hK S' b = hK S b) (hN1 : ∀ b, hN S' b = hN S b) (hT1 : hT S' = hT S) (h : vLs A S nj I R) : vLs A S' nj I' R' := by
  obtain ⟨hE, bn, bl, an, al, h1, h2, h3, h4, h5⟩ := h
  refine ⟨by rw [hT1, hK1, hN1]; exact hE, bn, bl, an, al, lsA_c (Or.inl ⟨rfl, rfl⟩) e k hK1 hN1 hT1 h1, lsA_c (Or.inr ⟨rfl, rfl⟩) e k hK1 hN1 hT1 h2, fun j b hj hb => ?_, h4, h5⟩
  rw [e 1 10 _ rfl]
  exact h3 j b hj hb
def gLn (c i _p : Nat) : Bool := c == 1 && (i == 10 || i == 11)
def kLn (c _i _p : Nat) : Bool := c == 7
def vLn (nj : Nat) (I : FI) (J : FJ) : Prop := (∀ j k, j < nj → k < 256 → jb (J 7 j (k / 64)) (k % 64) = (decide (k < nj) && decide (I 1 11 (200 * j + k) = 1))) ∧ (∀ j k, j < nj → k < nj → I 1 11 (200 * j + k) = 0 ∨ I 1 11 (200 * j + k) = 1) ∧ (∀ j, j < nj → I 1 11 (200 * j + j) = 0) ∧ (∀ j k m, j < nj → k < nj → m < nj → I 1 11 (200 * j + k) = 1 → I 1 11 (200 * k + m) = 1 → I 1 11 (200 * j + m) = 1) ∧ ∀ j k, j < nj → k < nj → I 1 10 (200 * j + k) = 1 → I 1 11 (200 * j + k) = 1
theorem vLn_c {nj : Nat} {I I' : FI} {J J' : FJ} (e : Ag gLn I I') (k : Ag kLn J J') (h : vLn nj I J) : vLn nj I' J' := by
  obtain ⟨h1, h2, h3, h4, h5⟩ := h
  refine ⟨fun j q hj hq => ?_, fun j q hj hq => ?_, fun j hj => ?_, fun j q m hj hq hm => ?_, fun j q hj hq => ?_⟩
  · rw [e 1 11 _ rfl, k 7 j _ rfl]; exact h1 j q hj hq
  · rw [e 1 11 _ rfl]; exact h2 j q hj hq
  · rw [e 1 11 _ rfl]; exact h3 j hj
  · rw [e 1 11 _ rfl, e 1 11 _ rfl, e 1 11 _ rfl]; exact h4 j q m hj hq hm
  · rw [e 1 11 _ rfl, e 1 10 _ rfl]; exact h5 j q hj hq
def gNd (c i _p : Nat) : Bool := c == 1 && i == 12
def kNd (c _i p : Nat) : Bool := c == 3 && p == 7
def vNd (nj : Nat) (I : FI) (J : FJ) : Prop := ∀ j m, j < nj → m < 64 → (m < 40 → I 1 12 (40 * j + m) = 0 ∨ I 1 12 (40 * j + m) = 1) ∧ jb (J 3 j 7) m = (decide (m < 40) && decide (I 1 12 (40 * j + m) = 1))
theorem vNd_c {nj : Nat} {I I' : FI} {J J' : FJ} (e : Ag gNd I I') (k : Ag kNd J J') (h : vNd nj I J) : vNd nj I' J' := fun j m hj hm => by
  rw [e 1 12 _ rfl, k 3 j 7 rfl]; exact h j m hj hm
def gAm (a m : Nat) (c i p : Nat) : Bool := (c == a && p == 2) || c == a + 1 || c == a + 2 || (c == 1 && i == m)
/-- the amounts at the cells a, a + 1, a + 2 are the reference's row m -/
def vAm (a m nj : Nat) (I : FI) : Prop := ∀ j, j < nj → (∃ n st, I a j 2 = nI n ∧ amF n (I (a + 1) j) (I (a + 2) j) (fun s => I 1 m (60 * j + s)) st) ∧ ∀ s, s < 60 → 0 ≤ (I 1 m (60 * j + s)).toInt ∧ (I 1 m (60 * j + s)).toInt ≤ 1000000
theorem vAm_c {a m nj : Nat} {I I' : FI} (e : Ag (gAm a m) I I') (h : vAm a m nj I) : vAm a m nj I' := fun j hj => by
  have e1 : I' (a + 1) j = I (a + 1) j := funext fun p => e (a + 1) j p (by simp [gAm])
  have e2 : I' (a + 2) j = I (a + 2) j := funext fun p => e (a + 2) j p (by simp [gAm])
  have e3 : I' 1 m = I 1 m := funext fun p => e 1 m p (by simp [gAm])
  rw [e1, e2, e3, e a j 2 (by simp [gAm])]
  exact h j hj
def gRc (c i _p : Nat) : Bool := c == 14 || c == 15 || (c == 1 && (i == 15 || i == 16 || i == 17 || i == 18 || i == 19))
def vRc (nj : Nat) (I : FI) : Prop := ∀ j, j < nj → (∃ n, n ≤ 30 ∧ I 14 j 4 = nI n ∧ I 1 19 j = (if n = 0 then -1 else nI n) ∧ ∀ i, i < n → I 15 j i = I 1 18 (30 * j + i)) ∧ I 14 j 0 = I 1 15 j ∧ I 14 j 1 = I 1 16 j ∧ I 14 j 2 = I 1 17 j ∧ (I 1 15 j = 0 ∨ I 1 15 j = 1 ∨ I 1 15 j = 2 ∨ I 1 15 j = 3 ∨ I 1 15 j = 4 ∨ I 1 15 j = 5)
theorem vRc_c {nj : Nat} {I I' : FI} (e : Ag gRc I I') (h : vRc nj I) : vRc nj I' := fun j hj => by
  have e1 : I' 15 j = I 15 j := funext fun p => e 15 j p rfl
  have e3 : I' 1 18 = I 1 18 := funext fun p => e 1 18 p rfl
  rw [e1, e3, e 14 j 0 rfl, e 14 j 1 rfl, e 14 j 2 rfl, e 14 j 4 rfl, e 1 15 j rfl, e 1 16 j rfl, e 1 17 j rfl, e 1 19 j rfl]
  exact h j hj
def gPl (c i p : Nat) : Bool := (c == 3 && (p == 11 || p == 12)) || (c == 1 && (i == 8 || i == 20 || i == 21))
def vPl (nj : Nat) (I : FI) : Prop := ∀ j, j < nj → I 3 j 11 = I 1 20 j ∧ 0 ≤ (I 1 20 j).toInt ∧ (I 1 20 j).toInt ≤ (I 1 8 j).toInt ∧ (0 < I 1 20 j → I 3 j 12 = I 1 21 j ∧ 1 ≤ (I 1 21 j).toInt ∧ (I 1 21 j).toInt ≤ 9)
theorem vPl_c {nj : Nat} {I I' : FI} (e : Ag gPl I I') (h : vPl nj I) : vPl nj I' := fun j hj => by
  rw [e 3 j 11 rfl, e 3 j 12 rfl, e 1 8 j rfl, e 1 20 j rfl, e 1 21 j rfl]
  exact h j hj
def gFs (c i _p : Nat) : Bool := c == 1 && i == 6
def kFs (c i _p : Nat) : Bool := c == 0 && i == 6
def vFs (I : FI) (J : FJ) : Prop := ∀ s, s < 60 → J 0 6 s = (I 1 6 s).toInt64 ∧ 0 ≤ (I 1 6 s).toInt ∧ (I 1 6 s).toInt ≤ 1000000000
theorem vFs_c {I I' : FI} {J J' : FJ} (e : Ag gFs I I') (k : Ag kFs J J') (h : vFs I J) : vFs I' J' := fun s hs => by
  rw [e 1 6 s rfl, k 0 6 s rfl]
  exact h s hs
def gZr (c i _p : Nat) : Bool := c == 1 && (i == 10 || i == 11 || i == 12 || i == 13 || i == 14 || i == 16 || i == 17)
def vZr (nj nm : Nat) (I : FI) : Prop := (∀ j b, j < 200 → b < 200 → (nj ≤ j ∨ nj ≤ b) → I 1 10 (200 * j + b) = 0 ∧ I 1 11 (200 * j + b) = 0) ∧ (∀ j m, j < 200 → m < 40 → (nj ≤ j ∨ nm ≤ m) → I 1 12 (40 * j + m) = 0) ∧ (∀ j s, j < 200 → s < 60 → nj ≤ j → I 1 13 (60 * j + s) = 0 ∧ I 1 14 (60 * j + s) = 0) ∧ ∀ j, j < 200 → nj ≤ j → I 1 16 j = 0 ∧ I 1 17 j = 0
theorem vZr_c {nj nm : Nat} {I I' : FI} (e : Ag gZr I I') (h : vZr nj nm I) : vZr nj nm I' := by
  have q10 : I' 1 10 = I 1 10 := funext fun p => e 1 10 p rfl
  have q11 : I' 1 11 = I 1 11 := funext fun p => e 1 11 p rfl
  have q12 : I' 1 12 = I 1 12 := funext fun p => e 1 12 p rfl
  have q13 : I' 1 13 = I 1 13 := funext fun p => e 1 13 p rfl
  have q14 : I' 1 14 = I 1 14 := funext fun p => e 1 14 p rfl
  have q16 : I' 1 16 = I 1 16 := funext fun p => e 1 16 p rfl
  have q17 : I' 1 17 = I 1 17 := funext fun p => e 1 17 p rfl
  unfold vZr
  rw [q10, q11, q12, q13, q14, q16, q17]
  exact h
/-- all that no run changes -/
def vSt (A : Nat → Nat → Nat) (S : Hp) (nc nw nm nj : Nat) (cw jc : Nat → Nat) (I : FI) (J : FJ) (R : FR) : Prop := vN nc nw nm nj cw jc ∧ vCnt nc nw nm nj I ∧ vCr nc cw A I R ∧ vJo nj jc A I R ∧ vOd nj jc A I R ∧ vLs A S nj I R ∧ vLn nj I J ∧ vNd nj I J ∧ vAm 8 13 nj I ∧ vAm 11 14 nj I ∧ vRc nj I ∧ vPl nj I ∧ vFs I J ∧ vZr nj nm I
/-- the cells that a run, the paths, the bench and the answers change -/
def dyI (c i p : Nat) : Bool := c == 16 || (c == 0 && (i == 16 || i == 21 || i == 4 || i == 2 || i == 10 || i == 3)) || (c == 2 && p == 3) || (c == 3 && (p == 13 || p == 14)) || (c == 0 && i == 23 && (p == 0 || decide (22 ≤ p))) || (c == 1 && decide (26 ≤ i))
def dyJ (c i _p : Nat) : Bool := (c == 0 && (i == 4 || i == 20 || i == 14 || i == 15 || i == 22 || i == 12 || i == 13 || i == 24)) || c == 1
def dyR (c i _p : Nat) : Bool := c == 0 && (i == 9 || i == 11 || i == 17 || i == 18)
def Fy (I : FI) (J : FJ) (R : FR) (I' : FI) (J' : FJ) (R' : FR) : Prop := Ag (fun c i p => !dyI c i p) I I' ∧ Ag (fun c i p => !dyJ c i p) J J' ∧ Ag (fun c i p => !dyR c i p) R R'
theorem Fy.rf {I : FI} {J : FJ} {R : FR} : Fy I J R I J R := ⟨Ag.rf, Ag.rf, Ag.rf⟩
theorem Fy.tr {I I' I2 : FI} {J J' J2 : FJ} {R R' R2 : FR} (h : Fy I J R I' J' R') (h2 : Fy I' J' R' I2 J2 R2) : Fy I J R I2 J2 R2 := ⟨h.1.tr h2.1, h.2.1.tr h2.2.1, h.2.2.tr h2.2.2⟩
theorem Fy.I {I I' : FI} {J J' : FJ} {R R' : FR} (h : Fy I J R I' J' R') {c i p : Nat} {v : Int32} (hd : dyI c i p = true) : Fy I J R (up3 I' c i p v) J' R' := ⟨h.1.up (by rw [hd]; rfl), h.2.1, h.2.2⟩
theorem Fy.J {I I' : FI} {J J' : FJ} {R R' : FR} (h : Fy I J R I' J' R') {c i p : Nat} {v : Int64} (hd : dyJ c i p = true) : Fy I J R I' (up3 J' c i p v) R' := ⟨h.1, h.2.1.up (by rw [hd]; rfl), h.2.2⟩
theorem Fy.R {I I' : FI} {J J' : FJ} {R R' : FR} (h : Fy I J R I' J' R') {c i p : Nat} {v : Option Nat} (hd : dyR c i p = true) : Fy I J R I' J' (up3 R' c i p v) := ⟨h.1, h.2.1, h.2.2.up (by rw [hd]; rfl)⟩
theorem Fy.Jw {I I' : FI} {J J' : FJ} {R R' : FR} (h : Fy I J R I' J' R') {c i : Nat} {f : Nat → Int64} (hd : ∀ p, dyJ c i p = true) : Fy I J R I' (upR J' c i f) R' := ⟨h.1, h.2.1.ur (fun p => by rw [hd p]; rfl), h.2.2⟩
theorem vSt_c {A : Nat → Nat → Nat} {S : Hp} {nc nw nm nj : Nat} {cw jc : Nat → Nat} {I I' : FI} {J J' : FJ} {R R' : FR} (f : Fy I J R I' J' R') (h : vSt A S nc nw nm nj cw jc I J R) : vSt A S nc nw nm nj cw jc I' J' R' := by
  obtain ⟨f1, f2, f3⟩ := f
  obtain ⟨h0, h1, h2, h3, h4, h5, h6, h7, h8, h9, h10, h11, h12, h13⟩ := h
  refine ⟨h0, vCnt_c (f1.mo ?_) h1, vCr_c (f1.mo ?_) (f3.mo ?_) h2, vJo_c (f1.mo ?_) (f3.mo ?_) h3, vOd_c (f1.mo ?_) (f3.mo ?_) h4, vLs_c (f1.mo ?_) (f3.mo ?_) (fun _ => rfl) (fun _ => rfl) rfl h5, vLn_c (f1.mo ?_) (f2.mo ?_) h6, vNd_c (f1.mo ?_) (f2.mo ?_) h7, vAm_c (f1.mo ?_) h8, vAm_c (f1.mo ?_) h9, vRc_c (f1.mo ?_) h10, vPl_c (f1.mo ?_) h11, vFs_c (f1.mo ?_) (f2.mo ?_) h12, vZr_c (f1.mo ?_) h13⟩
  all_goals
    intro c i p
    simp only [gCnt, gCr, kCr, gJo, kJo, gOd, kOd, gLs, kLs, gLn, kLn, gNd, kNd, gAm, gRc, gPl, gFs, kFs, gZr, dyI, dyJ, dyR, Bool.and_eq_true, Bool.or_eq_true, beq_iff_eq, Bool.not_eq_true', Bool.or_eq_false_iff, Bool.and_eq_false_iff, beq_eq_false_iff_ne, decide_eq_true_eq, decide_eq_false_iff_not, ne_eq]
    omega
