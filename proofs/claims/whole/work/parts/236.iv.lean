/-! the invariant of the law's loop -/
def mxI : Nat → (Nat → Int32) → Int32
  | 0, _ => 0
  | n + 1, f => if mxI n f < f n then f n else mxI n f
/-- there was a run: class and reference tell the same of it -/
def yR (nj : Nat) (I : FI) (J : FJ) : Prop := I 0 4 8 = 1 ∧ I 0 23 22 = 1 ∧
  (∀ j, j < nj → I 16 j 0 = I 1 26 j ∧ I 16 j 1 = I 1 27 j ∧ I 16 j 2 = I 1 28 j ∧ I 16 j 3 = I 1 29 j ∧ I 16 j 4 = (if I 1 27 j = -1 then 0 else if I 1 28 j = -1 then 0 else I 1 28 j - I 1 27 j) ∧ I 16 j 5 = I 1 30 j ∧ I 16 j 6 = (if I 1 26 j = 2 then I 1 31 j else 0)) ∧
  (∀ m, m < 40 → I 0 16 m = I 1 34 m) ∧ (∀ s, s < 60 → J 0 14 s = J 1 35 s) ∧ I 0 4 9 = I 0 23 23 ∧
  (∃ ne, ne ≤ 400 ∧ I 0 21 1 = nI ne ∧ I 0 23 25 = nI ne ∧ (∀ i, i < ne → ∃ m k j, m < 2 ^ 30 ∧ k < 8 ∧ j < 256 ∧ J 0 22 i = lN (ekey m k j) ∧ I 1 36 i = nI m ∧ I 1 37 i = nI j ∧ I 1 38 i = nI k) ∧ I 0 4 10 = (if ne = 0 then 0 else I 1 36 (ne - 1))) ∧
  I 0 4 11 = cntI nj (fun j => decide (I 1 26 j = 2)) ∧ I 0 4 13 = mxI nj (fun j => I 1 28 j) ∧ I 0 23 39 = 0
def vRn (nj : Nat) (I : FI) (J : FJ) : Prop := nRc nj I ∧ I 0 23 22 = 0 ∨ yR nj I J
def pSol (nj : Nat) (mn : Nat → Int) (e : Nat → Nat → Prop) (T : Nat → Int) : Prop := ∀ j, j < nj → mn j ≤ T j ∧ (∀ k, k < nj → e j k → mn j + T k ≤ T j) ∧ (T j = mn j ∨ ∃ k, k < nj ∧ e j k ∧ T j = mn j + T k)
def pBst (nj : Nat) (ok : Nat → Prop) (T : Nat → Int) (b : Option Nat) : Prop := match b with
  | none => ∀ k, k < nj → ¬ ok k
  | some b => b < nj ∧ ok b ∧ ∀ k, k < nj → ok k → T k < T b ∨ T k = T b ∧ b ≤ k
def gPa (c i p : Nat) : Bool := (c == 0 && i == 2) || (c == 3 && (p == 13 || p == 14)) || (c == 1 && (i == 8 || i == 10))
def kPa (c i _p : Nat) : Bool := c == 0 && i == 11
/-- the paths, when they are fresh -/
def vPa (A : Nat → Nat → Nat) (nj : Nat) (I : FI) (R : FR) : Prop := I 0 2 7 = 0 ∨ I 0 2 7 = 1 ∧ pSol nj (fun j => (I 1 8 j).toInt) (fun j k => I 1 10 (200 * k + j) = 1) (fun j => (I 3 j 14).toInt) ∧ pSol nj (fun j => (I 1 8 j).toInt) (fun j k => I 1 10 (200 * j + k) = 1) (fun j => (I 3 j 13).toInt) ∧
  ∃ (cn : Nat) (ch : Nat → Nat), cn ≤ 200 ∧ I 0 2 5 = nI cn ∧ (∀ i, i < cn → R 0 11 i = some (A 3 (ch i)) ∧ ch i < nj) ∧ pBst nj (fun _ => True) (fun j => (I 3 j 14).toInt) (if cn = 0 then none else some (ch 0)) ∧ (∀ i, i < cn → pBst nj (fun k => I 1 10 (200 * k + ch i) = 1) (fun j => (I 3 j 14).toInt) (if i + 1 = cn then none else some (ch (i + 1)))) ∧ I 0 2 6 = (if cn = 0 then 0 else I 3 (ch 0) 14)
theorem vPa_c {A : Nat → Nat → Nat} {nj : Nat} {I I' : FI} {R R' : FR} (e : Ag gPa I I') (k : Ag kPa R R') (h : vPa A nj I R) : vPa A nj I' R' := by
  have e8 : I' 1 8 = I 1 8 := funext fun p => e 1 8 p rfl
  have e10 : I' 1 10 = I 1 10 := funext fun p => e 1 10 p rfl
  have e13 : ∀ j, I' 3 j 13 = I 3 j 13 := fun j => e 3 j 13 rfl
  have e14 : ∀ j, I' 3 j 14 = I 3 j 14 := fun j => e 3 j 14 rfl
  have k11 : R' 0 11 = R 0 11 := funext fun p => k 0 11 p rfl
  unfold vPa
  simp only [e8, e10, e13, e14, k11, e 0 2 5 rfl, e 0 2 6 rfl, e 0 2 7 rfl]
  exact h
def iv (A : Nat → Nat → Nat) (B : Nat → Nat × Nat) (S : Hp) (nc nw nm nj : Nat) (cw jc : Nat → Nat) (I : FI) (J : FJ) (R : FR) : Prop := Sh A B S nj nc ∧ vSt A S nc nw nm nj cw jc I J R ∧ vRn nj I J ∧ vPa A nj I R
def Iv (x mm out : Nat) (T : Hp) : Prop := ∃ A B S nc nw nm nj cw jc I J R, T = hq A B S I J R ∧ A 0 0 = x ∧ A 0 23 = mm ∧ A 0 24 = out ∧ iv A B S nc nw nm nj cw jc I J R
/-- the run's cells that vRn reads, of class and reference -/
def gRn (c i p : Nat) : Bool := c == 16 || (c == 0 && (i == 16 || i == 21 || i == 4)) || (c == 0 && i == 23 && (p == 22 || p == 23 || p == 25 || p == 39)) || (c == 1 && (i == 26 || i == 27 || i == 28 || i == 29 || i == 30 || i == 31 || i == 34 || i == 36 || i == 37 || i == 38))
def kRn (c i _p : Nat) : Bool := (c == 0 && (i == 14 || i == 22)) || (c == 1 && i == 35)
def gNr (c i _p : Nat) : Bool := c == 16 || (c == 0 && (i == 16 || i == 21 || i == 4))
theorem nRc_c {nj : Nat} {I I' : FI} (e : Ag gNr I I') (h : nRc nj I) : nRc nj I' := by
  have e16 : ∀ j, I' 16 j = I 16 j := fun j => funext fun p => e 16 j p rfl
  have a16 : I' 0 16 = I 0 16 := funext fun p => e 0 16 p rfl
  have a21 : I' 0 21 = I 0 21 := funext fun p => e 0 21 p rfl
  have a4 : I' 0 4 = I 0 4 := funext fun p => e 0 4 p rfl
  unfold nRc
  simp only [e16, a16, a21, a4]
  exact h
theorem vRn_c {nj : Nat} {I I' : FI} {J J' : FJ} (e : Ag gRn I I') (k : Ag kRn J J') (h : vRn nj I J) : vRn nj I' J' := by
  have e16 : ∀ j, I' 16 j = I 16 j := fun j => funext fun p => e 16 j p rfl
  have a16 : I' 0 16 = I 0 16 := funext fun p => e 0 16 p rfl
  have a21 : I' 0 21 = I 0 21 := funext fun p => e 0 21 p rfl
  have a4 : I' 0 4 = I 0 4 := funext fun p => e 0 4 p rfl
  have b26 : I' 1 26 = I 1 26 := funext fun p => e 1 26 p rfl
  have b27 : I' 1 27 = I 1 27 := funext fun p => e 1 27 p rfl
  have b28 : I' 1 28 = I 1 28 := funext fun p => e 1 28 p rfl
  have b29 : I' 1 29 = I 1 29 := funext fun p => e 1 29 p rfl
  have b30 : I' 1 30 = I 1 30 := funext fun p => e 1 30 p rfl
  have b31 : I' 1 31 = I 1 31 := funext fun p => e 1 31 p rfl
  have b34 : I' 1 34 = I 1 34 := funext fun p => e 1 34 p rfl
  have b36 : I' 1 36 = I 1 36 := funext fun p => e 1 36 p rfl
  have b37 : I' 1 37 = I 1 37 := funext fun p => e 1 37 p rfl
  have b38 : I' 1 38 = I 1 38 := funext fun p => e 1 38 p rfl
  have c14 : J' 0 14 = J 0 14 := funext fun p => k 0 14 p rfl
  have c22 : J' 0 22 = J 0 22 := funext fun p => k 0 22 p rfl
  have c35 : J' 1 35 = J 1 35 := funext fun p => k 1 35 p rfl
  unfold vRn nRc yR
  simp only [e16, a16, a21, a4, b26, b27, b28, b29, b30, b31, b34, b36, b37, b38, c14, c22, c35, e 0 23 22 rfl, e 0 23 23 rfl, e 0 23 25 rfl, e 0 23 39 rfl]
  exact h
section MU
variable {A : Nat → Nat → Nat} {B : Nat → Nat × Nat} {S : Hp} {nc nw nm nj : Nat} {cw jc : Nat → Nat} {I : FI} {J : FJ} {R : FR} {xs : Nat → Int32} {L : Nat} {l4 : Int32}
theorem iv_nr (hv : iv A B S nc nw nm nj cw jc I J R) : nRc nj I ∨ I 0 4 8 = 1 := by
  rcases hv.2.2.1 with h | h
  · exact Or.inl h.1
  · exact Or.inr h.1
theorem p_emp {Q : Int32 → Hp → Prop} (hv : iv A B S nc nw nm nj cw jc I J R) (hk : ∀ I' J' R', Fx I J R I' J' R' → nRc nj I' → vSt A S nc nw nm nj cw jc I' J' R' → vPa A nj I' R' → Q (I 0 4 8) (hq A B S I' J' R')) : wp_X8_empty (hq A B S I J R) (A 0 4) Q := by
  have hr := iv_nr hv
  obtain ⟨h, hs, -, hp⟩ := hv
  refine p_empty h hs.1.2.2.2.1 (fun j hj => (hs.2.2.2.1 j hj).1) hs.2.1.2.2.2.1 hr (fun I' J' R' f g => hk I' J' R' f g (vSt_c f.y hs) (vPa_c (f.1.mo ?_) (f.2.2.mo ?_) hp))
  all_goals
    intro c i p
    simp only [gPa, kPa, ruI, ruR, Bool.and_eq_true, Bool.or_eq_true, beq_iff_eq, Bool.not_eq_true', Bool.or_eq_false_iff, Bool.and_eq_false_iff, beq_eq_false_iff_ne]
    omega
end MU
