/-! the class's cells in a run -/
section CRD
variable (A : Nat → Nat → Nat) (E : FI) (nc nj : Nat) (cw jc od : Nat → Nat) (s : Rs) (I : FI) (J : FJ) (R : FR)
def cTr : Prop := ∀ j, j < nj → I 16 j 0 = cS (oS s j) ∧ I 16 j 1 = bgI s j ∧ I 16 j 2 = emI s j ∧ I 16 j 3 = wkI s j ∧ I 16 j 4 = faI s j ∧ I 16 j 5 = noI E s j ∧ I 16 j 6 = fkI E s j ∧ I 16 j 7 = nI (wts E nj s j)
def cLf : Prop := ∀ x, x < 60 → J 0 14 x = lft E nj s x
def cAw : Prop := ∀ w, w < 32 → (R 0 17 w = none ∧ fre nj s w = true) ∨ ∃ j, j < nj ∧ oS s j = 6 ∧ oW s j = w ∧ R 0 17 w = some (A 3 j)
def cFr : Prop := ∀ c, c < nc → I 2 c 3 = nI (cntN (cw c) (fun i => fre nj s (fwk cw c + i)))
def cBs : Prop := ∀ m, m < 64 → (jb (J 0 4 17) m = true ↔ bsy E nj s m)
def lst (v : Nat) : Prop := (∀ j, j < nj → edd (oS s j) = true → oE s j ≤ v) ∧ (v = 0 ∨ ∃ j, j < nj ∧ edd (oS s j) = true ∧ oE s j = v)
def cCt : Prop := I 0 4 15 = nI (cntN nj (fun j => oS s j == 6)) ∧ I 0 4 12 = nI (cntN nj (fun j => oS s j == 1)) ∧ I 0 4 11 = nI (cntN nj (fun j => oS s j == 2)) ∧ ∃ v, I 0 4 13 = nI v ∧ lst nj s v
def cQu : Prop := ∃ (n : Nat) (qp : Nat → Nat), I 0 4 14 = nI n ∧ n ≤ nj ∧ (∀ t, t < n → qp t < nj ∧ R 0 18 t = some (A 3 (od (qp t))) ∧ oS s (od (qp t)) ≠ 6) ∧ (∀ t t', t < t' → t' < n → qp t < qp t') ∧ ∀ u, u < nj → oS s (od u) = 0 → ∃ t, t < n ∧ qp t = u
def cEv : Prop := ∃ ky, I 0 21 1 = nI (sumN nj (fun j => evn (oS s j))) ∧ evF (sumN nj (fun j => evn (oS s j))) (J 0 22) ky ∧ ∀ z, (∃ i, i < sumN nj (fun j => evn (oS s j)) ∧ ky i = z) ↔ EVs nj s z
def cMi : Prop := I 0 4 10 = nI (oM s) ∧ I 0 4 8 = 1 ∧ ∀ m, m < 40 → I 0 16 m = oH s m
/-- the class's cells say s -/
def cR : Prop := cTr E nj s I ∧ cLf E nj s J ∧ cAw A nj s R ∧ cFr nc nj cw s I ∧ cBs E nj s J ∧ cCt nj s I ∧ cQu A nj od s I R ∧ cEv nj s I J ∧ cMi s I
/-- the marks -/
def cMk (M : Nat → Prop) : Prop := (∀ k, k < 256 → (jb (J 0 20 (k / 64)) (k % 64) = true ↔ M k)) ∧ (I 0 4 16 = 0 ∧ (∀ k, k < 256 → ¬ M k) ∨ I 0 4 16 = 1)
end CRD
theorem Fx.JR {I I' : FI} {J J' : FJ} {R R' : FR} (h : Fx I J R I' J' R') {c i : Nat} {f : Nat → Int64} (hd : ∀ p, ruJ c i p = true) : Fx I J R I' (upR J' c i f) R' := ⟨h.1, h.2.1.ur (fun p => by rw [hd p]; rfl), h.2.2⟩
section EVP
variable {A : Nat → Nat → Nat} {B : Nat → Nat × Nat} {S : Hp} {nc nw nm nj : Nat} {cw jc : Nat → Nat} {I : FI} {J : FJ} {R : FR} {xs : Nat → Int32} {L : Nat} {l4 : Int32}
variable {s : Rs} {j x : Nat} {Q : Hp → Prop}
theorem ev_q (h : Sh A B S nj nc) : isEv (hq A B S I J R) (A 0 21) (A 0 22) := ⟨(fr_21 h _ _ _).1, (fr_21 h _ _ _).2, (fr_22 h _ _ _).1, (fr_22 h _ _ _).2⟩
theorem sWJ_q (h : Sh A B S nj nc) {c i : Nat} (hc : c < 20) (g : Nat → Int64) : sWJ (hq A B S I J R) (A c i) g = hq A B S I (upR J c i g) R := sWJ_hq h.1 hc g
/-- an event of job j -/
theorem p_evj (h : Sh A B S nj nc) {s s' : Rs} {k m : Nat} (he : cEv nj s I J) (hn : nj ≤ 200) (hj : j < nj) (hv : evn (oS s j) < 2) (hm : m ≤ 1000000) (hk : k < 8) (hf : ¬ EVs nj s (ekey m k j)) (h1 : sumN nj (fun i => evn (oS s' i)) = sumN nj (fun i => evn (oS s i)) + 1) (h2 : ∀ z, EVs nj s' z ↔ z = ekey m k j ∨ EVs nj s z) (hQ : ∀ v f, cEv nj s' (up3 I 0 21 1 v) (upR J 0 22 f) → Q (hq A B S (up3 I 0 21 1 v) (upR J 0 22 f) R)) : wp_X3_put (hq A B S I J R) (A 0 21) (nI m) (nI k) (nI j) Q := by
  obtain ⟨ky, e1, e2, e3⟩ := he
  have hlt := evs_lt (s := s) hn hj hv
  refine p_evput (n := sumN nj (fun i => evn (oS s i))) (ky := ky) (ev_q h) ⟨by rw [hi_q h (by decide)]; exact e1, e2.1, fun i hi => ?_, e2.2.2⟩ hlt (by omega) hk (by omega) (fun i hi z => hf ((e3 _).mp ⟨i, hi, z⟩)) (fun f ky' f1 f2 => ?_)
  · rw [hj_q h (by decide)]; exact e2.2.1 i hi
  · rw [sWJ_q h (by decide), si_q h (by decide)]
    refine hQ _ f ⟨ky', ?_, ?_, fun z => ?_⟩
    · rw [up3_same, h1]
    · rw [h1]
      have : upR J 0 22 f 0 22 = f := funext fun p => by simp [upR]
      rw [this]; exact f1
    · rw [h1, f2, h2, e3]
end EVP
