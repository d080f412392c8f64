/-! the heap seen by codes: A c i is the address of the i-th cell of the sort c; I, J, R are what the cells hold -/
def up3 {α : Type} (f : Nat → Nat → Nat → α) (c i p : Nat) (v : α) : Nat → Nat → Nat → α := fun d j q => if d = c ∧ j = i ∧ q = p then v else f d j q
def upR {α : Type} (f : Nat → Nat → Nat → α) (c i : Nat) (g : Nat → α) : Nat → Nat → Nat → α := fun d j q => if d = c ∧ j = i then g q else f d j q
def LA (A : Nat → Nat → Nat) (B : Nat → Nat × Nat) : Prop := ∀ c i, c < 20 → B (A c i) = (c, i)
theorem LA.inj {A : Nat → Nat → Nat} {B : Nat → Nat × Nat} (h : LA A B) {c d i j : Nat} (hc : c < 20) (hd : d < 20) (e : A c i = A d j) : c = d ∧ i = j := by
  have h1 := h c i hc
  rw [e, h d j hd] at h1
  exact ⟨(congrArg Prod.fst h1).symm, (congrArg Prod.snd h1).symm⟩
theorem LA.iff {A : Nat → Nat → Nat} {B : Nat → Nat × Nat} (h : LA A B) {c d i j : Nat} (hc : c < 20) (hd : d < 20) : A c i = A d j ↔ c = d ∧ i = j := ⟨h.inj hc hd, fun e => by rw [e.1, e.2]⟩
def hp (A : Nat → Nat → Nat) (B : Nat → Nat × Nat) (S : Hp) (I : Nat → Nat → Nat → Int32) (J : Nat → Nat → Nat → Int64) (R : Nat → Nat → Nat → Option Nat) : Hp :=
  (S.1, S.2.1, fun b p => if A (B b).1 (B b).2 = b ∧ (B b).1 < 20 then I (B b).1 (B b).2 p else S.2.2.1 b p, fun b p => if A (B b).1 (B b).2 = b ∧ (B b).1 < 20 then J (B b).1 (B b).2 p else S.2.2.2.1 b p, fun b p => if A (B b).1 (B b).2 = b ∧ (B b).1 < 20 then R (B b).1 (B b).2 p else S.2.2.2.2.1 b p, S.2.2.2.2.2)
section HP
variable {A : Nat → Nat → Nat} {B : Nat → Nat × Nat} {S : Hp} {I : Nat → Nat → Nat → Int32} {J : Nat → Nat → Nat → Int64} {R : Nat → Nat → Nat → Option Nat}
theorem hK_hp (b : Nat) : hK (hp A B S I J R) b = hK S b := rfl
theorem hN_hp (b : Nat) : hN (hp A B S I J R) b = hN S b := rfl
theorem hT_hp : hT (hp A B S I J R) = hT S := rfl
theorem hI_hp (h : LA A B) {c i p : Nat} (hc : c < 20) : hI (hp A B S I J R) (A c i) p = I c i p := by
  unfold hI hp
  dsimp only
  rw [h c i hc]
  exact if_pos ⟨rfl, hc⟩
theorem hJ_hp (h : LA A B) {c i p : Nat} (hc : c < 20) : hJ (hp A B S I J R) (A c i) p = J c i p := by
  unfold hJ hp
  dsimp only
  rw [h c i hc]
  exact if_pos ⟨rfl, hc⟩
theorem hR_hp (h : LA A B) {c i p : Nat} (hc : c < 20) : hR (hp A B S I J R) (A c i) p = R c i p := by
  unfold hR hp
  dsimp only
  rw [h c i hc]
  exact if_pos ⟨rfl, hc⟩
theorem hp_row {α : Type} (h : LA A B) {c i : Nat} (hc : c < 20) (f : Nat → Nat → Nat → α) (g : Nat → α) (s : Nat → Nat → α) (b p : Nat) :
    (if b = A c i then g p else if A (B b).1 (B b).2 = b ∧ (B b).1 < 20 then f (B b).1 (B b).2 p else s b p) = if A (B b).1 (B b).2 = b ∧ (B b).1 < 20 then upR f c i g (B b).1 (B b).2 p else s b p := by
  unfold upR
  by_cases e : b = A c i
  · rw [if_pos e, e, h c i hc]
    rw [if_pos ⟨rfl, hc⟩, if_pos ⟨rfl, rfl⟩]
  · rw [if_neg e]
    by_cases e2 : A (B b).1 (B b).2 = b ∧ (B b).1 < 20
    · rw [if_pos e2, if_pos e2, if_neg]
      intro z
      rw [z.1, z.2] at e2
      exact e e2.1.symm
    · rw [if_neg e2, if_neg e2]
theorem sWI_hp (h : LA A B) {c i : Nat} (hc : c < 20) (g : Nat → Int32) : sWI (hp A B S I J R) (A c i) g = hp A B S (upR I c i g) J R := by
  unfold sWI hp
  dsimp only
  refine congrArg (fun z => (S.1, S.2.1, z, _, _, S.2.2.2.2.2)) ?_
  funext b p
  exact hp_row h hc I g S.2.2.1 b p
theorem sWJ_hp (h : LA A B) {c i : Nat} (hc : c < 20) (g : Nat → Int64) : sWJ (hp A B S I J R) (A c i) g = hp A B S I (upR J c i g) R := by
  unfold sWJ hp
  dsimp only
  refine congrArg (fun z => (S.1, S.2.1, _, z, _, S.2.2.2.2.2)) ?_
  funext b p
  exact hp_row h hc J g S.2.2.2.1 b p
theorem sWR_hp (h : LA A B) {c i : Nat} (hc : c < 20) (g : Nat → Option Nat) : sWR (hp A B S I J R) (A c i) g = hp A B S I J (upR R c i g) := by
  unfold sWR hp
  dsimp only
  refine congrArg (fun z => (S.1, S.2.1, _, _, z, S.2.2.2.2.2)) ?_
  funext b p
  exact hp_row h hc R g S.2.2.2.2.1 b p
theorem upR_up3 {α : Type} (f : Nat → Nat → Nat → α) (c i p : Nat) (v : α) : upR f c i (fun j => if j = p then v else f c i j) = up3 f c i p v := by
  funext d j q
  unfold upR up3
  by_cases e : d = c ∧ j = i
  · rw [if_pos e]
    show (if q = p then v else f c i q) = _
    by_cases e2 : q = p
    · rw [if_pos e2, if_pos ⟨e.1, e.2, e2⟩]
    · rw [if_neg e2, if_neg (fun z => e2 z.2.2), e.1, e.2]
  · rw [if_neg e, if_neg (fun z => e ⟨z.1, z.2.1⟩)]
theorem sI_hp (h : LA A B) {c i : Nat} (hc : c < 20) (p : Nat) (v : Int32) : sI (hp A B S I J R) (A c i) p v = hp A B S (up3 I c i p v) J R := by
  rw [sI_row, sWI_hp h hc]
  simp only [hI_hp h hc]
  rw [upR_up3]
theorem sJ_hp (h : LA A B) {c i : Nat} (hc : c < 20) (p : Nat) (v : Int64) : sJ (hp A B S I J R) (A c i) p v = hp A B S I (up3 J c i p v) R := by
  rw [sJ_row, sWJ_hp h hc]
  simp only [hJ_hp h hc]
  rw [upR_up3]
theorem sR_hp (h : LA A B) {c i : Nat} (hc : c < 20) (p : Nat) (v : Option Nat) : sR (hp A B S I J R) (A c i) p v = hp A B S I J (up3 R c i p v) := by
  rw [sR_row, sWR_hp h hc]
  simp only [hR_hp h hc]
  rw [upR_up3]
theorem hp_self (A : Nat → Nat → Nat) (B : Nat → Nat × Nat) (S : Hp) : hp A B S (fun c i p => hI S (A c i) p) (fun c i p => hJ S (A c i) p) (fun c i p => hR S (A c i) p) = S := by
  unfold hp hI hJ hR
  have e1 : (fun b p => if A (B b).1 (B b).2 = b ∧ (B b).1 < 20 then S.2.2.1 (A (B b).1 (B b).2) p else S.2.2.1 b p) = S.2.2.1 := by
    funext b p
    by_cases e : A (B b).1 (B b).2 = b ∧ (B b).1 < 20
    · rw [if_pos e, e.1]
    · rw [if_neg e]
  have e2 : (fun b p => if A (B b).1 (B b).2 = b ∧ (B b).1 < 20 then S.2.2.2.1 (A (B b).1 (B b).2) p else S.2.2.2.1 b p) = S.2.2.2.1 := by
    funext b p
    by_cases e : A (B b).1 (B b).2 = b ∧ (B b).1 < 20
    · rw [if_pos e, e.1]
    · rw [if_neg e]
  have e3 : (fun b p => if A (B b).1 (B b).2 = b ∧ (B b).1 < 20 then S.2.2.2.2.1 (A (B b).1 (B b).2) p else S.2.2.2.2.1 b p) = S.2.2.2.2.1 := by
    funext b p
    by_cases e : A (B b).1 (B b).2 = b ∧ (B b).1 < 20
    · rw [if_pos e, e.1]
    · rw [if_neg e]
  simp only [e1, e2, e3]
end HP
/-! the sorts of cells: kinds and lengths -/
def rk : Nat → Nat × Nat := fun i => match i with
  | 0 => (13, 0) | 1 => (11, 0) | 2 => (8, 0) | 3 => (3, 0) | 4 => (10, 0) | 5 => (18, 8) | 6 => (16, 60) | 7 => (19, 200) | 8 => (19, 200) | 9 => (19, 200) | 10 => (15, 200) | 11 => (19, 200) | 12 => (16, 30) | 13 => (16, 30) | 14 => (16, 60) | 15 => (16, 60)
  | 16 => (15, 40) | 17 => (19, 32) | 18 => (19, 200) | 19 => (7, 0) | 20 => (16, 4) | 21 => (5, 0) | 22 => (16, 400) | 23 => (14, 0) | 24 => (16, 1) | _ => (0, 0)
def mk : Nat → Nat × Nat := fun k => match k with
  | 5 => (15, 8) | 6 => (15, 60) | 7 => (15, 200) | 8 => (15, 200) | 9 => (15, 200) | 10 => (17, 40000) | 11 => (17, 40000) | 12 => (17, 8000) | 13 => (15, 12000) | 14 => (15, 12000) | 15 => (15, 200) | 16 => (15, 200) | 17 => (15, 200) | 18 => (15, 6000) | 19 => (15, 200) | 20 => (15, 200) | 21 => (15, 200)
  | 26 => (15, 200) | 27 => (15, 200) | 28 => (15, 200) | 29 => (15, 200) | 30 => (15, 200) | 31 => (15, 200) | 32 => (15, 32) | 33 => (15, 40) | 34 => (15, 40) | 35 => (16, 60) | 36 => (15, 600) | 37 => (15, 600) | 38 => (15, 600) | 40 => (16, 30) | 42 => (17, 30) | 43 => (16, 30) | 44 => (17, 200) | 45 => (17, 200) | 46 => (15, 200) | 47 => (15, 200) | _ => (0, 0)
def jk : Nat → Nat × Nat := fun c => match c with
  | 3 => (6, 0) | 4 => (1, 0) | 5 => (1, 0) | 6 => (7, 0) | 7 => (16, 4) | 8 => (2, 0) | 9 => (15, 60) | 10 => (15, 60) | 11 => (2, 0) | 12 => (15, 60) | 13 => (15, 60) | 14 => (9, 0) | 15 => (15, 30) | 16 => (12, 0) | _ => (0, 0)
def KM (A : Nat → Nat → Nat) (S : Hp) : Prop := hK S (A 0 23) = 14 ∧ ∀ k, (mk k).1 ≠ 0 → hK S (A 1 k) = (mk k).1 ∧ hN S (A 1 k) = (mk k).2
def KR (A : Nat → Nat → Nat) (S : Hp) : Prop := ∀ i, i < 25 → hK S (A 0 i) = (rk i).1 ∧ ((rk i).2 ≠ 0 → hN S (A 0 i) = (rk i).2)
def KC (A : Nat → Nat → Nat) (S : Hp) (nc : Nat) : Prop := ∀ i, i < nc → hK S (A 2 i) = 4
def KJ (A : Nat → Nat → Nat) (S : Hp) (nj : Nat) : Prop := ∀ c j, j < nj → (jk c).1 ≠ 0 → hK S (A c j) = (jk c).1 ∧ ((jk c).2 ≠ 0 → hN S (A c j) = (jk c).2)
/-! the pointers that never change -/
def PM (A : Nat → Nat → Nat) (R : Nat → Nat → Nat → Option Nat) : Prop := ∀ k, (mk k).1 ≠ 0 → R 0 23 k = some (A 1 k)
def rp : List (Nat × Nat × Nat) := [(0, 0, 1), (0, 1, 2), (0, 2, 3), (0, 3, 4), (1, 0, 5), (1, 4, 6), (1, 5, 7), (1, 6, 8), (2, 0, 1), (2, 1, 9), (2, 2, 10), (2, 4, 11), (3, 0, 12), (3, 1, 13), (4, 0, 1), (4, 1, 14), (4, 2, 15), (4, 3, 16), (4, 4, 17), (4, 5, 18), (4, 6, 19), (4, 7, 21), (19, 0, 20), (21, 0, 22)]
def PR (A : Nat → Nat → Nat) (R : Nat → Nat → Nat → Option Nat) : Prop := ∀ t ∈ rp, R 0 t.1 t.2.1 = some (A 0 t.2.2)
def jp : List (Nat × Nat × Nat) := [(3, 4, 4), (3, 5, 5), (3, 6, 6), (3, 8, 8), (3, 9, 11), (3, 10, 14), (3, 15, 16), (6, 0, 7), (8, 0, 9), (8, 1, 10), (11, 0, 12), (11, 1, 13), (14, 3, 15)]
def PJ (A : Nat → Nat → Nat) (R : Nat → Nat → Nat → Option Nat) (nj : Nat) : Prop := ∀ j, j < nj → ∀ t ∈ jp, R t.1 j t.2.1 = some (A t.2.2 j)
