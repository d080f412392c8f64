/-! The heap as numbers: kind (0: none), length, ints, longs, references, and ArrayList's empty array -/
abbrev Hp : Type := (Nat → Nat) × (Nat → Nat) × (Nat → Nat → Int32) × (Nat → Nat → Int64) × (Nat → Nat → Option Nat) × Nat
def hK (S : Hp) (a : Nat) : Nat := S.1 a
def hN (S : Hp) (a : Nat) : Nat := S.2.1 a
def hI (S : Hp) (a i : Nat) : Int32 := S.2.2.1 a i
def hJ (S : Hp) (a i : Nat) : Int64 := S.2.2.2.1 a i
def hR (S : Hp) (a i : Nat) : Option Nat := S.2.2.2.2.1 a i
def hT (S : Hp) : Nat := S.2.2.2.2.2
def up2 {α : Type} (f : Nat → Nat → α) (a i : Nat) (v : α) : Nat → Nat → α := fun b j => if b = a ∧ j = i then v else f b j
def sI (S : Hp) (a i : Nat) (v : Int32) : Hp := (S.1, S.2.1, up2 S.2.2.1 a i v, S.2.2.2.1, S.2.2.2.2.1, S.2.2.2.2.2)
def sJ (S : Hp) (a i : Nat) (v : Int64) : Hp := (S.1, S.2.1, S.2.2.1, up2 S.2.2.2.1 a i v, S.2.2.2.2.1, S.2.2.2.2.2)
def sR (S : Hp) (a i : Nat) (v : Option Nat) : Hp := (S.1, S.2.1, S.2.2.1, S.2.2.2.1, up2 S.2.2.2.2.1 a i v, S.2.2.2.2.2)
def sN (S : Hp) (a k n : Nat) : Hp := (fun b => if b = a then k else S.1 b, fun b => if b = a then n else S.2.1 b, fun b j => if b = a then 0 else S.2.2.1 b j, fun b j => if b = a then 0 else S.2.2.2.1 b j, fun b j => if b = a then none else S.2.2.2.2.1 b j, S.2.2.2.2.2)
theorem hK_sI (S : Hp) (a i : Nat) (v : Int32) (b : Nat) : hK (sI S a i v) b = hK S b := rfl
theorem hK_sJ (S : Hp) (a i : Nat) (v : Int64) (b : Nat) : hK (sJ S a i v) b = hK S b := rfl
theorem hK_sR (S : Hp) (a i : Nat) (v : Option Nat) (b : Nat) : hK (sR S a i v) b = hK S b := rfl
theorem hK_sN (S : Hp) (a k n b : Nat) : hK (sN S a k n) b = if b = a then k else hK S b := rfl
theorem hN_sI (S : Hp) (a i : Nat) (v : Int32) (b : Nat) : hN (sI S a i v) b = hN S b := rfl
theorem hN_sJ (S : Hp) (a i : Nat) (v : Int64) (b : Nat) : hN (sJ S a i v) b = hN S b := rfl
theorem hN_sR (S : Hp) (a i : Nat) (v : Option Nat) (b : Nat) : hN (sR S a i v) b = hN S b := rfl
theorem hN_sN (S : Hp) (a k n b : Nat) : hN (sN S a k n) b = if b = a then n else hN S b := rfl
theorem hI_sI (S : Hp) (a i : Nat) (v : Int32) (b j : Nat) : hI (sI S a i v) b j = if b = a ∧ j = i then v else hI S b j := rfl
theorem hI_sJ (S : Hp) (a i : Nat) (v : Int64) (b j : Nat) : hI (sJ S a i v) b j = hI S b j := rfl
theorem hI_sR (S : Hp) (a i : Nat) (v : Option Nat) (b j : Nat) : hI (sR S a i v) b j = hI S b j := rfl
theorem hI_sN (S : Hp) (a k n b j : Nat) : hI (sN S a k n) b j = if b = a then 0 else hI S b j := rfl
theorem hJ_sI (S : Hp) (a i : Nat) (v : Int32) (b j : Nat) : hJ (sI S a i v) b j = hJ S b j := rfl
theorem hJ_sJ (S : Hp) (a i : Nat) (v : Int64) (b j : Nat) : hJ (sJ S a i v) b j = if b = a ∧ j = i then v else hJ S b j := rfl
theorem hJ_sR (S : Hp) (a i : Nat) (v : Option Nat) (b j : Nat) : hJ (sR S a i v) b j = hJ S b j := rfl
theorem hJ_sN (S : Hp) (a k n b j : Nat) : hJ (sN S a k n) b j = if b = a then 0 else hJ S b j := rfl
theorem hR_sI (S : Hp) (a i : Nat) (v : Int32) (b j : Nat) : hR (sI S a i v) b j = hR S b j := rfl
theorem hR_sJ (S : Hp) (a i : Nat) (v : Int64) (b j : Nat) : hR (sJ S a i v) b j = hR S b j := rfl
theorem hR_sR (S : Hp) (a i : Nat) (v : Option Nat) (b j : Nat) : hR (sR S a i v) b j = if b = a ∧ j = i then v else hR S b j := rfl
theorem hR_sN (S : Hp) (a k n b j : Nat) : hR (sN S a k n) b j = if b = a then none else hR S b j := rfl
theorem hT_sI (S : Hp) (a i : Nat) (v : Int32) : hT (sI S a i v) = hT S := rfl
theorem hT_sJ (S : Hp) (a i : Nat) (v : Int64) : hT (sJ S a i v) = hT S := rfl
theorem hT_sR (S : Hp) (a i : Nat) (v : Option Nat) : hT (sR S a i v) = hT S := rfl
theorem hT_sN (S : Hp) (a k n : Nat) : hT (sN S a k n) = hT S := rfl
/-- the fields of the kinds 1 to 14: 0 an int, 1 a long, 2 a reference -/
def ksig : Nat → List Nat := fun k => match k with
  | 1 => [0, 2, 0]
  | 2 => [2, 2, 0]
  | 3 => [2, 2, 0]
  | 4 => [0, 0, 0, 0]
  | 5 => [2, 0]
  | 6 => [0, 2, 0, 0, 2, 2, 2, 1, 2, 2, 2, 0, 0, 0, 0, 2]
  | 7 => [2]
  | 8 => [2, 2, 2, 0, 2, 0, 0, 0]
  | 9 => [0, 0, 0, 2, 0]
  | 10 => [2, 2, 2, 2, 2, 2, 2, 2, 0, 0, 0, 0, 0, 0, 0, 0, 0, 1]
  | 11 => [2, 0, 0, 0, 2, 2, 2, 0]
  | 12 => [0, 0, 0, 0, 0, 0, 0, 0]
  | 13 => [2, 2, 2, 2]
  | 14 => [0, 0, 0, 0, 0, 2, 2, 2, 2, 2, 2, 2, 2, 2, 2, 2, 2, 2, 2, 2, 2, 2, 0, 0, 0, 0, 2, 2, 2, 2, 2, 2, 2, 2, 2, 2, 2, 2, 2, 0, 2, 0, 2, 2, 2, 2, 2, 2]
  | _ => []
/-- the arrays' elements, kinds 15 to 21 -/
def kty : Nat → Nat := fun k => match k with
  | 15 => 0
  | 16 => 1
  | 17 => 0
  | _ => 2
def kft : Nat → FieldType := fun k => match k with
  | 15 => .int
  | 16 => .long
  | 17 => .boolean
  | 18 => .object RX2
  | 19 => .object RX4
  | _ => .object "java/lang/Object"
def hV (S : Hp) (a : Nat) (t : Nat) (i : Nat) : Value := match t with
  | 0 => .int (hI S a i)
  | 1 => .long (hJ S a i)
  | _ => va_rf (hR S a i)
/-- the world: every cell of the heap of numbers stands in the machine's heap -/
abbrev GX : Type := va_G × (Nat → ClassId) × (Nat → Prop) × Nat
def wd (G : GX) (S : Hp) (H : Heap) : Prop := hT S = G.2.2.2 ∧ ∀ a : Nat, hK S a ≠ 0 →
  (hK S a ≤ 20 → G.2.2.1 a) ∧ (hK S a = 21 → ¬ G.2.2.1 a) ∧ hK S a ≤ 21 ∧
  (hK S a ≤ 14 → t_OB a (G.1.1 (hK S a - 1)) (ksig (hK S a)).length (G.1.2 (hK S a - 1)) H (fun i => hV S a ((ksig (hK S a)).getD i 0) i)) ∧
  (15 ≤ hK S a → hK S a ≤ 20 → H[a]? = some (arrV (G.2.1 (hK S a)) (hN S a) (fun j => hV S a (kty (hK S a)) j))) ∧
  (hK S a = 21 → ∃ cell : Cell, H[a]? = some cell ∧ cell.cls = G.2.1 21 ∧ (∀ k, cell.vm ≠ .statics k) ∧ cell.vm ≠ .unknown ∧ cell.slots.size = hN S a)
theorem va_rf_cat (o : Option Nat) : (va_rf o).category = 1 := by cases o <;> rfl
theorem wd.obj {G : GX} {S : Hp} {H : Heap} (h : wd G S H) {a k : Nat} (hk : hK S a = k) (h1 : 1 ≤ k) (h2 : k ≤ 14) : t_OB a (G.1.1 (k - 1)) (ksig k).length (G.1.2 (k - 1)) H (fun i => hV S a ((ksig k).getD i 0) i) := by
  subst hk
  exact (h.2 a (by omega)).2.2.2.1 h2
theorem wd.arr {G : GX} {S : Hp} {H : Heap} (h : wd G S H) {a k : Nat} (hk : hK S a = k) (h1 : 15 ≤ k) (h2 : k ≤ 20) : H[a]? = some (arrV (G.2.1 k) (hN S a) (fun j => hV S a (kty k) j)) := by
  subst hk
  exact (h.2 a (by omega)).2.2.2.2.1 h1 h2
theorem wd.lt {G : GX} {S : Hp} {H : Heap} (h : wd G S H) {a : Nat} (hk : hK S a ≠ 0) : a < H.size := by
  by_cases h2 : hK S a ≤ 14
  · obtain ⟨cell, h3, -⟩ := (h.2 a hk).2.2.2.1 h2
    exact (Array.getElem?_eq_some_iff.mp h3).1
  · by_cases h3 : hK S a ≤ 20
    · exact (Array.getElem?_eq_some_iff.mp ((h.2 a hk).2.2.2.2.1 (by omega) h3)).1
    · have h4 := (h.2 a hk).2.2.1
      obtain ⟨cell, h5, -⟩ := (h.2 a hk).2.2.2.2.2 (by omega)
      exact (Array.getElem?_eq_some_iff.mp h5).1
theorem wd.new {G : GX} {S : Hp} {H : Heap} (h : wd G S H) : hK S H.size = 0 := by
  by_cases h2 : hK S H.size = 0
  · exact h2
  · exact absurd (h.lt h2) (Nat.lt_irrefl _)
/-- one cell changes -/
theorem wd.put {G : GX} {S S1 : Hp} {H H1 : Heap} (h : wd G S H) {a : Nat} (ht : hT S1 = hT S) (hk : ∀ b, hK S1 b = hK S b) (hn : ∀ b, hN S1 b = hN S b) (hv : ∀ b t i, b ≠ a → hV S1 b t i = hV S b t i) (hH : ∀ q, q ≠ a → H1[q]? = H[q]?)
    (h14 : hK S a ≠ 0 → hK S a ≤ 14 → t_OB a (G.1.1 (hK S a - 1)) (ksig (hK S a)).length (G.1.2 (hK S a - 1)) H1 (fun i => hV S1 a ((ksig (hK S a)).getD i 0) i))
    (h15 : 15 ≤ hK S a → H1[a]? = some (arrV (G.2.1 (hK S a)) (hN S a) (fun j => hV S1 a (kty (hK S a)) j))) (h21 : hK S a ≠ 21) : wd G S1 H1 := by
  refine ⟨ht.trans h.1, ?_⟩
  intro b hb
  rw [hk] at hb ⊢
  obtain ⟨g1, g2, g3, g4, g5, g6⟩ := h.2 b hb
  refine ⟨g1, g2, g3, fun z => ?_, fun z z2 => ?_, fun z => ?_⟩
  · by_cases e : b = a
    · subst e; exact h14 hb z
    · exact ((g4 z).kept (hH b e)).to (fun i _ => (hv b _ i e).symm)
  · by_cases e : b = a
    · subst e; rw [hn]; exact h15 z
    · rw [hH b e, g5 z z2, hn]
      congr 2
      funext j
      exact (hv b _ j e).symm
  · have e : b ≠ a := fun e => h21 (by rw [← e]; exact z)
    rw [hH b e, hn]
    exact g6 z
/-- a cell is made -/
theorem wd.make {G : GX} {S : Hp} {H H1 : Heap} (h : wd G S H) {k n : Nat} (hA : G.2.2.1 H.size) (k0 : 1 ≤ k) (k1 : k ≤ 20) (hH : ∀ q, q < H.size → H1[q]? = H[q]?)
    (h14 : k ≤ 14 → t_OB H.size (G.1.1 (k - 1)) (ksig k).length (G.1.2 (k - 1)) H1 (fun i => hV (sN S H.size k n) H.size ((ksig k).getD i 0) i))
    (h15 : 15 ≤ k → H1[H.size]? = some (arrV (G.2.1 k) n (fun j => hV (sN S H.size k n) H.size (kty k) j))) : wd G (sN S H.size k n) H1 := by
  refine ⟨h.1, ?_⟩
  intro b hb
  by_cases e : b = H.size
  · subst e
    have e1 : hK (sN S H.size k n) H.size = k := by rw [hK_sN, if_pos rfl]
    have e2 : hN (sN S H.size k n) H.size = n := by rw [hN_sN, if_pos rfl]
    rw [e1, e2]
    exact ⟨fun _ => hA, fun z => by omega, by omega, h14, fun z _ => h15 z, fun z => by omega⟩
  · have e1 : hK (sN S H.size k n) b = hK S b := by rw [hK_sN, if_neg e]
    have e2 : hN (sN S H.size k n) b = hN S b := by rw [hN_sN, if_neg e]
    have e3 : ∀ t i, hV (sN S H.size k n) b t i = hV S b t i := fun t i => by
      unfold hV
      rw [hI_sN, hJ_sN, hR_sN, if_neg e, if_neg e, if_neg e]
    rw [e1] at hb ⊢
    rw [e2]
    obtain ⟨g1, g2, g3, g4, g5, g6⟩ := h.2 b hb
    have hq := hH b (h.lt hb)
    refine ⟨g1, g2, g3, fun z => ((g4 z).kept hq).to (fun i _ => (e3 _ i).symm), fun z z2 => ?_, fun z => by rw [hq]; exact g6 z⟩
    rw [hq, g5 z z2]
    congr 2
    funext j
    exact (e3 _ j).symm
theorem hV_sI {S : Hp} {a i : Nat} {v : Int32} {b t j : Nat} (h : b ≠ a) : hV (sI S a i v) b t j = hV S b t j := by
  unfold hV
  rw [hI_sI, hJ_sI, hR_sI, if_neg (fun z => h z.1)]
theorem hV_sJ {S : Hp} {a i : Nat} {v : Int64} {b t j : Nat} (h : b ≠ a) : hV (sJ S a i v) b t j = hV S b t j := by
  unfold hV
  rw [hI_sJ, hJ_sJ, hR_sJ, if_neg (fun z => h z.1)]
theorem hV_sR {S : Hp} {a i : Nat} {v : Option Nat} {b t j : Nat} (h : b ≠ a) : hV (sR S a i v) b t j = hV S b t j := by
  unfold hV
  rw [hI_sR, hJ_sR, hR_sR, if_neg (fun z => h z.1)]
theorem hV_sIs {S : Hp} {a i : Nat} {v : Int32} {t j : Nat} (h : t = 0 ∨ j ≠ i) : hV (sI S a i v) a t j = if j = i then .int v else hV S a t j := by
  by_cases e : j = i
  · rcases h with h | h
    · subst h; subst e; simp [hV, hI_sI]
    · exact absurd e h
  · unfold hV
    rw [hI_sI, hJ_sI, hR_sI, if_neg (fun z => e z.2), if_neg e]
theorem hV_sJs {S : Hp} {a i : Nat} {v : Int64} {t j : Nat} (h : t = 1 ∨ j ≠ i) : hV (sJ S a i v) a t j = if j = i then .long v else hV S a t j := by
  by_cases e : j = i
  · rcases h with h | h
    · subst h; subst e; simp [hV, hJ_sJ]
    · exact absurd e h
  · unfold hV
    rw [hI_sJ, hJ_sJ, hR_sJ, if_neg (fun z => e z.2), if_neg e]
theorem hV_sRs {S : Hp} {a i : Nat} {v : Option Nat} {t j : Nat} (h : t = 2 ∨ j ≠ i) : hV (sR S a i v) a t j = if j = i then va_rf v else hV S a t j := by
  by_cases e : j = i
  · rcases h with h | h
    · subst h; subst e; simp [hV, hR_sR]
    · exact absurd e h
  · unfold hV
    rw [hI_sR, hJ_sR, hR_sR, if_neg (fun z => e z.2), if_neg e]
