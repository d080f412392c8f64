section JN
variable {A : Nat → Nat → Nat} {B : Nat → Nat × Nat} {S : Hp} {nc nw nm nj : Nat} {cw jc : Nat → Nat} {I : FI} {J : FJ} {R : FR} {xs : Nat → Int32} {L : Nat} {l4 : Int32}
theorem fr_if {y x k n : Nat} (hk : k ≠ 0) : (if y = x then k else n) = 0 ↔ ¬ y = x ∧ n = 0 := by
  by_cases e : y = x
  · simp [e, hk]
  · simp [e]
theorem Kp.wI {T T' : Hp} {a i : Nat} {v : Int32} (h : Kp T T') (ha : hK T a = 0) : Kp T (sI T' a i v) := ⟨h.1, fun b hb => by
  obtain ⟨h1, h2, h3⟩ := h.2 b hb
  refine ⟨h1, h2, fun _ => ?_⟩
  obtain ⟨h4, h5, h6⟩ := h3 id
  refine ⟨fun j => ?_, h5, h6⟩
  rw [hI_sI, if_neg (fun z => hb (by rw [z.1]; exact ha))]; exact h4 j⟩
theorem Kp.wR {T T' : Hp} {a i : Nat} {v : Option Nat} (h : Kp T T') (ha : hK T a = 0) : Kp T (sR T' a i v) := ⟨h.1, fun b hb => by
  obtain ⟨h1, h2, h3⟩ := h.2 b hb
  refine ⟨h1, h2, fun _ => ?_⟩
  obtain ⟨h4, h5, h6⟩ := h3 id
  refine ⟨h4, h5, fun j => ?_⟩
  rw [hR_sR, if_neg (fun z => hb (by rw [z.1]; exact ha))]; exact h6 j⟩
/-- one more name -/
def Lp (L : Nat → Nat → Nat → Prop) (c0 i0 a : Nat) : Nat → Nat → Nat → Prop := fun c i x => c = c0 ∧ i = i0 ∧ x = a ∨ L c i x ∧ ¬ (c = c0 ∧ i = i0)
/-- only the cell q is written, at the reference k -/
def Sq (q k x : Nat) (T T' : Hp) : Prop := On (fun b => b = q) T T' ∧ (∀ p, hI T' q p = hI T q p) ∧ (∀ p, hJ T' q p = hJ T q p) ∧ (∀ p, hR T' q p = if p = k then some x else hR T q p) ∧ hK T' q = 6
def AL1 (T : Hp) (b : Nat) : Prop := hK T b = 1 ∧ hI T b 2 = 0 ∧ hR T b 1 = some (hT T)
def JS1 (T : Hp) (s w : Nat) : Prop := hK T s = 7 ∧ hR T s 0 = some w ∧ hK T w = 16 ∧ hN T w = 4 ∧ ∀ p, hJ T w p = 0
def AM1 (T : Hp) (u u1 u2 : Nat) : Prop := hK T u = 2 ∧ hR T u 0 = some u1 ∧ hR T u 1 = some u2 ∧ hI T u 2 = 0 ∧ hK T u1 = 15 ∧ hN T u1 = 60 ∧ hK T u2 = 15 ∧ hN T u2 = 60
def RC1 (T : Hp) (r m : Nat) : Prop := hK T r = 9 ∧ hR T r 3 = some m ∧ (∀ p, hI T r p = 0) ∧ hK T m = 15 ∧ hN T m = 30
def TR1 (T : Hp) (t : Nat) : Prop := hK T t = 12 ∧ ∀ p, p < 8 → hI T t p = wpd p
variable {P : Nat → Prop} {T T' : Hp} {q k x : Nat} {L : Nat → Nat → Nat → Prop} {Q : Hp → Prop}
theorem AL1.on {b : Nat} (h : AL1 T b) (o : On P T T') (hp : ¬ P b) : AL1 T' b := ⟨o.k h.1 (by decide), (o.i h.1 (by decide) hp 2).trans h.2.1, by rw [o.r h.1 (by decide) hp 1, o.1]; exact h.2.2⟩
theorem JS1.on {s w : Nat} (h : JS1 T s w) (o : On P T T') (hp : ¬ P s) (hw : ¬ P w) : JS1 T' s w := ⟨o.k h.1 (by decide), (o.r h.1 (by decide) hp 0).trans h.2.1, o.k h.2.2.1 (by decide), (o.n h.2.2.1 (by decide)).trans h.2.2.2.1, fun p => (o.j h.2.2.1 (by decide) hw p).trans (h.2.2.2.2 p)⟩
theorem AM1.on {u u1 u2 : Nat} (h : AM1 T u u1 u2) (o : On P T T') (hp : ¬ P u) : AM1 T' u u1 u2 := by
  obtain ⟨h1, h2, h3, h4, h5, h6, h7, h8⟩ := h
  exact ⟨o.k h1 (by decide), (o.r h1 (by decide) hp 0).trans h2, (o.r h1 (by decide) hp 1).trans h3, (o.i h1 (by decide) hp 2).trans h4, o.k h5 (by decide), (o.n h5 (by decide)).trans h6, o.k h7 (by decide), (o.n h7 (by decide)).trans h8⟩
theorem RC1.on {r m : Nat} (h : RC1 T r m) (o : On P T T') (hp : ¬ P r) : RC1 T' r m := ⟨o.k h.1 (by decide), (o.r h.1 (by decide) hp 3).trans h.2.1, fun p => (o.i h.1 (by decide) hp p).trans (h.2.2.1 p), o.k h.2.2.2.1 (by decide), (o.n h.2.2.2.1 (by decide)).trans h.2.2.2.2⟩
theorem TR1.on {t : Nat} (h : TR1 T t) (o : On P T T') (hp : ¬ P t) : TR1 T' t := ⟨o.k h.1 (by decide), fun p hp2 => (o.i h.1 (by decide) hp p).trans (h.2 p hp2)⟩
theorem Lp.new (l : LB A B L T) {c0 i0 : Nat} (hx : hK T x = 0) (hc : c0 < 20) (hk : hK T' x ≠ 0) (hT : ∀ a, hK T a ≠ 0 → hK T' a ≠ 0) : ∃ A' B', LB A' B' (Lp L c0 i0 x) T' := l.new2 hx hc hk hT
theorem s_AL {c0 i0 : Nat} (l : LB A B L T) (hc : c0 < 20) (kq : hK T q = 6) (hx : hK T x = 0) (hk : ∀ S2 T' A' B', T' = sR S2 q k (some x) → hK S2 q = 6 → LB A' B' (Lp L c0 i0 x) T' → Sq q k x T T' → AL1 T' x → Q S2) : wp_Jx4a65c_init_da8c8 (sN T x 1 0) x Q := by
  have hqx : ¬ q = x := fun z => by rw [z, hx] at kq; exact absurd kq (by decide)
  have hxq : ¬ x = q := fun z => hqx z.symm
  unfold wp_Jx4a65c_init_da8c8 wp_Jxc12de_init_da8c8 wp_Jxa1e45_init_da8c8
  simp only [hK_sN, hK_sI, hK_sR, hT_sI, hT_sN, if_true, all_def, true_and, hqx, if_false, kq]
  obtain ⟨A', B', l'⟩ := Lp.new (T' := sR (sR (sI (sN T x 1 0) x 0 0) x 1 (some (hT T))) q k (some x)) (c0 := c0) (i0 := i0) l hx hc (by simp [hK_sN, hK_sI, hK_sR]) (fun a ha => by
    simp only [hK_sN, hK_sI, hK_sR]
    by_cases e : a = x
    · simp [e]
    · simp [e, ha])
  refine hk _ _ A' B' rfl (by simp [hK_sN, hK_sI, hK_sR, hqx, kq]) l' ⟨⟨rfl, fun b hb => ?_⟩, fun p => ?_, fun p => ?_, fun p => ?_, ?_⟩ ⟨?_, ?_, ?_⟩
  · have e : ¬ b = x := fun z => hb (by rw [z]; exact hx)
    refine ⟨by simp [hK_sN, hK_sI, hK_sR, e], by simp [hN_sN, hN_sI, hN_sR, e], fun hbq => ⟨fun j => by simp [hI_sN, hI_sI, hI_sR, e], fun j => by simp [hJ_sN, hJ_sI, hJ_sR, e], fun j => by simp [hR_sN, hR_sI, hR_sR, e, hbq]⟩⟩
  · simp [hI_sN, hI_sI, hI_sR, hqx]
  · simp [hJ_sN, hJ_sI, hJ_sR, hqx]
  · simp [hR_sN, hR_sI, hR_sR, hqx]
  · simp [hK_sN, hK_sI, hK_sR, hqx, kq]
  · simp [hK_sN, hK_sI, hK_sR]
  · simp [hI_sN, hI_sI, hI_sR]
  · simp [hR_sN, hR_sI, hR_sR, hxq, hT_sN, hT_sI, hT_sR]
theorem s_JS {i0 : Nat} (l : LB A B L T) (kq : hK T q = 6) (hx : hK T x = 0) (hk : ∀ S2 T' w A' B', T' = sR S2 q k (some x) → hK S2 q = 6 → LB A' B' (Lp (Lp L 6 i0 x) 7 i0 w) T' → Sq q k x T T' → JS1 T' x w → hK T w = 0 → Q S2) : wp_X5_init (sN T x 7 0) x Q := by
  have hqx : ¬ q = x := fun z => by rw [z, hx] at kq; exact absurd kq (by decide)
  have hxq : ¬ x = q := fun z => hqx z.symm
  unfold wp_X5_init
  intro w ew
  simp only [hK_sN, fr_if (show 7 ≠ 0 by decide)] at ew
  obtain ⟨hwx, hw⟩ := ew
  have hxw : ¬ x = w := fun z => hwx z.symm
  have hqw : ¬ q = w := fun z => by rw [z, hw] at kq; exact absurd kq (by decide)
  have hwq : ¬ w = q := fun z => hqw z.symm
  obtain ⟨A1, B1, l1⟩ := Lp.new (T' := sN T x 7 0) (c0 := 6) (i0 := i0) l hx (by decide) (by simp [hK_sN]) (fun a ha => by
    simp only [hK_sN]
    by_cases e : a = x
    · simp [e]
    · simp [e, ha])
  obtain ⟨A', B', l'⟩ := Lp.new (T' := sR (sR (sN (sN T x 7 0) w 16 4) x 0 (some w)) q k (some x)) (x := w) (c0 := 7) (i0 := i0) l1 (by simp [hK_sN, hwx, hw]) (by decide) (by simp [hK_sN, hK_sR]) (fun a ha => by
    simp only [hK_sN, hK_sR] at ha ⊢
    by_cases e : a = w
    · simp [e]
    · simp only [e, if_false]; exact ha)
  refine ⟨by simp [hK_sN, hxw], hk _ _ w A' B' rfl (by simp [hK_sN, hK_sR, hqw, hqx, kq]) l' ⟨⟨rfl, fun b hb => ?_⟩, fun p => ?_, fun p => ?_, fun p => ?_, ?_⟩ ⟨?_, ?_, ?_, ?_, ?_⟩ hw⟩
  · have e : ¬ b = x := fun z => hb (by rw [z]; exact hx)
    have e2 : ¬ b = w := fun z => hb (by rw [z]; exact hw)
    exact ⟨by simp [hK_sN, hK_sR, e, e2], by simp [hN_sN, hN_sR, e, e2], fun hbq => ⟨fun j => by simp [hI_sN, hI_sR, e, e2], fun j => by simp [hJ_sN, hJ_sR, e, e2], fun j => by simp [hR_sN, hR_sR, e, e2, hbq]⟩⟩
  · simp [hI_sN, hI_sR, hqx, hqw]
  · simp [hJ_sN, hJ_sR, hqx, hqw]
  · simp [hR_sN, hR_sR, hqx, hqw]
  · simp [hK_sN, hK_sR, hqx, hqw, kq]
  · simp [hK_sN, hK_sR, hxw]
  · simp [hR_sN, hR_sR, hxq]
  · simp [hK_sN, hK_sR]
  · simp [hN_sN, hN_sR]
  · simp [hJ_sN, hJ_sR]
end JN
