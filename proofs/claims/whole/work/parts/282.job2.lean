section JM
variable {A : Nat → Nat → Nat} {B : Nat → Nat × Nat} {S : Hp} {nc nw nm nj : Nat} {cw jc : Nat → Nat} {I : FI} {J : FJ} {R : FR} {xs : Nat → Int32} {L : Nat} {l4 : Int32}
variable {P : Nat → Prop} {T T' : Hp} {q k x : Nat} {L : Nat → Nat → Nat → Prop} {Q : Hp → Prop}
theorem s_AM {c0 i0 : Nat} (l : LB A B L T) (hc : c0 < 18) (kq : hK T q = 6) (hx : hK T x = 0) (hk : ∀ S2 T' u1 u2 A' B', T' = sR S2 q k (some x) → hK S2 q = 6 → LB A' B' (Lp (Lp (Lp L c0 i0 x) (c0 + 1) i0 u1) (c0 + 2) i0 u2) T' → Sq q k x T T' → AM1 T' x u1 u2 → Q S2) : wp_X0_init (sN T x 2 0) x Q := by
  have hqx : ¬ q = x := fun z => by rw [z, hx] at kq; exact absurd kq (by decide)
  have hxq : ¬ x = q := fun z => hqx z.symm
  unfold wp_X0_init
  intro w ew
  simp only [hK_sN, fr_if (show 2 ≠ 0 by decide)] at ew
  obtain ⟨hwx, hw⟩ := ew
  have hxw : ¬ x = w := fun z => hwx z.symm
  have hqw : ¬ q = w := fun z => by rw [z, hw] at kq; exact absurd kq (by decide)
  have hwq : ¬ w = q := fun z => hqw z.symm
  refine ⟨by simp [hK_sN, hxw], fun v ev => ?_⟩
  simp only [hK_sN, hK_sR, fr_if (show 2 ≠ 0 by decide), fr_if (show 15 ≠ 0 by decide)] at ev
  obtain ⟨hvw, hvx, hv⟩ := ev
  have hxv : ¬ x = v := fun z => hvx z.symm
  have hwv : ¬ w = v := fun z => hvw z.symm
  have hqv : ¬ q = v := fun z => by rw [z, hv] at kq; exact absurd kq (by decide)
  obtain ⟨A1, B1, l1⟩ := Lp.new (T' := sN T x 2 0) (c0 := c0) (i0 := i0) l hx (by omega) (by simp [hK_sN]) (fun a ha => by
    simp only [hK_sN]
    by_cases e : a = x
    · simp [e]
    · simp [e, ha])
  obtain ⟨A2, B2, l2⟩ := Lp.new (T' := sR (sN (sN T x 2 0) w 15 60) x 0 (some w)) (x := w) (c0 := c0 + 1) (i0 := i0) l1 (by simp [hK_sN, hwx, hw]) (by omega) (by simp [hK_sN, hK_sR]) (fun a ha => by
    simp only [hK_sN, hK_sR] at ha ⊢
    by_cases e : a = w
    · simp [e]
    · simp only [e, if_false]; exact ha)
  obtain ⟨A', B', l'⟩ := Lp.new (T' := sR (sR (sN (sR (sN (sN T x 2 0) w 15 60) x 0 (some w)) v 15 60) x 1 (some v)) q k (some x)) (x := v) (c0 := c0 + 2) (i0 := i0) l2 (by simp [hK_sN, hK_sR, hvw, hvx, hv]) (by omega) (by simp [hK_sN, hK_sR]) (fun a ha => by
    simp only [hK_sN, hK_sR] at ha ⊢
    by_cases e : a = v
    · simp [e]
    · simp only [e, if_false]; exact ha)
  refine ⟨by simp [hK_sN, hK_sR, hxv, hxw], hk _ _ w v A' B' rfl (by simp [hK_sN, hK_sR, hqv, hqw, hqx, kq]) l' ⟨⟨rfl, fun b hb => ?_⟩, fun p => ?_, fun p => ?_, fun p => ?_, ?_⟩ ⟨?_, ?_, ?_, ?_, ?_, ?_, ?_, ?_⟩⟩
  · have e : ¬ b = x := fun z => hb (by rw [z]; exact hx)
    have e2 : ¬ b = w := fun z => hb (by rw [z]; exact hw)
    have e3 : ¬ b = v := fun z => hb (by rw [z]; exact hv)
    exact ⟨by simp [hK_sN, hK_sR, e, e2, e3], by simp [hN_sN, hN_sR, e, e2, e3], fun hbq => ⟨fun j => by simp [hI_sN, hI_sR, e, e2, e3], fun j => by simp [hJ_sN, hJ_sR, e, e2, e3], fun j => by simp [hR_sN, hR_sR, e, e2, e3, hbq]⟩⟩
  · simp [hI_sN, hI_sR, hqx, hqw, hqv]
  · simp [hJ_sN, hJ_sR, hqx, hqw, hqv]
  · simp [hR_sN, hR_sR, hqx, hqw, hqv]
  · simp [hK_sN, hK_sR, hqx, hqw, hqv, kq]
  · simp [hK_sN, hK_sR, hxw, hxv]
  · simp [hR_sN, hR_sR, hxq, hxv]
  · simp [hR_sN, hR_sR, hxq]
  · simp [hI_sN, hI_sR]
  · simp [hK_sN, hK_sR]
  · simp [hN_sN, hN_sR]
  · simp [hK_sN, hK_sR]
  · simp [hN_sN, hN_sR]
theorem s_RC {i0 : Nat} (l : LB A B L T) (kq : hK T q = 6) (hx : hK T x = 0) (hk : ∀ S2 T' w A' B', T' = sR S2 q k (some x) → hK S2 q = 6 → LB A' B' (Lp (Lp L 14 i0 x) 15 i0 w) T' → Sq q k x T T' → RC1 T' x w → Q S2) : wp_X7_init (sN T x 9 0) x Q := by
  have hqx : ¬ q = x := fun z => by rw [z, hx] at kq; exact absurd kq (by decide)
  have hxq : ¬ x = q := fun z => hqx z.symm
  unfold wp_X7_init
  refine ⟨by simp [hK_sN], fun w ew => ?_⟩
  simp only [hK_sN, hK_sI, fr_if (show 9 ≠ 0 by decide)] at ew
  obtain ⟨hwx, hw⟩ := ew
  have hxw : ¬ x = w := fun z => hwx z.symm
  have hqw : ¬ q = w := fun z => by rw [z, hw] at kq; exact absurd kq (by decide)
  have hwq : ¬ w = q := fun z => hqw z.symm
  obtain ⟨A1, B1, l1⟩ := Lp.new (T' := sI (sN T x 9 0) x 0 0) (c0 := 14) (i0 := i0) l hx (by decide) (by simp [hK_sN, hK_sI]) (fun a ha => by
    simp only [hK_sN, hK_sI]
    by_cases e : a = x
    · simp [e]
    · simp [e, ha])
  obtain ⟨A', B', l'⟩ := Lp.new (T' := sR (sR (sN (sI (sN T x 9 0) x 0 0) w 15 30) x 3 (some w)) q k (some x)) (x := w) (c0 := 15) (i0 := i0) l1 (by simp [hK_sN, hK_sI, hwx, hw]) (by decide) (by simp [hK_sN, hK_sR]) (fun a ha => by
    simp only [hK_sN, hK_sR, hK_sI] at ha ⊢
    by_cases e : a = w
    · simp [e]
    · simp only [e, if_false]; exact ha)
  refine ⟨by simp [hK_sN, hK_sI, hxw], hk _ _ w A' B' rfl (by simp [hK_sN, hK_sR, hK_sI, hqw, hqx, kq]) l' ⟨⟨rfl, fun b hb => ?_⟩, fun p => ?_, fun p => ?_, fun p => ?_, ?_⟩ ⟨?_, ?_, ?_, ?_, ?_⟩⟩
  · have e : ¬ b = x := fun z => hb (by rw [z]; exact hx)
    have e2 : ¬ b = w := fun z => hb (by rw [z]; exact hw)
    exact ⟨by simp [hK_sN, hK_sR, hK_sI, e, e2], by simp [hN_sN, hN_sR, hN_sI, e, e2], fun hbq => ⟨fun j => by simp [hI_sN, hI_sR, hI_sI, e, e2], fun j => by simp [hJ_sN, hJ_sR, hJ_sI, e, e2], fun j => by simp [hR_sN, hR_sR, hR_sI, e, e2, hbq]⟩⟩
  · simp [hI_sN, hI_sR, hI_sI, hqx, hqw]
  · simp [hJ_sN, hJ_sR, hJ_sI, hqx, hqw]
  · simp [hR_sN, hR_sR, hR_sI, hqx, hqw]
  · simp [hK_sN, hK_sR, hK_sI, hqx, hqw, kq]
  · simp [hK_sN, hK_sR, hK_sI, hxw]
  · simp [hR_sN, hR_sR, hxq]
  · intro p; simp [hI_sN, hI_sR, hI_sI, hxw]
  · simp [hK_sN, hK_sR]
  · simp [hN_sN, hN_sR]
theorem s_TR {i0 : Nat} (l : LB A B L T) (kq : hK T q = 6) (hx : hK T x = 0) (hk : ∀ S2 T' A' B', T' = sR S2 q k (some x) → hK S2 q = 6 → LB A' B' (Lp L 16 i0 x) T' → Sq q k x T T' → TR1 T' x → Q S2) : wp_X10_init (sN T x 12 0) x Q := by
  have hqx : ¬ q = x := fun z => by rw [z, hx] at kq; exact absurd kq (by decide)
  have hxq : ¬ x = q := fun z => hqx z.symm
  unfold wp_X10_init wp_X10_wipe
  simp only [hK_sN, hK_sI, if_true, true_and, hqx, if_false, kq]
  obtain ⟨A', B', l'⟩ := Lp.new (T' := sR (sI (sI (sI (sI (sI (sI (sI (sI (sN T x 12 0) x 0 0) x 1 (-1)) x 2 (-1)) x 3 (-1)) x 4 0) x 5 0) x 6 0) x 7 0) q k (some x)) (c0 := 16) (i0 := i0) l hx (by decide) (by simp [hK_sN, hK_sI, hK_sR]) (fun a ha => by
    simp only [hK_sN, hK_sI, hK_sR]
    by_cases e : a = x
    · simp [e]
    · simp [e, ha])
  refine hk _ _ A' B' rfl (by simp [hK_sN, hK_sI, hK_sR, hqx, kq]) l' ⟨⟨rfl, fun b hb => ?_⟩, fun p => ?_, fun p => ?_, fun p => ?_, ?_⟩ ⟨?_, fun p hp => ?_⟩
  · have e : ¬ b = x := fun z => hb (by rw [z]; exact hx)
    refine ⟨by simp [hK_sN, hK_sI, hK_sR, e], by simp [hN_sN, hN_sI, hN_sR, e], fun hbq => ⟨fun j => by simp [hI_sN, hI_sI, hI_sR, e], fun j => by simp [hJ_sN, hJ_sI, hJ_sR, e], fun j => by simp [hR_sN, hR_sI, hR_sR, e, hbq]⟩⟩
  · simp [hI_sN, hI_sI, hI_sR, hqx]
  · simp [hJ_sN, hJ_sI, hJ_sR, hqx]
  · simp [hR_sN, hR_sI, hR_sR, hqx]
  · simp [hK_sN, hK_sI, hK_sR, hqx, kq]
  · simp [hK_sN, hK_sI, hK_sR]
  · have : p = 0 ∨ p = 1 ∨ p = 2 ∨ p = 3 ∨ p = 4 ∨ p = 5 ∨ p = 6 ∨ p = 7 := by omega
    rcases this with rfl | rfl | rfl | rfl | rfl | rfl | rfl | rfl <;> simp [hI_sN, hI_sI, hI_sR, wpd]
end JM
