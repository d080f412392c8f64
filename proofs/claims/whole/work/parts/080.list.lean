/-! ArrayList's own: an inherited field, the copy of an array of references -/
def FOK2 (own : String) (idx k i : Nat) : Prop := ∃ (C : String) (T : u_T) (N : Nat) (ty0 : Nat → FieldType) (ref : String), vwCl[k - 1]? = some (C, T, N) ∧ i < N ∧ N = (ksig k).length ∧ 1 ≤ k ∧ k ≤ 14 ∧ (∀ w ∈ u_ws C T N, w ∈ TS) ∧ Cond.fieldLink own idx ref (T i).2.1 (T i).2.2.1 ∈ TS ∧ Cond.sameField ref (T i).1 (T i).2.1 (T i).2.2.1 ∈ TS ∧ (∀ j, j < N → parseFieldDescriptor (T j).2.2.1 = some (ty0 j)) ∧ (∀ a, a < N → ∀ b, b < N → a ≠ b → (T a).2.1 ≠ (T b).2.1) ∧ (T i).2.2.2 = false ∧ ty0 i = .int
def sC (S : Hp) (q b n : Nat) : Hp := (S.1, S.2.1, S.2.2.1, S.2.2.2.1, fun c j => if c = q ∧ j < n then S.2.2.2.2.1 b j else S.2.2.2.2.1 c j, S.2.2.2.2.2)
theorem hK_sC (S : Hp) (q b n c : Nat) : hK (sC S q b n) c = hK S c := rfl
theorem hN_sC (S : Hp) (q b n c : Nat) : hN (sC S q b n) c = hN S c := rfl
theorem hI_sC (S : Hp) (q b n c j : Nat) : hI (sC S q b n) c j = hI S c j := rfl
theorem hJ_sC (S : Hp) (q b n c j : Nat) : hJ (sC S q b n) c j = hJ S c j := rfl
theorem hR_sC (S : Hp) (q b n c j : Nat) : hR (sC S q b n) c j = if c = q ∧ j < n then hR S b j else hR S c j := rfl
section ML
variable {p : Program} {l : Launch} {e : Env} {R : Room} {s : State} {m : MethodId} {args : Array Value} {below : List Frame} {meth : Method} {c : Code} {H : Heap} {locs : List Loc} {cells slots : Nat} {Q : State → Prop}
  {cc : ByteArray} {nL : Nat} {own : String} {ret : Option FieldType} {mn : String} {G : GX} {S : Hp} {pc : Nat} {ls : Array Slot} {rest : List Value} {a k i idx : Nat} {o : Option Nat}
theorem m_getI2 (C : Cx p s m args meth c cc nL own ret mn G) (hW : wd G S H) (ho : o = some a) (hk : hK S a = k) (hf : FOK2 own idx k i) (hs : (ksig k).getD i 0 = 0) (hdg : decode cc pc = .ok (.getfield idx, 3))
    (kk : W p l e R s m args below meth c H locs cells slots Q (F0 m (pc + 3) ls (.int (hI S a i) :: rest))) : W p l e R s m args below meth c H locs cells slots Q (F0 m pc ls (va_rf o :: rest)) := by
  subst ho
  obtain ⟨Cn, T, N, ty0, ref, hc, hi, hN, k1, k2, hin, hlk, hsm, -, -, -, -⟩ := hf
  obtain ⟨cell, q1, q2, q3, q4⟩ := hW.obj hk k1 k2
  obtain ⟨hS, hfc, kC, hkC, hkind⟩ := C.2.2.2.2.2.2.2.1.1 _ _ hc
  obtain ⟨cf, kf, fi, f, hfi, hsl⟩ := hS i hi
  refine W.getf C.1 C.2.1 C.2.2.2.1 (C.2.2.2.2.1 _ hlk) (u_same (C.2.2.2.2.1 _ hsm) _ hfi) (u_facts hfc hkC (u_lays C.2.2.2.2.1 hin hi) hfi).1 q1 (by rw [q3]; exact fun h => by cases h) (v := .int (hI S a i)) ?_ rfl rfl hdg kk
  rw [hsl, q4 i (by omega)]
  show some (hV S a ((ksig k).getD i 0) i) = _
  rw [hs]
  rfl
theorem m_putI2 (C : Cx p s m args meth c cc nL own ret mn G) (hW : wd G S H) (hS : va_S G.2.2.1 s.heap H locs) {x : Int32} (ho : o = some a) (hk : hK S a = k) (hf : FOK2 own idx k i) (hs : (ksig k).getD i 0 = 0) (hdg : decode cc pc = .ok (.putfield idx, 3))
    (kk : ∀ (H1 : Heap) (locs1 : List Loc), wd G (sI S a i x) H1 → va_S G.2.2.1 s.heap H1 locs1 → W p l e R s m args below meth c H1 locs1 cells slots Q (F0 m (pc + 3) ls rest)) : W p l e R s m args below meth c H locs cells slots Q (F0 m pc ls (.int x :: va_rf o :: rest)) := by
  subst ho
  obtain ⟨Cn, T, N, ty0, ref, hc, hi, hN, k1, k2, hin, hlk, hsm, hty, hnm, hfin, hok⟩ := hf
  obtain ⟨cell, q1, q2, q3, q4⟩ := hW.obj hk k1 k2
  obtain ⟨hSl, hfc, kC, hkC, hkind⟩ := C.2.2.2.2.2.2.2.1.1 _ _ hc
  obtain ⟨cf, kf, fi, f, hfi, hsl⟩ := hSl i hi
  have hts := C.2.2.2.2.1
  have hap : ∀ x y, x < N → y < N → x ≠ y → (G.1.2 (k - 1)) x ≠ (G.1.2 (k - 1)) y := by
    intro x y hx hy hne
    obtain ⟨_, _, _, fa, hia, ea⟩ := hSl x hx
    obtain ⟨_, _, _, fb, hib, eb⟩ := hSl y hy
    rw [← ea, ← eb]
    refine u_apart (u_lays hts hin hx) (u_lays hts hin hy) hia hib ?_
    rw [(State.fieldFound?_type hia (hty x hx)).1, (State.fieldFound?_type hib (hty y hy)).1]
    exact hnm x hx y hy hne
  have hlay := hts _ (hin _ (u_in_lay hi))
  unfold u_lay at hlay
  have hst := (u_facts hfc hkC (u_lays hts hin hi) hfi).1
  have hk0 : hK S a ≠ 0 := by rw [hk]; omega
  have hAa : G.2.2.1 a := (hW.2 a hk0).1 (by rw [hk]; omega)
  subst hN
  rw [if_neg (by rw [hfin]; decide)] at hlay
  have h6 := u_store (v := .int x) hfc hkC hkind hlay hfi (hty i hi) (by rw [hok]; rfl) (by rw [hok]; rfl)
  refine W.putK C.1 C.2.1 (f := f) ⟨C.2.2.2.1, hts _ hlk, ⟨_, _, _, u_same (hts _ hsm) _ hfi⟩, hst⟩ (by rw [q2]; exact h6) q1 q3 (by rw [hsl]; exact k2_hasslot (q4 i hi)) rfl rfl hdg fun H' g1 g2 g3 => ?_
  rw [hsl] at g1 ⊢
  refine kk H' _ (hW.put (S1 := sI S a i x) rfl (fun _ => rfl) (fun _ => rfl) (fun b t j h => hV_sI h) g3 (fun _ _ => ?_) (fun z => by rw [hk] at z; omega) (by rw [hk]; omega)) (hS.put g2 g3 hAa)
  rw [hk]
  refine t_OB.to (V := updV (fun j => hV S a ((ksig k).getD j 0) j) i (.int x)) ⟨_, g1, q2, q3, t_set q4 hap hi _⟩ (fun j _ => ?_)
  rw [hV_sIs (by by_cases e : j = i; exact Or.inl (by rw [e]; exact hs); exact Or.inr e)]
  rfl
/-- System.arraycopy(b, 0, q, 0, n) of Object[] that hold Jobs -/
theorem m_copy (C : Cx p s m args meth c cc nL own ret mn G) (hW : wd G S H) (hS : va_S G.2.2.1 s.heap H locs) (hL : LV ls nL) {b q : Nat} {n : Int32} (hb : hK S b = 20) (hq : hK S q = 20) (h3 : ¬ n < 0) (h4 : n.toNatClampNeg ≤ hN S b) (h5 : n.toNatClampNeg ≤ hN S q) (hel : ∀ i : Nat, i < n.toNatClampNeg → ∀ y : Nat, hR S b i = some y → hK S y = 6)
    (w1 : Cond.methodLink own idx arraycopyName ∈ TS) (w2 : Cond.native arraycopyName ∈ TS) (w3 : Cond.static arraycopyName ∈ TS) (w4 : Cond.initialized "java/lang/System" ∈ TS)
    (hro : 1 ≤ R.frames ∧ 40 ≤ R.locals) (hr : (rest.map fun v => v.category).sum ≤ 8) (hdg : decode cc pc = .ok (.invokestatic idx, 3))
    (kk : ∀ (H1 : Heap) (locs1 : List Loc), wd G (sC S q b n.toNatClampNeg) H1 → va_S G.2.2.1 s.heap H1 locs1 → W p l e R s m args below meth c H1 locs1 cells slots Q (F0 m (pc + 3) ls rest)) : W p l e R s m args below meth c H locs cells slots Q (F0 m pc ls (.int n :: .int 0 :: va_rf (some q) :: .int 0 :: va_rf (some b) :: rest)) := by
  have nn : ∀ z : Int32, ¬ z < 0 → z.toInt = (z.toNatClampNeg : Int) := by
    intro z hz
    have hz0 : (0 : Int) ≤ z.toInt := by
      have := Int32.not_lt.mp hz
      simpa using Int32.le_iff_toInt_le.mp this
    show z.toInt = ((z.toInt.toNat : Nat) : Int)
    omega
  have hts := C.2.2.2.2.1
  have hKA := C.2.2.2.2.2.2.2.1.2 20 (by decide) (by decide)
  have hc0 := hW.arr hb (by decide) (by decide)
  have hc1 := hW.arr hq (by decide) (by decide)
  intro T hT X
  obtain ⟨-, k1, hk1, cm1, hkk1⟩ := hKA.1 (hN S b) (fun j => hV S b (kty 20) j)
  obtain ⟨vm', X', step⟩ := X.arraycopy C.1 C.2.2.2.1 (hts _ w1) (hts _ w2) (hts _ w3) (hts _ w4) (src := b) (dst := q) (cs := arrV (G.2.1 20) (hN S b) (fun j => hV S b (kty 20) j)) (cd := arrV (G.2.1 20) (hN S q) (fun j => hV S q (kty 20) j)) (srcPos := 0) (destPos := 0) (n := n) (by rw [hT]; exact hc0) (by rw [hT]; exact hc1)
    (fun _ h => by cases h) (fun _ h => by cases h) (fun h => by cases h) (fun h => by cases h) hk1 hk1 hkk1 hkk1 rfl (by decide) (by decide) h3
    (by rw [nn n h3]; show ¬ (0 : Int) + _ > ((arrV _ _ _).slots.size : Int); rw [arrV_size]; omega)
    (by rw [nn n h3]; show ¬ (0 : Int) + _ > ((arrV _ _ _).slots.size : Int); rw [arrV_size]; omega)
    (fun vm₁ hal i hi => by
      have e : (arrV (G.2.1 20) (hN S b) (fun j => hV S b (kty 20) j)).slots.getD ((0 : Int32).toNatClampNeg + i) .null = va_rf (hR S b i) := by
        rw [Array.getD_eq_getD_getElem?, show (0 : Int32).toNatClampNeg + i = i from Nat.zero_add i, arrV_read _ _ (by omega)]
        rfl
      rw [e]
      cases hy : hR S b i with
      | none => exact ⟨rfl, trivial⟩
      | some y =>
        obtain ⟨cellV, g1, g2, g3, -⟩ := hW.obj (hel i hi y hy) (by decide) (by decide)
        have hcls := (C.2.2.2.2.2.2.2.1.1 5 _ rfl).2
        obtain ⟨kA, comp, r1, r2, r3, -⟩ := hKA.2
        cases hk1.symm.trans r1
        cases hkk1.symm.trans r2
        obtain ⟨kC, hkC, -⟩ := hcls.2
        obtain ⟨kE, hkE, -⟩ := Vm.findClass_spec r3
        obtain ⟨kC', hkC', -⟩ := hal.2.2 _ _ hkC
        obtain ⟨kE', hkE', -⟩ := hal.2.2 _ _ hkE
        obtain ⟨c0, t1, f1, f2, f3⟩ := Cond.castable_spec (va_Nw.use (A := args) rfl C.2.2.2.2.2.2.2.2.2.1.2.2.2.2.2.1)
        cases hcls.1.symm.trans f1
        cases r3.symm.trans f2
        refine ⟨rfl, cellV, (show T.heap[y]? = some cellV by rw [hT]; exact g1), (fun q h => by rw [g3] at h; cases h), ⟨kC', by rw [g2]; exact hkC'⟩, ⟨kE', hkE'⟩, ?_⟩
        show vm₁.assignable _ _ = true
        rw [hal.assignable, g2]
        exact f3)
    (g := F0 m pc ls (.int n :: .int 0 :: .ref q :: .int 0 :: .ref b :: rest)) rfl (hL.1.trans C.2.2.1.symm) (rest := rest) rfl (by rw [C.2.1]; exact hdg) hro.1 (by have h9 : nativeFrameWords "java/lang/System" "arraycopy" 5 + 11 ≤ 32 := (by decide); show 2 * 0 + _ + _ ≤ _; have := hro.2; omega)
  have e1 : copied (arrV (G.2.1 20) (hN S b) (fun j => hV S b (kty 20) j)) (arrV (G.2.1 20) (hN S q) (fun j => hV S q (kty 20) j)) 0 0 n = arrV (G.2.1 20) (hN S q) (fun j => hV (sC S q b n.toNatClampNeg) q (kty 20) j) := by
    have h := va_copied (n1 := hN S q) (sp := (0 : Int32).toNatClampNeg) (dp := (0 : Int32).toNatClampNeg) (fun z : Option Nat => va_rf z) (G.2.1 20) (G.2.1 20) (hR S b) (hR S q) (show (0 : Int32).toNatClampNeg + n.toNatClampNeg ≤ hN S b by rw [show (0 : Int32).toNatClampNeg = 0 from rfl]; omega)
    refine h.trans ?_
    congr 1
    funext j
    show va_rf _ = va_rf _
    rw [hR_sC, show (0 : Int32).toNatClampNeg = 0 from rfl]
    unfold va_cpy
    by_cases hj : j < n.toNatClampNeg
    · rw [if_pos ⟨Nat.zero_le _, by omega⟩, if_pos ⟨rfl, hj⟩, Nat.zero_add, Nat.sub_zero]
    · rw [if_neg (by omega), if_neg (fun z => hj z.2)]
  rw [e1] at X' step
  have hl : q < H.size := (Array.getElem?_eq_some_iff.mp hc1).1
  have hheap : ((T.setVm vm').setCell q (arrV (G.2.1 20) (hN S q) (fun j => hV (sC S q b n.toNatClampNeg) q (kty 20) j))).heap = H.setIfInBounds q (arrV (G.2.1 20) (hN S q) (fun j => hV (sC S q b n.toNatClampNeg) q (kty 20) j)) := by rw [← hT]; rfl
  have oq : ∀ z : Nat, z ≠ q → (H.setIfInBounds q (arrV (G.2.1 20) (hN S q) (fun j => hV (sC S q b n.toNatClampNeg) q (kty 20) j)))[z]? = H[z]? := fun z hz => by simp [Array.getElem?_setIfInBounds, Ne.symm hz]
  have hAq : G.2.2.1 q := (hW.2 q (by rw [hq]; decide)).1 (by rw [hq]; decide)
  obtain ⟨t, a1, b1⟩ := kk _ _ (hW.put (S1 := sC S q b n.toNatClampNeg) rfl (fun _ => rfl) (fun _ => rfl) (fun z t j hz => by unfold hV; rw [hI_sC, hJ_sC, hR_sC, if_neg (fun y => hz y.1)]) oq (fun _ z => by rw [hq] at z; omega) (fun _ => by rw [hq]; simp [Array.getElem?_setIfInBounds, hl]) (by rw [hq]; decide)) ⟨by simp; exact hS.1, fun z g1 g2 => by
      rw [oq z (fun e => g2 (by rw [e]; exact hAq))]
      exact hS.2.1 z g1 g2, fun z hz => by
      rcases List.mem_append.mp hz with h | h
      · exact hS.2.2 z h
      · obtain ⟨z9, -, hz9⟩ := List.mem_map.mp h
        rw [← hz9]
        exact hAq⟩ _ hheap X'
  exact ⟨t, step t a1, b1⟩
end ML
