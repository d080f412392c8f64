/-- a class that is made: kind k by an entry of 'own' -/
def NOK (own : String) (idx k : Nat) : Prop := ∃ (C : String) (T : u_T) (N : Nat) (ty0 : Nat → FieldType), vwCl[k - 1]? = some (C, T, N) ∧ N = (ksig k).length ∧ 1 ≤ k ∧ k ≤ 14 ∧ (∀ w ∈ u_ws C T N, w ∈ TS) ∧ (∀ j, j < N → parseFieldDescriptor (T j).2.2.1 = some (ty0 j)) ∧ Cond.classLink own idx C ∈ TS ∧ Cond.instantiable C N ∈ TS ∧ Cond.initialized C ∈ TS ∧ ∀ j, j < N → defaultValue (ty0 j) = (match (ksig k).getD j 0 with | 0 => .int 0 | 1 => .long 0 | _ => .null : Value)
theorem hV_new {S : Hp} {q k n t j : Nat} : hV (sN S q k n) q t j = (match t with | 0 => .int 0 | 1 => .long 0 | _ => .null : Value) := by
  unfold hV
  rw [hI_sN, hJ_sN, hR_sN, if_pos rfl, if_pos rfl, if_pos rfl]
  rfl
section MR2
variable {p : Program} {l : Launch} {e : Env} {R : Room} {s : State} {m : MethodId} {args : Array Value} {below : List Frame} {meth : Method} {c : Code} {H : Heap} {locs : List Loc} {cells slots : Nat} {Q : State → Prop}
  {cc : ByteArray} {nL : Nat} {own : String} {ret : Option FieldType} {mn : String} {G : GX} {S : Hp} {pc : Nat} {ls : Array Slot} {rest : List Value} {a k i idx : Nat} {o : Option Nat}
theorem m_vaS {H1 : Heap} (hS : va_S G.2.2.1 s.heap H locs) (z1 : H1.size = H.size + 1) (o1 : ∀ q, q < H.size → H1[q]? = H[q]?) : va_S G.2.2.1 s.heap H1 locs :=
  ⟨Nat.le_trans hS.1 (by omega), fun x h1 h2 => (o1 x (Nat.lt_of_lt_of_le h1 hS.1)).trans (hS.2.1 x h1 h2), hS.2.2⟩
theorem m_new (C : Cx p s m args meth c cc nL own ret mn G) (hW : wd G S H) (hS : va_S G.2.2.1 s.heap H locs) (hf : NOK own idx k) (hcells : cells + 1 ≤ R.cells) (hslots : slots + (ksig k).length ≤ R.slots) (hdg : decode cc pc = .ok (.new idx, 3))
    (kk : ∀ (q : Nat) (H1 : Heap), hK S q = 0 → wd G (sN S q k 0) H1 → va_S G.2.2.1 s.heap H1 locs → W p l e R s m args below meth c H1 locs (cells + 1) (slots + (ksig k).length) Q (F0 m (pc + 3) ls (va_rf (some q) :: rest))) : W p l e R s m args below meth c H locs cells slots Q (F0 m pc ls rest) := by
  obtain ⟨Cn, T, N, ty0, hc, hN, k1, k2, hin, hty, w1, w2, w3, hdf⟩ := hf
  have hts := C.2.2.2.2.1
  have hKn := C.2.2.2.2.2.2.2.1.1 _ _ hc
  subst hN
  refine W.newcK C.1 C.2.1 C.2.2.2.1 (hts _ w1) (hts _ w2) (hts _ w3) rfl hdg hcells hslots hKn.2.1 rfl fun H1 kC hkC e1 z1 o1 => ?_
  have hA : G.2.2.1 H.size := C.2.2.2.2.2.2.2.2.1 _ hS.1
  refine kk H.size H1 hW.new (hW.make hA k1 (by omega) o1 (fun _ => ?_) (fun z => by omega)) (m_vaS hS z1 o1)
  exact (u_born ty0 hts hin hKn hkC e1 hty).to (fun j hj => by rw [hV_new]; exact hdf j hj)
theorem m_newa (C : Cx p s m args meth c cc nL own ret mn G) (hW : wd G S H) (hS : va_S G.2.2.1 s.heap H locs) {atype : ArrayType} {n : Int32} {N : Nat} (hk : (k = 15 ∧ atype = .int) ∨ (k = 16 ∧ atype = .long) ∨ (k = 17 ∧ atype = .boolean)) (hw : Cond.arrayClass (newarray.typeOf atype) ∈ TS) (hn : ¬ n < 0) (hN : n.toNatClampNeg = N) (hb : N ≤ 65536) (hcells : cells + 1 ≤ R.cells) (hslots : slots + N ≤ R.slots) (hdg : decode cc pc = .ok (.newarray atype, 2))
    (kk : ∀ (q : Nat) (H1 : Heap), hK S q = 0 → wd G (sN S q k N) H1 → va_S G.2.2.1 s.heap H1 locs → W p l e R s m args below meth c H1 locs (cells + 1) (slots + N) Q (F0 m (pc + 2) ls (va_rf (some q) :: rest))) : W p l e R s m args below meth c H locs cells slots Q (F0 m pc ls (.int n :: rest)) := by
  have hA : G.2.2.1 H.size := C.2.2.2.2.2.2.2.2.1 _ hS.1
  have hRA := C.2.2.2.2.2.2.2.1.2 k (by omega) (by omega)
  refine va_newaK C.1 C.2.1 (C.2.2.2.2.1 _ hw) rfl hdg rfl hn hN (by rcases hk with ⟨-, rfl⟩ | ⟨-, rfl⟩ | ⟨-, rfl⟩ <;> simp [newarray.typeOf, componentBytes] <;> omega) hcells hslots rfl fun H1 cA e1 z1 o1 hAr hNm => ?_
  have hcA : cA = G.2.1 k := by
    have h := hRA.2
    rcases hk with ⟨rfl, rfl⟩ | ⟨rfl, rfl⟩ | ⟨rfl, rfl⟩ <;> exact Option.some.inj (hNm.symm.trans h)
  subst hcA
  refine kk H.size H1 hW.new (hW.make hA (by omega) (by omega) o1 (fun z => by omega) (fun _ => ?_)) (m_vaS hS z1 o1)
  rw [e1]
  congr 2
  funext j
  rw [hV_new]
  rcases hk with ⟨rfl, rfl⟩ | ⟨rfl, rfl⟩ | ⟨rfl, rfl⟩ <;> rfl
theorem m_anew (C : Cx p s m args meth c cc nL own ret mn G) (hW : wd G S H) (hS : va_S G.2.2.1 s.heap H locs) {Cn : String} {n : Int32} {N : Nat} (h1 : 18 ≤ k) (h2 : k ≤ 20) (hC : kft k = .object Cn) (hao : Cn ∈ [RX2, RX4, "java/lang/Object"]) (hw : Cond.classLink own idx Cn ∈ TS) (hn : ¬ n < 0) (hN : n.toNatClampNeg = N) (hb : N ≤ 65536) (hcells : cells + 1 ≤ R.cells) (hslots : slots + N ≤ R.slots) (hdg : decode cc pc = .ok (.anewarray idx, 3))
    (kk : ∀ (q : Nat) (H1 : Heap), hK S q = 0 → wd G (sN S q k N) H1 → va_S G.2.2.1 s.heap H1 locs → W p l e R s m args below meth c H1 locs (cells + 1) (slots + N) Q (F0 m (pc + 3) ls (va_rf (some q) :: rest))) : W p l e R s m args below meth c H locs cells slots Q (F0 m pc ls (.int n :: rest)) := by
  have hA : G.2.2.1 H.size := C.2.2.2.2.2.2.2.2.1 _ hS.1
  have hRA := (C.2.2.2.2.2.2.2.1.2 k (by omega) (by omega)).2
  rw [hC] at hRA
  obtain ⟨kA0, comp0, -, -, -, r4⟩ := hRA
  subst hN
  refine W.anew C.1 C.2.1 C.2.2.2.1 (C.2.2.2.2.1 _ hw) (va_AO.use (C.2.2.2.2.2.2.2.2.2.1.2.2.2.2.1 Cn hao)) rfl hdg rfl hn (by omega) hcells hslots fun cA kA comp f1 f2 f3 f4 => ?_
  have hcA : cA = G.2.1 k := Option.some.inj (f1.symm.trans r4)
  subst hcA
  generalize hH1 : H.push ({ cls := G.2.1 k, slots := Array.replicate n.toNatClampNeg .null, vm := .none } : Cell) = H1
  have z1 : H1.size = H.size + 1 := by rw [← hH1, Array.size_push]
  have e1 : H1[H.size]? = some (arrV (G.2.1 k) n.toNatClampNeg (fun _ => .null)) := by rw [← hH1, Array.getElem?_push_size, ← arrV_new]
  have o1 : ∀ q : Nat, q < H.size → H1[q]? = H[q]? := fun q hq => by rw [← hH1, Array.getElem?_push, if_neg (Nat.ne_of_lt hq)]
  refine kk H.size H1 hW.new (hW.make hA (by omega) (by omega) o1 (fun z => by omega) (fun _ => ?_)) (m_vaS hS z1 o1)
  rw [e1]
  congr 2
  funext j
  rw [hV_new, kty_ref h1]
  rfl
/-- the constructor of Object -/
theorem m_obj (C : Cx p s m args meth c cc nL own ret mn G) (h1 : Cond.methodLink own idx Lib.objectInit ∈ TS) (h2 : Cond.instanceMethod Lib.objectInit ∈ TS) (h3 : Cond.code Lib.objectInit ⟨#[0xb1]⟩ 1 none ∈ TS) (hsz : ls.size = nL) (hro : 1 ≤ R.frames ∧ 20 ≤ R.locals) (hr : (rest.map fun v => v.category).sum ≤ 8) (ho : o = some a) (hdg : decode cc pc = .ok (.invokespecial idx, 3))
    (kk : W p l e R s m args below meth c H locs cells slots Q (F0 m (pc + 3) ls rest)) : W p l e R s m args below meth c H locs cells slots Q (F0 m pc ls (va_rf o :: rest)) := by
  subst ho
  refine W.objInit C.1 C.2.1 C.2.2.2.1 (C.2.2.2.2.1 _ h1) (C.2.2.2.2.1 _ h2) (C.2.2.2.2.1 _ h3) rfl (hsz.trans C.2.2.1.symm) rfl hdg hro.1 ?_ kk
  have := lv_room (m := m) (pc := pc) (ls := ls) (rest := va_rf (some a) :: rest) hr
  exact Nat.le_trans (Nat.add_le_add_right this 12) hro.2
/-! locals -/
theorem m_st1 {v : Value} (hs : ls.size = nL) (hwf : lv_wf ls) (hi : i < nL) (hc : v.category = 1) : ∃ ls' : Array Slot, storeLocals ls i v = some ls' ∧ (ls'.size = nL ∧ lv_wf ls') ∧ ls'[i]? = some (.val v) ∧ ∀ (j : Nat) (w : Value), ls[j]? = some (.val w) → j ≠ i → (j + 1 ≠ i ∨ w.category = 1) → ls'[j]? = some (.val w) := by
  obtain ⟨ls', e1, h1⟩ := lv_store1 (l := []) (v := v) ⟨hs, hwf, fun _ h => by cases h⟩ hi hc
  refine ⟨ls', e1, ⟨h1.1, h1.2.1⟩, h1.2.2 (i, v) (by simp), fun j w hj hne hcat => ?_⟩
  obtain ⟨ls2, e2, h2⟩ := lv_store1 (l := [(j, w)]) (v := v) ⟨hs, hwf, fun q h => by rw [List.mem_singleton.mp h]; exact hj⟩ hi hc
  cases e1.symm.trans e2
  refine h2.2.2 (j, w) (List.mem_cons_of_mem _ (List.mem_filter.mpr ⟨List.mem_singleton.mpr rfl, ?_⟩))
  rcases hcat with h | h
  · simp [hne, h]
  · simp [hne, h]
theorem m_st2 {v : Value} (hs : ls.size = nL) (hwf : lv_wf ls) (hi : i + 1 < nL) (hc : v.category = 2) : ∃ ls' : Array Slot, storeLocals ls i v = some ls' ∧ (ls'.size = nL ∧ lv_wf ls') ∧ ls'[i]? = some (.val v) ∧ ∀ (j : Nat) (w : Value), ls[j]? = some (.val w) → j ≠ i → j ≠ i + 1 → (j + 1 ≠ i ∨ w.category = 1) → ls'[j]? = some (.val w) := by
  obtain ⟨ls', e1, h1⟩ := lv_store2 (l := []) (v := v) ⟨hs, hwf, fun _ h => by cases h⟩ hi hc
  refine ⟨ls', e1, ⟨h1.1, h1.2.1⟩, h1.2.2 (i, v) (by simp), fun j w hj hne hne2 hcat => ?_⟩
  obtain ⟨ls2, e2, h2⟩ := lv_store2 (l := [(j, w)]) (v := v) ⟨hs, hwf, fun q h => by rw [List.mem_singleton.mp h]; exact hj⟩ hi hc
  cases e1.symm.trans e2
  refine h2.2.2 (j, w) (List.mem_cons_of_mem _ (List.mem_filter.mpr ⟨List.mem_singleton.mpr rfl, ?_⟩))
  rcases hcat with h | h
  · simp [hne, hne2, h]
  · simp [hne, hne2, h]
def LV (ls : Array Slot) (nL : Nat) : Prop := ls.size = nL ∧ lv_wf ls
theorem m_istN (C : Cx p s m args meth c cc nL own ret mn G) (hL : LV ls nL) {kf : Fin 4} {x : Int32} (hdg : decode cc pc = .ok (.istore_n kf, 1)) (hi : (kf : Nat) = i) (hn : i < nL)
    (kk : ∀ ls' : Array Slot, LV ls' nL → ls'[i]? = some (.val (.int x)) → (∀ (j : Nat) (w : Value), ls[j]? = some (.val w) → j ≠ i → (j + 1 ≠ i ∨ w.category = 1) → ls'[j]? = some (.val w)) → W p l e R s m args below meth c H locs cells slots Q (F0 m (pc + 1) ls' rest)) : W p l e R s m args below meth c H locs cells slots Q (F0 m pc ls (.int x :: rest)) := by
  subst hi
  obtain ⟨hx, hb, -⟩ := C
  obtain ⟨ls', e', h1, h2, h3⟩ := m_st1 (v := .int x) hL.1 hL.2 hn rfl
  intro T hT X
  obtain ⟨t, a, b⟩ := kk ls' h1 h2 h3 T hT X
  refine ⟨t, ?_, b⟩
  jvm_step X.here [X.here.top, ↓top_set X.here.top, hx, hb, hdg, e']
  exact a
theorem m_ist (C : Cx p s m args meth c cc nL own ret mn G) (hL : LV ls nL) {x : Int32} (hdg : decode cc pc = .ok (.istore i, 2)) (hn : i < nL)
    (kk : ∀ ls' : Array Slot, LV ls' nL → ls'[i]? = some (.val (.int x)) → (∀ (j : Nat) (w : Value), ls[j]? = some (.val w) → j ≠ i → (j + 1 ≠ i ∨ w.category = 1) → ls'[j]? = some (.val w)) → W p l e R s m args below meth c H locs cells slots Q (F0 m (pc + 2) ls' rest)) : W p l e R s m args below meth c H locs cells slots Q (F0 m pc ls (.int x :: rest)) := by
  obtain ⟨hx, hb, -⟩ := C
  obtain ⟨ls', e', h1, h2, h3⟩ := m_st1 (v := .int x) hL.1 hL.2 hn rfl
  intro T hT X
  obtain ⟨t, a, b⟩ := kk ls' h1 h2 h3 T hT X
  refine ⟨t, ?_, b⟩
  jvm_step X.here [X.here.top, ↓top_set X.here.top, hx, hb, hdg, e']
  exact a
theorem m_lstN (C : Cx p s m args meth c cc nL own ret mn G) (hL : LV ls nL) {kf : Fin 4} {x : Int64} (hdg : decode cc pc = .ok (.lstore_n kf, 1)) (hi : (kf : Nat) = i) (hn : i + 1 < nL)
    (kk : ∀ ls' : Array Slot, LV ls' nL → ls'[i]? = some (.val (.long x)) → (∀ (j : Nat) (w : Value), ls[j]? = some (.val w) → j ≠ i → j ≠ i + 1 → (j + 1 ≠ i ∨ w.category = 1) → ls'[j]? = some (.val w)) → W p l e R s m args below meth c H locs cells slots Q (F0 m (pc + 1) ls' rest)) : W p l e R s m args below meth c H locs cells slots Q (F0 m pc ls (.long x :: rest)) := by
  subst hi
  obtain ⟨hx, hb, -⟩ := C
  obtain ⟨ls', e', h1, h2, h3⟩ := m_st2 (v := .long x) hL.1 hL.2 hn rfl
  intro T hT X
  obtain ⟨t, a, b⟩ := kk ls' h1 h2 h3 T hT X
  refine ⟨t, ?_, b⟩
  jvm_step X.here [X.here.top, ↓top_set X.here.top, hx, hb, hdg, e']
  exact a
theorem m_lst (C : Cx p s m args meth c cc nL own ret mn G) (hL : LV ls nL) {x : Int64} (hdg : decode cc pc = .ok (.lstore i, 2)) (hn : i + 1 < nL)
    (kk : ∀ ls' : Array Slot, LV ls' nL → ls'[i]? = some (.val (.long x)) → (∀ (j : Nat) (w : Value), ls[j]? = some (.val w) → j ≠ i → j ≠ i + 1 → (j + 1 ≠ i ∨ w.category = 1) → ls'[j]? = some (.val w)) → W p l e R s m args below meth c H locs cells slots Q (F0 m (pc + 2) ls' rest)) : W p l e R s m args below meth c H locs cells slots Q (F0 m pc ls (.long x :: rest)) := by
  obtain ⟨hx, hb, -⟩ := C
  obtain ⟨ls', e', h1, h2, h3⟩ := m_st2 (v := .long x) hL.1 hL.2 hn rfl
  intro T hT X
  obtain ⟨t, a, b⟩ := kk ls' h1 h2 h3 T hT X
  refine ⟨t, ?_, b⟩
  jvm_step X.here [X.here.top, ↓top_set X.here.top, hx, hb, hdg, e']
  exact a
theorem m_astN (C : Cx p s m args meth c cc nL own ret mn G) (hL : LV ls nL) {kf : Fin 4} (hdg : decode cc pc = .ok (.astore_n kf, 1)) (hi : (kf : Nat) = i) (hn : i < nL)
    (kk : ∀ ls' : Array Slot, LV ls' nL → ls'[i]? = some (.val (va_rf o)) → (∀ (j : Nat) (w : Value), ls[j]? = some (.val w) → j ≠ i → (j + 1 ≠ i ∨ w.category = 1) → ls'[j]? = some (.val w)) → W p l e R s m args below meth c H locs cells slots Q (F0 m (pc + 1) ls' rest)) : W p l e R s m args below meth c H locs cells slots Q (F0 m pc ls (va_rf o :: rest)) := by
  subst hi
  obtain ⟨hx, hb, -⟩ := C
  obtain ⟨ls', e', h1, h2, h3⟩ := m_st1 (v := va_rf o) hL.1 hL.2 hn (va_rf_cat o)
  intro T hT X
  obtain ⟨t, a, b⟩ := kk ls' h1 h2 h3 T hT X
  refine ⟨t, ?_, b⟩
  cases o
  · have e2 : storeLocals ls kf .null = some ls' := e'
    jvm_step X.here [X.here.top, ↓top_set X.here.top, hx, hb, hdg, va_rf, Value.isRef, e2]
    exact a
  · rename_i v
    have e2 : storeLocals ls kf (.ref v) = some ls' := e'
    jvm_step X.here [X.here.top, ↓top_set X.here.top, hx, hb, hdg, va_rf, Value.isRef, e2]
    exact a
theorem m_ast_ (C : Cx p s m args meth c cc nL own ret mn G) (hL : LV ls nL) (hdg : decode cc pc = .ok (.astore i, 2)) (hn : i < nL)
    (kk : ∀ ls' : Array Slot, LV ls' nL → ls'[i]? = some (.val (va_rf o)) → (∀ (j : Nat) (w : Value), ls[j]? = some (.val w) → j ≠ i → (j + 1 ≠ i ∨ w.category = 1) → ls'[j]? = some (.val w)) → W p l e R s m args below meth c H locs cells slots Q (F0 m (pc + 2) ls' rest)) : W p l e R s m args below meth c H locs cells slots Q (F0 m pc ls (va_rf o :: rest)) := by
  obtain ⟨hx, hb, -⟩ := C
  obtain ⟨ls', e', h1, h2, h3⟩ := m_st1 (v := va_rf o) hL.1 hL.2 hn (va_rf_cat o)
  intro T hT X
  obtain ⟨t, a, b⟩ := kk ls' h1 h2 h3 T hT X
  refine ⟨t, ?_, b⟩
  cases o
  · have e2 : storeLocals ls i .null = some ls' := e'
    jvm_step X.here [X.here.top, ↓top_set X.here.top, hx, hb, hdg, va_rf, Value.isRef, e2]
    exact a
  · rename_i v
    have e2 : storeLocals ls i (.ref v) = some ls' := e'
    jvm_step X.here [X.here.top, ↓top_set X.here.top, hx, hb, hdg, va_rf, Value.isRef, e2]
    exact a
theorem m_iinc (C : Cx p s m args meth c cc nL own ret mn G) (hL : LV ls nL) {n : Int} {x v : Int32} (hdg : decode cc pc = .ok (.iinc i n, 3)) (hg : ls[i]? = some (.val (.int x))) (hv : x + Int32.ofInt n = v) (hn : i < nL)
    (kk : ∀ ls' : Array Slot, LV ls' nL → ls'[i]? = some (.val (.int v)) → (∀ (j : Nat) (w : Value), ls[j]? = some (.val w) → j ≠ i → (j + 1 ≠ i ∨ w.category = 1) → ls'[j]? = some (.val w)) → W p l e R s m args below meth c H locs cells slots Q (F0 m (pc + 3) ls' rest)) : W p l e R s m args below meth c H locs cells slots Q (F0 m pc ls rest) := by
  subst hv
  obtain ⟨hx, hb, -⟩ := C
  obtain ⟨ls', e', h1, h2, h3⟩ := m_st1 (v := .int (x + Int32.ofInt n)) hL.1 hL.2 hn rfl
  intro T hT X
  obtain ⟨t, a, b⟩ := kk ls' h1 h2 h3 T hT X
  refine ⟨t, ?_, b⟩
  jvm_step X.here [X.here.top, ↓top_set X.here.top, hx, hb, hdg, hg, e']
  exact a
theorem m_aldN (C : Cx p s m args meth c cc nL own ret mn G) {kf : Fin 4} (hdg : decode cc pc = .ok (.aload_n kf, 1)) (hi : (kf : Nat) = i) (hl : ls[i]? = some (.val (va_rf o)))
    (kk : W p l e R s m args below meth c H locs cells slots Q (F0 m (pc + 1) ls (va_rf o :: rest))) : W p l e R s m args below meth c H locs cells slots Q (F0 m pc ls rest) := by
  cases o
  · exact lv_aload_nN C.1 C.2.1 hdg hi hl kk
  · exact lv_aload_n C.1 C.2.1 hdg hi hl kk
theorem m_ald (C : Cx p s m args meth c cc nL own ret mn G) (hdg : decode cc pc = .ok (.aload i, 2)) (hl : ls[i]? = some (.val (va_rf o)))
    (kk : W p l e R s m args below meth c H locs cells slots Q (F0 m (pc + 2) ls (va_rf o :: rest))) : W p l e R s m args below meth c H locs cells slots Q (F0 m pc ls rest) := by
  cases o
  · exact lv_aloadN C.1 C.2.1 hdg hl kk
  · exact lv_aload C.1 C.2.1 hdg hl kk
theorem m_ifnull (C : Cx p s m args meth c cc nL own ret mn G) {off : Int} {tgt : Nat} (hdg : decode cc pc = .ok (.ifnull off, 3)) (ht : (pc : Int) + off = (tgt : Int)) (k1 : o = none → W p l e R s m args below meth c H locs cells slots Q (F0 m tgt ls rest)) (k2 : ¬ o = none → W p l e R s m args below meth c H locs cells slots Q (F0 m (pc + 3) ls rest)) : W p l e R s m args below meth c H locs cells slots Q (F0 m pc ls (va_rf o :: rest)) := by
  cases o
  · exact lv_ifnullN C.1 C.2.1 hdg ht (k1 rfl)
  · exact lv_ifnull C.1 C.2.1 hdg (k2 (fun h => by cases h))
theorem m_ifnonnull (C : Cx p s m args meth c cc nL own ret mn G) {off : Int} {tgt : Nat} (hdg : decode cc pc = .ok (.ifnonnull off, 3)) (ht : (pc : Int) + off = (tgt : Int)) (k1 : ¬ o = none → W p l e R s m args below meth c H locs cells slots Q (F0 m tgt ls rest)) (k2 : o = none → W p l e R s m args below meth c H locs cells slots Q (F0 m (pc + 3) ls rest)) : W p l e R s m args below meth c H locs cells slots Q (F0 m pc ls (va_rf o :: rest)) := by
  cases o
  · exact lv_ifnonnullN C.1 C.2.1 hdg (k2 rfl)
  · exact lv_ifnonnull C.1 C.2.1 hdg ht (k1 (fun h => by cases h))
/-! returns -/
theorem m_iret (C : Cx p s m args meth c cc nL own (some .int) mn G) (hW : wd G S H) (hS : va_S G.2.2.1 s.heap H locs) {P : Int32 → Hp → Prop} {r : Int32} (hq : P r S) (hdg : decode cc pc = .ok (.ireturn, 1)) : W p l e R s m args below meth c H locs cells slots (MQ below (QI G P) args s cells slots G.2.2.1) (F0 m pc ls [.int r]) :=
  W.iret C.1 C.2.1 C.2.2.2.2.2.1 (fun t ht _ => ⟨⟨r, S, rfl, hq, by show wd G S t.heap; rw [ht]; exact hW⟩, hS.F ht⟩) hS.2.2 hdg (hlocks := C.2.2.2.2.2.2.1)
theorem m_zret (C : Cx p s m args meth c cc nL own (some .boolean) mn G) (hW : wd G S H) (hS : va_S G.2.2.1 s.heap H locs) {P : Int32 → Hp → Prop} {r : Int32} (hz : r = 0 ∨ r = 1) (hq : P r S) (hdg : decode cc pc = .ok (.ireturn, 1)) : W p l e R s m args below meth c H locs cells slots (MQ below (QI G P) args s cells slots G.2.2.1) (F0 m pc ls [.int r]) :=
  W.zret C.1 C.2.1 C.2.2.2.2.2.1 (by rcases hz with rfl | rfl <;> rfl) (fun t ht _ => ⟨⟨r, S, rfl, hq, by show wd G S t.heap; rw [ht]; exact hW⟩, hS.F ht⟩) hS.2.2 hdg (hlocks := C.2.2.2.2.2.2.1)
theorem m_lret (C : Cx p s m args meth c cc nL own (some .long) mn G) (hW : wd G S H) (hS : va_S G.2.2.1 s.heap H locs) {P : Int64 → Hp → Prop} {r : Int64} (hq : P r S) (hdg : decode cc pc = .ok (.lreturn, 1)) : W p l e R s m args below meth c H locs cells slots (MQ below (QL G P) args s cells slots G.2.2.1) (F0 m pc ls [.long r]) :=
  W.lret C.1 C.2.1 C.2.2.2.2.2.1 (fun t ht _ => ⟨⟨r, S, rfl, hq, by show wd G S t.heap; rw [ht]; exact hW⟩, hS.F ht⟩) hS.2.2 hdg (hlocks := C.2.2.2.2.2.2.1)
theorem m_vret (C : Cx p s m args meth c cc nL own none mn G) (hW : wd G S H) (hS : va_S G.2.2.1 s.heap H locs) {P : Hp → Prop} (hq : P S) (hdg : decode cc pc = .ok (.return_, 1)) : W p l e R s m args below meth c H locs cells slots (MQ below (QV G P) args s cells slots G.2.2.1) (F0 m pc ls []) :=
  W.vret C.1 C.2.1 C.2.2.2.2.2.1 (fun t ht _ => ⟨⟨S, rfl, hq, by show wd G S t.heap; rw [ht]; exact hW⟩, hS.F ht⟩) hS.2.2 hdg (hlocks := C.2.2.2.2.2.2.1)
theorem m_aret {rt : FieldType} (C : Cx p s m args meth c cc nL own (some rt) mn G) (hrt : (∃ n, rt = .object n) ∨ ∃ t, rt = .array t) (hW : wd G S H) (hS : va_S G.2.2.1 s.heap H locs) {P : Option Nat → Hp → Prop} (hq : P o S) (hdg : decode cc pc = .ok (.areturn, 1)) : W p l e R s m args below meth c H locs cells slots (MQ below (QR G P) args s cells slots G.2.2.1) (F0 m pc ls [va_rf o]) :=
  W.aret C.1 C.2.1 C.2.2.2.2.2.1 hrt (by cases o; exact Or.inl rfl; exact Or.inr ⟨_, rfl⟩) (fun t ht _ => ⟨⟨o, S, rfl, hq, by show wd G S t.heap; rw [ht]; exact hW⟩, hS.F ht⟩) hS.2.2 hdg (hlocks := C.2.2.2.2.2.2.1)
/-! calls -/
def VOK (own : String) (idx : Nat) (y : MethodName) (cb : ByteArray) (mL : Nat) (rt : Option FieldType) (kb n : Nat) : Prop := Cond.methodLink own idx y ∈ TS ∧ Cond.instanceMethod y ∈ TS ∧ Cond.selects y.cls y y ∈ TS ∧ Cond.initialized y.cls ∈ TS ∧ Cond.code y cb mL rt ∈ TS ∧ (∃ T N, vwCl[kb - 1]? = some (y.cls, T, N)) ∧ 1 ≤ kb ∧ kb ≤ 14 ∧ (y.cls = y.cls ∧ y.cls ≠ "java/lang/invoke/MethodHandle" ∧ y.cls ≠ "java/lang/invoke/VarHandle" ∧ (parseMethodDescriptor y.desc).map (fun d => d.parameters.length) = some n)
def SOK (own : String) (idx : Nat) (y : MethodName) (cb : ByteArray) (mL : Nat) (rt : Option FieldType) (n : Nat) : Prop := Cond.methodLink own idx y ∈ TS ∧ Cond.static y ∈ TS ∧ Cond.initialized y.cls ∈ TS ∧ Cond.code y cb mL rt ∈ TS ∧ (y.cls ≠ "java/lang/invoke/MethodHandle" ∧ y.cls ≠ "java/lang/invoke/VarHandle" ∧ (parseMethodDescriptor y.desc).map (fun d => d.parameters.length) = some n)
def IOK (own : String) (idx : Nat) (y : MethodName) (cb : ByteArray) (mL : Nat) (n : Nat) : Prop := (Cond.methodLink own idx y ∈ TS ∨ (own, idx, y) ∈ nests) ∧ Cond.instanceMethod y ∈ TS ∧ Cond.initialized y.cls ∈ TS ∧ Cond.code y cb mL none ∈ TS ∧ y.name = "<init>" ∧ (y.cls ≠ "java/lang/invoke/MethodHandle" ∧ y.cls ≠ "java/lang/invoke/VarHandle" ∧ (parseMethodDescriptor y.desc).map (fun d => d.parameters.length) = some n)
theorem TS_code {y : MethodName} {cb : ByteArray} {mL : Nat} {rt : Option FieldType} (h : Cond.code y cb mL rt ∈ TS) : ∀ w ∈ (Cond.code y cb mL rt :: TS), w ∈ TS := fun w hw => by
  rcases List.mem_cons.mp hw with e | e
  · rw [e]; exact h
  · exact e
theorem m_pre (C : Cx p s m args meth c cc nL own ret mn G) (hW : wd G S H) (hS : va_S G.2.2.1 s.heap H locs) {av : List Value} : ∀ U : State, U.heap = H → s.WarmedH U.vm → Pk G S av av.toArray U := fun U hU hw =>
  ⟨rfl, by rw [hU]; exact hW, KK.moved hw.alike C.2.2.2.2.2.2.2.1, fun q h => C.2.2.2.2.2.2.2.2.1 q (Nat.le_trans hS.1 (by rw [← hU]; exact h)), EV.warm hw (fun a h1 h2 => by rw [hU]; exact hS.2.1 a h1 h2) C.2.2.2.2.2.2.2.2.2.1⟩
variable {y : MethodName} {cb : ByteArray} {mL mc ms n kb : Nat} {rt : Option FieldType} {rm : Room} {Qc : Array Value → State → Outcome → State → Prop} {As st0 : List Value} {b : Nat}
theorem m_runV (C : Cx p s m args meth c cc nL own ret mn G) (hW : wd G S H) (hS : va_S G.2.2.1 s.heap H locs) (hL : LV ls nL) (hM : Met l y (Cond.code y cb mL rt :: TS) rm (Pk G S (va_rf (some b) :: As)) Qc mc ms G.2.2.1) (hv : VOK own idx y cb mL rt kb n) (hrc : rm.cells = mc ∧ rm.slots = ms) (hR : rm.frames + 1 ≤ R.frames ∧ 8 + (mL + 11) + rm.locals ≤ R.locals)
    (ho : o = some b) (hk : hK S b = kb) (hn : As.length = n) (hst : st0 = As.reverse ++ va_rf o :: rest) (hr : (rest.map fun v => v.category).sum ≤ 8) (hdg : decode cc pc = .ok (.invokevirtual idx, 3)) (hf : cells + mc ≤ R.cells ∧ slots + ms ≤ R.slots) :
    va_Run p l e R s m args below meth c H locs cells slots mc ms (F0 m pc ls st0) rest (Qc (va_rf (some b) :: As).toArray) G.2.2.1 := by
  obtain ⟨w1, w2, w3, w4, w5, ⟨T, N, hc⟩, b1, b2, hd⟩ := hv
  subst ho
  obtain ⟨cell, g1, g2, g3, -⟩ := hW.obj hk b1 b2
  have hcls := (C.2.2.2.2.2.2.2.1.1 _ _ hc).2
  refine va_runV (As := As) (rest := rest) (C := y.cls) ⟨C.1, C.2.1, C.2.2.1, C.2.2.2.1, C.2.2.2.2.1⟩ hM (cwV n C.2.2.2.2.1 (TS_goodIn (fun w hw => ?_)) rfl hrc.1 hrc.2 hd hR) ⟨Pk.blind, ⟨cell, g1, by rw [g3]; rfl, by rw [g2]; exact hcls.1⟩, m_pre C hW hS⟩ rfl hn hL.1 hst (lv_room hr) hdg hf
  unfold wsV at hw
  rcases List.mem_append.mp hw with h | h
  · simp only [List.mem_cons, List.not_mem_nil, or_false] at h
    rcases h with rfl | rfl | rfl | rfl
    · exact w1
    · exact w2
    · exact w3
    · exact w4
  · exact TS_code w5 w h
theorem m_runS (C : Cx p s m args meth c cc nL own ret mn G) (hW : wd G S H) (hS : va_S G.2.2.1 s.heap H locs) (hL : LV ls nL) (hM : Met l y (Cond.code y cb mL rt :: TS) rm (Pk G S As) Qc mc ms G.2.2.1) (hv : SOK own idx y cb mL rt n) (hrc : rm.cells = mc ∧ rm.slots = ms) (hR : rm.frames + 1 ≤ R.frames ∧ 8 + (mL + 11) + rm.locals ≤ R.locals)
    (hn : As.length = n) (hst : st0 = As.reverse ++ rest) (hr : (rest.map fun v => v.category).sum ≤ 8) (hdg : decode cc pc = .ok (.invokestatic idx, 3)) (hf : cells + mc ≤ R.cells ∧ slots + ms ≤ R.slots) :
    va_Run p l e R s m args below meth c H locs cells slots mc ms (F0 m pc ls st0) rest (Qc As.toArray) G.2.2.1 := by
  obtain ⟨w1, w2, w3, w5, hd⟩ := hv
  refine va_runS (As := As) (rest := rest) ⟨C.1, C.2.1, C.2.2.1, C.2.2.2.1, C.2.2.2.2.1⟩ hM (va_cwS n C.2.2.2.2.1 (TS_goodIn (fun w hw => ?_)) rfl hrc.1 hrc.2 hd hR) ⟨Pk.blind, m_pre C hW hS⟩ rfl hn hL.1 hst (lv_room hr) hdg hf
  unfold va_wsS at hw
  rcases List.mem_append.mp hw with h | h
  · simp only [List.mem_cons, List.not_mem_nil, or_false] at h
    rcases h with rfl | rfl | rfl
    · exact w1
    · exact w2
    · exact w3
  · exact TS_code w5 w h
theorem m_runI (C : Cx p s m args meth c cc nL own ret mn G) (hW : wd G S H) (hS : va_S G.2.2.1 s.heap H locs) (hL : LV ls nL) (hM : Met l y (Cond.code y cb mL none :: TS) rm (Pk G S (va_rf (some b) :: As)) Qc mc ms G.2.2.1) (hv : IOK own idx y cb mL n) (hrc : rm.cells = mc ∧ rm.slots = ms) (hR : rm.frames + 1 ≤ R.frames ∧ 8 + (mL + 11) + rm.locals ≤ R.locals)
    (ho : o = some b) (hn : As.length = n) (hst : st0 = As.reverse ++ va_rf o :: rest) (hr : (rest.map fun v => v.category).sum ≤ 8) (hdg : decode cc pc = .ok (.invokespecial idx, 3)) (hf : cells + mc ≤ R.cells ∧ slots + ms ≤ R.slots) :
    va_Run p l e R s m args below meth c H locs cells slots mc ms (F0 m pc ls st0) rest (Qc (va_rf (some b) :: As).toArray) G.2.2.1 := by
  obtain ⟨w1, w2, w3, w5, hy, hd⟩ := hv
  subst ho
  have hts := C.2.2.2.2.1
  rcases w1 with w1 | w1
  · exact va_runI (As := As) (rest := rest) ⟨C.1, C.2.1, C.2.2.1, C.2.2.2.1, hts⟩ hM (cwI n hts (TS_goodIn (TS_code w5)) rfl hrc.1 hrc.2 (hts _ w3) (hts _ w1) (hts _ w2) hy hd hR) ⟨Pk.blind, m_pre C hW hS⟩ rfl hn hL.1 hst (lv_room hr) hdg hf
  · exact va_runIN (As := As) (rest := rest) (host := RX11) ⟨C.1, C.2.1, C.2.2.1, C.2.2.2.1, hts⟩ hM ⟨va_cnB n hts (TS_goodIn (TS_code w5)) rfl hrc.1 hrc.2 (C.2.2.2.2.2.2.2.2.2.1.2.2.2.1 _ w1) (hts _ w3) hd hR, hy, hts _ w2⟩ ⟨Pk.blind, m_pre C hW hS⟩ rfl hn hL.1 hst (lv_room hr) hdg hf
theorem m_rI {aa : Array Value} {P : Int32 → Hp → Prop} (hr : va_Run p l e R s m args below meth c H locs cells slots mc ms (F0 m pc ls st0) rest (QI G P aa) G.2.2.1) (hS : va_S G.2.2.1 s.heap H locs)
    (kk : ∀ (r : Int32) (S1 : Hp) (H1 : Heap) (locs1 : List Loc), P r S1 → wd G S1 H1 → va_S G.2.2.1 s.heap H1 locs1 → W p l e R s m args below meth c H1 locs1 (cells + mc) (slots + ms) Q (F0 m (pc + 3) ls (.int r :: rest))) : W p l e R s m args below meth c H locs cells slots Q (F0 m pc ls st0) :=
  va_calli hr hS (fun _ _ h => h) (fun _ h => h) (fun r u t H1 locs1 ht _ hp hB _ _ hS1 => kk r u H1 locs1 hp (by rw [← ht]; exact hB) hS1)
theorem m_rL {aa : Array Value} {P : Int64 → Hp → Prop} (hr : va_Run p l e R s m args below meth c H locs cells slots mc ms (F0 m pc ls st0) rest (QL G P aa) G.2.2.1) (hS : va_S G.2.2.1 s.heap H locs)
    (kk : ∀ (r : Int64) (S1 : Hp) (H1 : Heap) (locs1 : List Loc), P r S1 → wd G S1 H1 → va_S G.2.2.1 s.heap H1 locs1 → W p l e R s m args below meth c H1 locs1 (cells + mc) (slots + ms) Q (F0 m (pc + 3) ls (.long r :: rest))) : W p l e R s m args below meth c H locs cells slots Q (F0 m pc ls st0) :=
  va_calll hr hS (fun _ _ h => h) (fun _ h => h) (fun r u t H1 locs1 ht _ hp hB _ _ hS1 => kk r u H1 locs1 hp (by rw [← ht]; exact hB) hS1)
theorem m_rR {aa : Array Value} {P : Option Nat → Hp → Prop} (hr : va_Run p l e R s m args below meth c H locs cells slots mc ms (F0 m pc ls st0) rest (QR G P aa) G.2.2.1) (hS : va_S G.2.2.1 s.heap H locs)
    (kk : ∀ (r : Option Nat) (S1 : Hp) (H1 : Heap) (locs1 : List Loc), P r S1 → wd G S1 H1 → va_S G.2.2.1 s.heap H1 locs1 → W p l e R s m args below meth c H1 locs1 (cells + mc) (slots + ms) Q (F0 m (pc + 3) ls (va_rf r :: rest))) : W p l e R s m args below meth c H locs cells slots Q (F0 m pc ls st0) :=
  va_callq hr hS (fun _ _ h => h) (fun _ h => h) (fun r u t H1 locs1 ht _ hp hB _ _ hS1 => kk r u H1 locs1 hp (by rw [← ht]; exact hB) hS1)
theorem m_rV {aa : Array Value} {P : Hp → Prop} (hr : va_Run p l e R s m args below meth c H locs cells slots mc ms (F0 m pc ls st0) rest (QV G P aa) G.2.2.1) (hS : va_S G.2.2.1 s.heap H locs)
    (kk : ∀ (S1 : Hp) (H1 : Heap) (locs1 : List Loc), P S1 → wd G S1 H1 → va_S G.2.2.1 s.heap H1 locs1 → W p l e R s m args below meth c H1 locs1 (cells + mc) (slots + ms) Q (F0 m (pc + 3) ls rest)) : W p l e R s m args below meth c H locs cells slots Q (F0 m pc ls st0) :=
  va_callv hr hS (fun _ _ h => h) (fun _ h => h) (fun u t H1 locs1 ht _ hp hB _ _ hS1 => kk u H1 locs1 hp (by rw [← ht]; exact hB) hS1)
/-- a method, by its walk -/
theorem m_met {av : List Value} (hy : plainName y.cls = true) (body : ∀ (p : Program) (e : Env) (s : State) (m : MethodId) (below : List Frame) (meth : Method) (c : Code) (H : Heap) (locs : List Loc), Cx p s m av.toArray meth c cb mL y.cls rt y.name G → wd G S H → va_S G.2.2.1 s.heap H locs → W p l e rm s m av.toArray below meth c H locs 0 0 (MQ below Qc av.toArray s mc ms G.2.2.1) (entryFrame m av.toArray mL)) : Met l y (Cond.code y cb mL rt :: TS) rm (Pk G S av) Qc mc ms G.2.2.1 := by
  refine Met.ofW (cc := cb) (maxL := mL) (ret := rt) hy rfl ?_
  intro p e s m args below meth c s₁ B hml hv
  obtain ⟨rfl, hW, hK, hA, hE⟩ := hv
  have hts := atoms_spec (ws := Cond.code y cb mL rt :: TS) B.pre
  exact body p e s m below meth c s.heap [] ⟨B.exec, B.bytes, hml, findClass_of_methodNamed B.named, fun w h => hts w (List.mem_cons_of_mem _ h), B.returns, B.notSynchronized, hK, hA, hE, (name_of_methodNamed B.named B.method).1⟩ hW va_S.rf
/-! the entry's locals, by the categories -/
def la : Nat → List Value → List Nat → List (Nat × Value)
  | _, [], _ => []
  | i, v :: vs, [] => (i, v) :: la (i + 1) vs []
  | i, v :: vs, c :: cs => (i, v) :: la (if c = 2 then i + 2 else i + 1) vs cs
theorem la_eq : ∀ (vs : List Value) (cs : List Nat) (i : Nat), vs.map Value.category = cs → lv_args i vs = la i vs cs
  | [], _, _, _ => rfl
  | v :: vs, [], _, h => by cases h
  | v :: vs, c :: cs, i, h => by
    simp only [List.map_cons, List.cons.injEq] at h
    obtain ⟨h1, h2⟩ := h
    simp only [lv_args, la, h1, la_eq vs cs _ h2]
theorem la_len : ∀ (vs : List Value) (cs : List Nat), vs.map Value.category = cs → (lg_sl vs).length = cs.sum
  | [], cs, h => by cases h; rfl
  | v :: vs, [], h => by cases h
  | v :: vs, c :: cs, h => by
    simp only [List.map_cons, List.cons.injEq] at h
    obtain ⟨h1, h2⟩ := h
    have ih := la_len vs cs h2
    unfold lg_sl at ih ⊢
    rw [List.flatMap_cons, List.length_append, ih, List.sum_cons]
    rcases lv_cat v with hv | hv
    · rw [if_neg (by omega)]; simp; omega
    · rw [if_pos hv]; simp; omega
theorem m_entry (mi : MethodId) {vs : List Value} (cs : List Nat) {nn : Nat} (h : vs.map Value.category = cs) (hn : cs.sum ≤ nn) : ∃ ls : Array Slot, entryFrame mi vs.toArray nn = F0 mi 0 ls [] ∧ LV ls nn ∧ ∀ q ∈ la 0 vs cs, ls[q.1]? = some (.val q.2) := by
  have hl := lv_entry vs (n := nn) (by rw [la_len vs cs h]; exact hn)
  refine ⟨_, lg_entry_eq mi vs nn, ⟨hl.1, hl.2.1⟩, fun q hq => hl.2.2 q ?_⟩
  rw [la_eq vs cs 0 h]
  exact hq
/-- a cast to Job -/
theorem m_castJ (C : Cx p s m args meth c cc nL own ret mn G) (hW : wd G S H) (ho : o = some a) (hk : hK S a = 6) (hw : Cond.classLink own idx RX4 ∈ TS) (hdg : decode cc pc = .ok (.checkcast idx, 3))
    (kk : W p l e R s m args below meth c H locs cells slots Q (F0 m (pc + 3) ls (va_rf o :: rest))) : W p l e R s m args below meth c H locs cells slots Q (F0 m pc ls (va_rf o :: rest)) := by
  subst ho
  obtain ⟨cell, g1, g2, g3, -⟩ := hW.obj hk (by decide) (by decide)
  have hcls := (C.2.2.2.2.2.2.2.1.1 5 _ rfl).2
  exact va_castS C.1 C.2.1 C.2.2.2.1 (C.2.2.2.2.1 _ hw) hcls ⟨cell, g1, by rw [g3]; rfl, by rw [g2]; exact hcls.1⟩ hdg kk
end MR2
