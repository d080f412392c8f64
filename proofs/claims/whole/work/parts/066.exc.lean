/-! exceptions that leave a method: NoSuchElementException, the heap of numbers as it was -/
def NSE : String := "java/util/NoSuchElementException"
def XT (G : GX) (QX : Hp → Prop) : String → State → State → Prop := vx_X QX (fun E S t => E = NSE ∧ wd G S t.heap) G.2.2.1
theorem wd.ext {G : GX} {S : Hp} {H H1 : Heap} (h : wd G S H) (hq : ∀ q : Nat, q < H.size → H1[q]? = H[q]?) : wd G S H1 := by
  refine ⟨h.1, fun b hb => ?_⟩
  obtain ⟨g1, g2, g3, g4, g5, g6⟩ := h.2 b hb
  have hq := hq b (h.lt hb)
  exact ⟨g1, g2, g3, fun z => (g4 z).kept hq, fun z z2 => by rw [hq]; exact g5 z z2, fun z => by rw [hq]; exact g6 z⟩
section MX
variable {p : Program} {l : Launch} {e : Env} {R : Room} {s : State} {m : MethodId} {args : Array Value} {below : List Frame} {meth : Method} {c : Code} {H : Heap} {locs : List Loc} {cells slots : Nat} {Q : State → Prop}
  {cc : ByteArray} {nL : Nat} {own : String} {ret : Option FieldType} {mn : String} {G : GX} {S : Hp} {pc : Nat} {ls : Array Slot} {rest : List Value} {a k i idx : Nat} {o : Option Nat}
  {y : MethodName} {cb : ByteArray} {mL mc ms n kb : Nat} {rt : Option FieldType} {rm : Room} {Qc : Array Value → State → Outcome → State → Prop} {XC : String → State → State → Prop} {As st0 : List Value} {b : Nat} {QX : Hp → Prop}
theorem m_runX (C : Cx p s m args meth c cc nL own ret mn G) (hW : wd G S H) (hS : va_S G.2.2.1 s.heap H locs) (hL : LV ls nL) (hM : vx_Met l y (Cond.code y cb mL rt :: TS) rm (Pk G S (va_rf (some b) :: As)) Qc XC mc ms G.2.2.1) (hv : VOK own idx y cb mL rt kb n) (hrc : rm.cells = mc ∧ rm.slots = ms) (hR : rm.frames + 1 ≤ R.frames ∧ 8 + (mL + 11) + rm.locals ≤ R.locals)
    (ho : o = some b) (hk : hK S b = kb) (hn : As.length = n) (hst : st0 = As.reverse ++ va_rf o :: rest) (hr : (rest.map fun v => v.category).sum ≤ 8) (hdg : decode cc pc = .ok (.invokevirtual idx, 3)) (hf : cells + mc ≤ R.cells ∧ slots + ms ≤ R.slots) :
    vx_Run p l e R s m args below meth c H locs cells slots mc ms (F0 m pc ls st0) rest (Qc (va_rf (some b) :: As).toArray) XC G.2.2.1 := by
  obtain ⟨w1, w2, w3, w4, w5, ⟨T, N, hc⟩, b1, b2, hd⟩ := hv
  subst ho
  obtain ⟨cell, g1, g2, g3, -⟩ := hW.obj hk b1 b2
  have hcls := (C.2.2.2.2.2.2.2.1.1 _ _ hc).2
  refine vx_runV (As := As) (rest := rest) (C := y.cls) ⟨C.1, C.2.1, C.2.2.1, C.2.2.2.1, C.2.2.2.2.1⟩ hM (cwV n C.2.2.2.2.1 (TS_goodIn (fun w hw => ?_)) rfl hrc.1 hrc.2 hd hR) ⟨Pk.blind, ⟨cell, g1, by rw [g3]; rfl, by rw [g2]; exact hcls.1⟩, m_pre C hW hS⟩ rfl hn hL.1 hst (lv_room hr) hdg hf
  unfold wsV at hw
  rcases List.mem_append.mp hw with h | h
  · simp only [List.mem_cons, List.not_mem_nil, or_false] at h
    rcases h with rfl | rfl | rfl | rfl
    · exact w1
    · exact w2
    · exact w3
    · exact w4
  · exact TS_code w5 w h
/-- a call that may throw: both ends -/
theorem m_xI {aa : Array Value} {P : Int32 → Hp → Prop} (hr : vx_Run p l e R s m args below meth c H locs cells slots mc ms (F0 m pc ls st0) rest (QI G P aa) (XT G QX) G.2.2.1) (hS : va_S G.2.2.1 s.heap H locs)
    (kx : ∀ (S1 : Hp) (q : Nat) (ce : Cell) (H1 : Heap) (locs1 : List Loc), QX S1 → wd G S1 H1 → va_S G.2.2.1 s.heap H1 locs1 → H1[q]? = some ce → ce.vm = .none → s.vm.findClass NSE = some ce.cls → vx_W p l e R s m args below meth c H1 locs1 (cells + mc) (slots + ms) Q (F0 m pc ls rest) q)
    (kk : ∀ (r : Int32) (S1 : Hp) (H1 : Heap) (locs1 : List Loc), P r S1 → wd G S1 H1 → va_S G.2.2.1 s.heap H1 locs1 → W p l e R s m args below meth c H1 locs1 (cells + mc) (slots + ms) Q (F0 m (pc + 3) ls (.int r :: rest))) : W p l e R s m args below meth c H locs cells slots Q (F0 m pc ls st0) :=
  vx_calli hr hS (fun _ _ h => h) (fun _ h => h) (fun _ _ h => h) (fun E ce q u t H1 locs1 ht _ hp hB _ _ hS1 h1 h2 h3 => kx u q ce H1 locs1 hp (by rw [← ht]; exact hB.2) hS1 h1 h2 (by rw [← hB.1]; exact h3)) (fun r u t H1 locs1 ht _ hp hB _ _ hS1 => kk r u H1 locs1 hp (by rw [← ht]; exact hB) hS1)
theorem m_xL {aa : Array Value} {P : Int64 → Hp → Prop} (hr : vx_Run p l e R s m args below meth c H locs cells slots mc ms (F0 m pc ls st0) rest (QL G P aa) (XT G QX) G.2.2.1) (hS : va_S G.2.2.1 s.heap H locs)
    (kx : ∀ (S1 : Hp) (q : Nat) (ce : Cell) (H1 : Heap) (locs1 : List Loc), QX S1 → wd G S1 H1 → va_S G.2.2.1 s.heap H1 locs1 → H1[q]? = some ce → ce.vm = .none → s.vm.findClass NSE = some ce.cls → vx_W p l e R s m args below meth c H1 locs1 (cells + mc) (slots + ms) Q (F0 m pc ls rest) q)
    (kk : ∀ (r : Int64) (S1 : Hp) (H1 : Heap) (locs1 : List Loc), P r S1 → wd G S1 H1 → va_S G.2.2.1 s.heap H1 locs1 → W p l e R s m args below meth c H1 locs1 (cells + mc) (slots + ms) Q (F0 m (pc + 3) ls (.long r :: rest))) : W p l e R s m args below meth c H locs cells slots Q (F0 m pc ls st0) :=
  vx_calll hr hS (fun _ _ h => h) (fun _ h => h) (fun _ _ h => h) (fun E ce q u t H1 locs1 ht _ hp hB _ _ hS1 h1 h2 h3 => kx u q ce H1 locs1 hp (by rw [← ht]; exact hB.2) hS1 h1 h2 (by rw [← hB.1]; exact h3)) (fun r u t H1 locs1 ht _ hp hB _ _ hS1 => kk r u H1 locs1 hp (by rw [← ht]; exact hB) hS1)
theorem m_xR {aa : Array Value} {P : Option Nat → Hp → Prop} (hr : vx_Run p l e R s m args below meth c H locs cells slots mc ms (F0 m pc ls st0) rest (QR G P aa) (XT G QX) G.2.2.1) (hS : va_S G.2.2.1 s.heap H locs)
    (kx : ∀ (S1 : Hp) (q : Nat) (ce : Cell) (H1 : Heap) (locs1 : List Loc), QX S1 → wd G S1 H1 → va_S G.2.2.1 s.heap H1 locs1 → H1[q]? = some ce → ce.vm = .none → s.vm.findClass NSE = some ce.cls → vx_W p l e R s m args below meth c H1 locs1 (cells + mc) (slots + ms) Q (F0 m pc ls rest) q)
    (kk : ∀ (r : Option Nat) (S1 : Hp) (H1 : Heap) (locs1 : List Loc), P r S1 → wd G S1 H1 → va_S G.2.2.1 s.heap H1 locs1 → W p l e R s m args below meth c H1 locs1 (cells + mc) (slots + ms) Q (F0 m (pc + 3) ls (va_rf r :: rest))) : W p l e R s m args below meth c H locs cells slots Q (F0 m pc ls st0) := by
  intro T hT X
  rcases hr T hT X with ⟨v, st₀, t, T', L, h0, X', hL, e1, e2, ⟨⟨r, u, hv, hp, hb⟩, hF⟩, st⟩ | ⟨q, st₀, t, T', L, E, ce, h0, X', hL, e1, e2, ⟨u, hp, hb, hF⟩, hce, hcv, hcl, st⟩
  · cases hv
    obtain ⟨k1, k2, k3⟩ := vx_keep h0 e1 hS (fun _ _ h => h) (fun _ h => h) hL hF
    obtain ⟨t2, a1, b1⟩ := kk r u T'.heap (locs ++ L) hp (by rw [e1]; exact hb) k3 T' rfl X'
    exact ⟨t2, st t2 a1, b1⟩
  · obtain ⟨k1, k2, k3⟩ := vx_keep h0 e1 hS (fun _ _ h => h) (fun _ h => h) hL hF
    obtain ⟨t2, a1, b1⟩ := kx u q ce T'.heap (locs ++ L) hp (by rw [e1]; exact hb.2) k3 (by rw [e1]; exact hce) hcv (by rw [← hb.1]; exact hcl) T' rfl X'
    exact ⟨t2, st.trans a1, b1⟩
/-- not caught here: it goes on -/
theorem m_xout (C : Cx p s m args meth c cc nL own ret mn G) (hET : ∀ x ∈ c.exceptionTable.toList, False) {S1 : Hp} {q : Nat} {ce : Cell} {H1 : Heap} {locs1 : List Loc} (hq : QX S1) (hW : wd G S1 H1) (hS : va_S G.2.2.1 s.heap H1 locs1) (h1 : H1[q]? = some ce) (h2 : ce.vm = .none) (h3 : s.vm.findClass NSE = some ce.cls) (hc : cells ≤ mc) (hs : slots ≤ ms) :
    vx_W p l e R s m args below meth c H1 locs1 cells slots (vx_MQ below Qc (XT G QX) args s mc ms G.2.2.1) (F0 m pc ls rest) q :=
  vx_out (fun x hx => (hET x hx).elim) C.2.2.2.2.2.2.1 h1 h2 h3 (fun t ht _ => ⟨S1, hq, ⟨rfl, by rw [ht]; exact hW⟩, hS.F ht⟩) hS.2.2 hc hs
theorem m_metX {av : List Value} (hy : plainName y.cls = true) (body : ∀ (p : Program) (e : Env) (s : State) (m : MethodId) (below : List Frame) (meth : Method) (c : Code) (H : Heap) (locs : List Loc), Cx p s m av.toArray meth c cb mL y.cls rt y.name G → (∀ x ∈ c.exceptionTable.toList, False) → wd G S H → va_S G.2.2.1 s.heap H locs → W p l e rm s m av.toArray below meth c H locs 0 0 (vx_MQ below Qc XC av.toArray s mc ms G.2.2.1) (entryFrame m av.toArray mL)) : vx_Met l y (Cond.code y cb mL rt :: TS) rm (Pk G S av) Qc XC mc ms G.2.2.1 := by
  refine vx_ofW (cc := cb) (maxL := mL) (ret := rt) hy rfl ?_
  intro p e s m args below meth c s₁ B hml hET hv
  obtain ⟨rfl, hW, hK, hA, hE⟩ := hv
  have hts := atoms_spec (ws := Cond.code y cb mL rt :: TS) B.pre
  exact body p e s m below meth c s.heap [] ⟨B.exec, B.bytes, hml, findClass_of_methodNamed B.named, fun w h => hts w (List.mem_cons_of_mem _ h), B.returns, B.notSynchronized, hK, hA, hE, (name_of_methodNamed B.named B.method).1⟩ hET hW va_S.rf
end MX
