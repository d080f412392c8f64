/-! methods of the law with a table of their own: they catch, and throw nothing -/
def XN : String → State → State → Prop := fun _ _ _ => False
section MH
variable {p : Program} {l : Launch} {e : Env} {R : Room} {s : State} {m : MethodId} {args : Array Value} {below : List Frame} {meth : Method} {c : Code} {H : Heap} {locs : List Loc} {cells slots : Nat} {Q : State → Prop}
  {cc : ByteArray} {nL : Nat} {own : String} {ret : Option FieldType} {mn : String} {G : GX} {S : Hp} {pc : Nat} {ls : Array Slot} {rest : List Value} {a k i idx : Nat} {o : Option Nat}
  {y : MethodName} {cb : ByteArray} {mL mc ms n : Nat} {rt : Option FieldType} {rm : Room} {Qc : Array Value → State → Outcome → State → Prop} {As st0 : List Value} {hh : List (Nat × Nat × Nat × Nat)}
theorem m_metH {av : List Value} (hy : plainName y.cls = true) (body : ∀ (p : Program) (e : Env) (s : State) (m : MethodId) (below : List Frame) (meth : Method) (c : Code) (H : Heap) (locs : List Loc), Cx p s m av.toArray meth c cb mL y.cls rt y.name G → c.exceptionTable.toList = tableOf hh → wd G S H → va_S G.2.2.1 s.heap H locs → W p l e rm s m av.toArray below meth c H locs 0 0 (vx_MQ below Qc XN av.toArray s mc ms G.2.2.1) (entryFrame m av.toArray mL)) : vx_Met l y (Cond.codeWith y cb mL rt hh :: TS) rm (Pk G S av) Qc XN mc ms G.2.2.1 := by
  refine vx_ofWH (cc := cb) (maxL := mL) (ret := rt) (hh := hh) hy rfl ?_
  intro p e s m args below meth c s₁ B hml hv
  obtain ⟨rfl, hW, hK, hA, hE⟩ := hv
  have hts := atoms_spec (ws := Cond.codeWith y cb mL rt hh :: TS) B.pre
  exact body p e s m below meth c s.heap [] ⟨B.exec, B.bytes, hml, findClass_of_methodNamed B.named, fun w h => hts w (List.mem_cons_of_mem _ h), B.returns, B.notSynchronized, hK, hA, hE, (name_of_methodNamed B.named B.method).1⟩ (vx_table (x := y) B (hts _ List.mem_cons_self)) hW va_S.rf
/-- caught by the one row of the table -/
theorem m_catch (C : Cx p s m args meth c cc nL RL ret mn G) {f t hd : Nat} (hT : c.exceptionTable.toList = tableOf [(f, t, hd, 13)]) (w1 : Cond.classLink RL 13 NSE ∈ TS) (hpc : f ≤ pc ∧ pc < t) {q : Nat} {ce : Cell} (h1 : H[q]? = some ce) (h2 : ce.vm = .none) (h3 : s.vm.findClass NSE = some ce.cls)
    (kk : W p l e R s m args below meth c H locs cells slots Q (F0 m hd ls [va_rf (some q)])) : vx_W p l e R s m args below meth c H locs cells slots Q (F0 m pc ls rest) q := by
  refine vx_catch (name := NSE) (E := NSE) C.2.2.2.1 [] ⟨f, t, hd, 13⟩ [] hT (fun z hz => nomatch hz) ?_ (by simp) (C.2.2.2.2.1 _ w1) (va_Nw.use rfl (C.2.2.2.2.2.2.2.2.2.1.2.2.2.2.2.2.2.2.2 _ (by decide +kernel))) h1 h2 h3 kk
  simp [covers, hpc.1, hpc.2]
def HOK (own : String) (idx : Nat) (y : MethodName) (cb : ByteArray) (mL : Nat) (rt : Option FieldType) (hh : List (Nat × Nat × Nat × Nat)) (n : Nat) : Prop := Cond.methodLink own idx y ∈ TS ∧ Cond.static y ∈ TS ∧ Cond.initialized y.cls ∈ TS ∧ Cond.codeWith y cb mL rt hh ∈ TS ∧ (y.cls ≠ "java/lang/invoke/MethodHandle" ∧ y.cls ≠ "java/lang/invoke/VarHandle" ∧ (parseMethodDescriptor y.desc).map (fun d => d.parameters.length) = some n)
theorem m_runH (C : Cx p s m args meth c cc nL own ret mn G) (hW : wd G S H) (hS : va_S G.2.2.1 s.heap H locs) (hL : LV ls nL) (hM : vx_Met l y (Cond.codeWith y cb mL rt hh :: TS) rm (Pk G S As) Qc XN mc ms G.2.2.1) (hv : HOK own idx y cb mL rt hh n) (hrc : rm.cells = mc ∧ rm.slots = ms) (hR : rm.frames + 1 ≤ R.frames ∧ 8 + (mL + 11) + rm.locals ≤ R.locals)
    (hn : As.length = n) (hst : st0 = As.reverse ++ rest) (hr : (rest.map fun v => v.category).sum ≤ 8) (hdg : decode cc pc = .ok (.invokestatic idx, 3)) (hf : cells + mc ≤ R.cells ∧ slots + ms ≤ R.slots) :
    vx_Run p l e R s m args below meth c H locs cells slots mc ms (F0 m pc ls st0) rest (Qc As.toArray) XN G.2.2.1 := by
  obtain ⟨w1, w2, w3, w5, hd⟩ := hv
  refine vx_runSX (As := As) (rest := rest) ⟨C.1, C.2.1, C.2.2.1, C.2.2.2.1, C.2.2.2.2.1⟩ hM (vx_cwSW n C.2.2.2.2.1 (TS_goodIn (fun w hw => ?_)) rfl hrc.1 hrc.2 hd hR) ⟨Pk.blind, m_pre C hW hS⟩ rfl hn hL.1 hst (lv_room hr) hdg hf
  unfold va_wsS at hw
  rcases List.mem_append.mp hw with h | h
  · simp only [List.mem_cons, List.not_mem_nil, or_false] at h
    rcases h with rfl | rfl | rfl
    · exact w1
    · exact w2
    · exact w3
  · rcases List.mem_cons.mp h with e | e
    · rw [e]; exact w5
    · exact e
theorem m_rH {aa : Array Value} {P : Int32 → Hp → Prop} (hr : vx_Run p l e R s m args below meth c H locs cells slots mc ms (F0 m pc ls st0) rest (QI G P aa) XN G.2.2.1) (hS : va_S G.2.2.1 s.heap H locs)
    (kk : ∀ (r : Int32) (S1 : Hp) (H1 : Heap) (locs1 : List Loc), P r S1 → wd G S1 H1 → va_S G.2.2.1 s.heap H1 locs1 → W p l e R s m args below meth c H1 locs1 (cells + mc) (slots + ms) Q (F0 m (pc + 3) ls (.int r :: rest))) : W p l e R s m args below meth c H locs cells slots Q (F0 m pc ls st0) := by
  intro T hT X
  rcases hr T hT X with ⟨v, st₀, t, T', L, h0, X', hL, e1, e2, ⟨⟨r, u, hv, hp, hb⟩, hF⟩, st⟩ | ⟨q, st₀, t, T', L, E, ce, h0, X', hL, e1, e2, hx, hce, hcv, hcl, st⟩
  · cases hv
    obtain ⟨k1, k2, k3⟩ := vx_keep h0 e1 hS (fun _ _ h => h) (fun _ h => h) hL hF
    obtain ⟨t2, a1, b1⟩ := kk r u T'.heap (locs ++ L) hp (by rw [e1]; exact hb) k3 T' rfl X'
    exact ⟨t2, st t2 a1, b1⟩
  · exact False.elim hx
end MH
