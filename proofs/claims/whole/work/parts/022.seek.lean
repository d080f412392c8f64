section SK
/-! The way of a thrown object through one method's table of handlers, where a row's class may be seen for the first time: one law over the list of rows, with whatever end it has (a row that takes the object, or none). -/
variable {e : Env} {s : State} {f : JFrame} {a : Addr} {ce : Cell}
/-- a row that covers the place and links to a class: the class is noted, then the object is held against it -/
theorem sk_row {Q : Handler → Pre} {E : CtlPost} {d : Bool} {acts : List Action} {u : State} {x : ExceptionTableEntry} {t : List ExceptionTableEntry} {k : ClassId}
    (hx : covers x f.pc = true) (h0 : x.catchType ≠ 0) (hl : u.vm.ClassLinks e.platform f.method.cls x.catchType k) (hc : u.heap[a]? = some ce) (ho : ce.vm = .none) (hk : ∃ z, u.vm.classes[ce.cls]? = some z) :
    wp (findHandler.go f a (x :: t)) Q E e d acts u ↔
      if u.vm.assignable ce.cls k = true then Q (.found x.handlerPc) d acts (u.setVm (u.vm.noted f.method.cls x.catchType (.cls k)))
      else wp (findHandler.go f a t) Q E e d acts (u.setVm (u.vm.noted f.method.cls x.catchType (.cls k))) := by
  have al : u.vm.Alike (u.vm.noted f.method.cls x.catchType (.cls k)) := (Vm.Alike.refl u.vm).noted _ _ _
  have hs : ∀ j, ce.vm ≠ .statics j := fun j hj => by rw [ho] at hj; cases hj
  have hz : ∃ z, (u.vm.noted f.method.cls x.catchType (.cls k)).classes[ce.cls]? = some z := by
    obtain ⟨z, h⟩ := hk
    obtain ⟨z1, h1, -⟩ := al.2.2 _ _ h
    exact ⟨z1, h1⟩
  have hy : ∃ z, (u.vm.noted f.method.cls x.catchType (.cls k)).classes[k]? = some z := by
    obtain ⟨_, _, _, y, -, -, -, -, -, h, -⟩ := hl.here
    obtain ⟨y1, h1, -⟩ := al.2.2 _ _ h
    exact ⟨y1, h1⟩
  obtain ⟨g1, g2⟩ := (resolveClass_links e.toSetting hl).op (op := VmOp.resolveClass f.method.cls x.catchType) rfl
  obtain ⟨z, hz⟩ := hz
  obtain ⟨y, hy⟩ := hy
  have hf := al.assignable ce.cls k
  simp only [covers] at hx
  cases hb : u.vm.assignable ce.cls k <;> rw [hb] at hf <;> simp [findHandler.go, hx, h0, g1, g2, hc, hs, hz, hy, hf, VmOp.dirties, VmOp.acts]
/-- what a search over these rows comes to, from whatever warmer tables it begins with -/
def sk_to (e : Env) (s : State) (f : JFrame) (a : Addr) (ce : Cell) (t : List ExceptionTableEntry) (h : Handler) : Prop :=
  ∀ u : State, s.WarmedH u.vm → u.heap[a]? = some ce → ∃ v, s.WarmedH v ∧ ∀ (Q : Handler → Pre) (E : CtlPost) (d : Bool) (acts : List Action), wp (findHandler.go f a t) Q E e d acts u ↔ Q h d acts (u.setVm v)
/-- a row that the object goes by -/
def sk_by (pl : Platform) (s : State) (d : ClassId) (pc : Nat) (cl : ClassId) (x : ExceptionTableEntry) : Prop :=
  covers x pc = false ∨ (x.catchType ≠ 0 ∧ ∃ k, s.vm.ClassLinks pl d x.catchType k ∧ s.vm.assignable cl k = false)
theorem sk_nil : sk_to e s f a ce [] .none := fun u hW _ => ⟨u.vm, hW, fun Q E d acts => W.findHandler_go_nil⟩
/-- tables with the row's class noted are tables of the same kind -/
theorem sk_warm {u : State} {i : Nat} {k d : ClassId} {pl : Platform} (hW : s.WarmedH u.vm) (hl : s.vm.ClassLinks pl d i k) : s.WarmedH (u.vm.noted d i (.cls k)) := by
  obtain ⟨y, _, _, _, h1, -, -, -, -, -, -, h2⟩ := hl.here
  exact hW.noted h1 h2 (State.rightAt_cls hl)
theorem sk_cls {u : State} {k : ClassId} (hW : s.WarmedH u.vm) (h : ∃ z, s.vm.classes[k]? = some z) : ∃ z, u.vm.classes[k]? = some z := by
  obtain ⟨z, hz⟩ := h
  obtain ⟨z1, h1, -⟩ := hW.alike.2.2 _ _ hz
  exact ⟨z1, h1⟩
theorem sk_cons {x : ExceptionTableEntry} {t : List ExceptionTableEntry} {h : Handler} (ho : ce.vm = .none) (hk : ∃ z, s.vm.classes[ce.cls]? = some z) (hb : sk_by e.platform s f.method.cls f.pc ce.cls x) (ht : sk_to e s f a ce t h) : sk_to e s f a ce (x :: t) h := by
  intro u hW hc
  cases hx : covers x f.pc
  · obtain ⟨v, h1, h2⟩ := ht u hW hc
    exact ⟨v, h1, fun Q E d acts => (W.findHandler_go_skip hx).trans (h2 Q E d acts)⟩
  · rcases hb with hb | ⟨h0, k, hl, hn⟩
    · rw [hb] at hx; cases hx
    · obtain ⟨v, h1, h2⟩ := ht (u.setVm (u.vm.noted f.method.cls x.catchType (.cls k))) (sk_warm hW hl) hc
      refine ⟨v, h1, fun Q E d acts => (sk_row hx h0 (hW.classLinks hl) hc ho (sk_cls hW hk)).trans ?_⟩
      rw [hW.alike.assignable, hn, if_neg (by decide)]
      exact h2 Q E d acts
theorem sk_app {t : List ExceptionTableEntry} {h : Handler} (ho : ce.vm = .none) (hk : ∃ z, s.vm.classes[ce.cls]? = some z) (ht : sk_to e s f a ce t h) : ∀ pre : List ExceptionTableEntry, (∀ x ∈ pre, sk_by e.platform s f.method.cls f.pc ce.cls x) → sk_to e s f a ce (pre ++ t) h
  | [], _ => ht
  | x :: r, hp => sk_cons ho hk (hp x (List.mem_cons_self ..)) (sk_app ho hk ht r fun z hz => hp z (List.mem_cons_of_mem _ hz))
/-- a row that takes the object -/
theorem sk_hit {x : ExceptionTableEntry} {t : List ExceptionTableEntry} {k : ClassId} (ho : ce.vm = .none) (hk : ∃ z, s.vm.classes[ce.cls]? = some z) (hx : covers x f.pc = true) (h0 : x.catchType ≠ 0) (hl : s.vm.ClassLinks e.platform f.method.cls x.catchType k) (ha : s.vm.assignable ce.cls k = true) :
    sk_to e s f a ce (x :: t) (.found x.handlerPc) := by
  intro u hW hc
  refine ⟨_, sk_warm hW hl, fun Q E d acts => (sk_row hx h0 (hW.classLinks hl) hc ho (sk_cls hW hk)).trans ?_⟩
  rw [hW.alike.assignable, ha, if_pos rfl]
end SK
section SKT
variable {p : Program} {l : Launch} {e : Env} {R : Room} {s : State} {m : MethodId} {args : Array Value} {below : List Frame} {meth : Method} {c : Code} {T : State} {locs : List Loc} {cells slots : Nat} {a : Addr} {ce : Cell} {g : JFrame}
/-- the note over the method's own frame -/
theorem sk_push (X : Stand p l e R s m args below meth c T locs cells slots) (g : JFrame) (a : Addr) : (T.setTop g).pushFrame (.throwing a) = T.setFrames (.throwing a :: .java g :: below) := by
  obtain ⟨g0, h⟩ := X.frames_eq
  unfold State.pushFrame
  rw [State.frames_setTop g h, State.setTop_of_frames g h, State.setFrames_setFrames]
theorem sk_find (X : Stand p l e R s m args below meth c T locs cells slots) (hg : g.method = m) {h : Handler} (hc : T.heap[a]? = some ce) (ht : sk_to e s g a ce c.exceptionTable.toList h) :
    ∃ v, s.WarmedH v ∧ ∀ (Q : Handler → Pre) (E : CtlPost) (d : Bool) (acts : List Action), wp (findHandler g a) Q E e d acts (T.setFrames (.throwing a :: .java g :: below)) ↔ Q h d acts ((T.setFrames (.throwing a :: .java g :: below)).setVm v) := by
  obtain ⟨v, h1, h2⟩ := ht (T.setFrames (.throwing a :: .java g :: below)) X.warmed hc
  refine ⟨v, h1, fun Q E d acts => (W.findHandler_eq (meth := meth) ?_ X.code).trans (h2 Q E d acts)⟩
  rw [hg]
  exact X.method'
/-- one step of the machine: the note is looked at -/
theorem sk_step (X : Stand p l e R s m args below meth c T locs cells slots) (hg : g.method = m) {tgt : State} (h : Steps p.tables e below (stepThrowing e (T.setFrames (.throwing a :: .java g :: below)) a (.java g :: below)).1 tgt) :
    Steps p.tables e below ((T.setTop g).pushFrame (.throwing a)) tgt := by
  have hA : At T g.method c below := by rw [hg]; exact X.here
  obtain ⟨h1, h2⟩ := hA.throwing a
  obtain ⟨g0, h0⟩ := X.frames_eq
  refine Steps.head h1 h2 ?_
  rw [sk_push X, stepThread_throwing (State.frames_setFrames _ (State.cur_lt_of_frames h0))]
  exact h
/-- taken: the method goes on at the row's handler -/
theorem sk_caught (X : Stand p l e R s m args below meth c T locs cells slots) (hg : g.method = m) {pc : Nat} (hc : T.heap[a]? = some ce) (ht : sk_to e s g a ce c.exceptionTable.toList (.found pc)) :
    ∃ v, Stand p l e R s m args below meth c (T.setVm v) locs cells slots ∧ Steps p.tables e below ((T.setTop g).pushFrame (.throwing a)) ((T.setVm v).setTop { g with pc := pc, stack := [.ref a] }) := by
  obtain ⟨v, h1, h2⟩ := sk_find X hg hc ht
  refine ⟨v, X.noted h1, sk_step X hg ?_⟩
  obtain ⟨g0, h0⟩ := (X.noted h1).frames_eq
  have h3 : (stepThrowing e (T.setFrames (.throwing a :: .java g :: below)) a (.java g :: below)).1 = ((T.setFrames (.throwing a :: .java g :: below)).setVm v).setFrames (.java { g with pc := pc, stack := [.ref a] } :: below) := by
    simp only [stepThrowing, searchFrame, vmDo]
    generalize hr : Sem.go _ e false [] _ = res
    obtain ⟨r1, r2, r3, hq, ha, hb⟩ := First.eq_ok_of' (P := fun r t => r = Handler.found pc ∧ t = (T.setFrames (.throwing a :: .java g :: below)).setVm v) hr (by simp [h2 _ _ _ _])
    subst ha; subst hb; rw [hq]
  rw [h3, State.setTop_of_frames _ h0, First.setVm_setFrames]
  exact Steps.refl _
/-- not taken: the note lies over the frames below -/
theorem sk_out (X : Stand p l e R s m args below meth c T locs cells slots) (hg : g.method = m) (hn : meth.locks = false) (hl : g.locked = none) (hd : g.entered = []) (hc : T.heap[a]? = some ce) (ht : sk_to e s g a ce c.exceptionTable.toList .none) :
    ∃ v, Stand p l e R s m args below meth c (T.setVm v) locs cells slots ∧ Steps p.tables e below ((T.setTop g).pushFrame (.throwing a)) ((T.setVm v).setFrames (.throwing a :: below)) := by
  obtain ⟨v, h1, h2⟩ := sk_find X hg hc ht
  refine ⟨v, X.noted h1, sk_step X hg ?_⟩
  have hm : v.method? g.method = some meth := by rw [hg]; exact (X.noted h1).method'
  have h3 : (stepThrowing e (T.setFrames (.throwing a :: .java g :: below)) a (.java g :: below)).1 = ((T.setFrames (.throwing a :: .java g :: below)).setVm v).setFrames (.throwing a :: below) := by
    simp only [stepThrowing, searchFrame, vmDo]
    generalize hr : Sem.go _ e false [] _ = res
    obtain ⟨r1, r2, r3, hq, ha, hb⟩ := First.eq_ok_of' (P := fun r t => r = Handler.none ∧ t = (T.setFrames (.throwing a :: .java g :: below)).setVm v) hr
      (by cases hp : e.platform.frameOwnsMonitors <;> simp [h2 _ _ _ _, hm, hn, hl, hd, hp, leaveIfLocked])
    subst ha; subst hb; rw [hq]
  rw [h3, First.setVm_setFrames]
  exact Steps.refl _
end SKT
