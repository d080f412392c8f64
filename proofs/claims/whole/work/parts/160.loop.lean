/-! THE CLAIM OUT OF ONE WALK OF THE LAW'S BODY. Your part is whole_start (and what it stands on); all else here is the same for every law, but numbers. -/
def R_law : String := "SetWorkshopLaw"
def lw_P (b : Addr) (xs : List Int32) (args : Array Value) (s : State) : Prop := args = #[.ref b] ∧ s.IntsAt b xs ∧ xs.length ≤ 2560 ∧ (Jvm.Cond.and given_1 narrow_1).before args s = true
def lw_Q (_ : Array Value) (s : State) (o : Outcome) (t : State) : Prop := o = .returned (some (.int 1)) ∧ Framed s o t [] 601024 7293034
def lw_Z (below : List Frame) (a : Array Value) (s : State) : State → Prop := fun t => ∃ o, t.status = .running ∧ Ended t below o ∧ lw_Q a s o t
/-- the law's own end, with 1 on the stack, nothing written that was there before, its room as the claim has it -/
theorem lw_ret {p : Program} {l : Launch} {e : Env} {s : State} {m : MethodId} {below : List Frame} {meth : Method} {c : Code} {b : Nat} (hx : p.tables.exec = Jvm.exec) (hb : c.code = code) (hr : meth.sig.returnType = ret) (hlocks : meth.locks = false) {pc : Nat} {H : Heap} {ls : Array Slot} (hdg : decode code pc = .ok (.ireturn, 1)) : W p l e room_1 s m #[Value.ref b] below meth c H [] 601024 7293034 (lw_Z below #[Value.ref b] s) (F0 m pc ls [.int 1]) := by
  intro T hT X
  obtain ⟨fs, hret, hrun, hended, hW, hframe⟩ := X.leave (v := some (.int 1)) (hlocks := hlocks) (fun h => by rw [hr] at h; cases h)
  have hmeth' : T.vm.method? m = some meth := X.method'
  refine ⟨T.setFrames fs, ?_, .returned (some (.int 1)), hrun, hended, rfl, ⟨_, rfl⟩, hW, hframe⟩
  jvm_step X.here [X.here.top, hx, hb, hdg, hmeth', hr, ret, narrow_b1]
  (try refine ⟨rfl, ?_⟩); (try refine ⟨rfl, ?_⟩)
  first | (intro acts; rw [hret _ acts rfl rfl rfl]) | rw [hret _ _ rfl rfl rfl]
  exact Steps.refl _
/-- what holds at the law's entry: the machine, the code, the tables' words (any of lw_tbl by 'hts w (by decide +kernel)'), the script of L ints xs at the cell b, what the Statement gives of the start (any of its parts by flat_of_before) -/
def lw_At (p : Program) (s : State) (m : MethodId) (meth : Method) (c : Code) (b L : Nat) (xs : Nat → Int32) : Prop :=
  p.tables.exec = Jvm.exec ∧ c.code = code ∧ meth.sig.returnType = ret ∧ c.maxLocals = 8 ∧ s.vm.findClass R_law = some m.cls ∧ (∀ w ∈ lw_tbl, w.before #[Value.ref b] s = true) ∧ va_X b L xs s s.heap ∧ b < s.heap.size ∧ meth.locks = false ∧ (Jvm.Cond.and given_1 narrow_1).before #[Value.ref b] s = true
theorem lw_five : (5 : Int32) = nI 5 := rfl
theorem lw_cond {L j : Nat} (hL : L ≤ 2560) (hj : j ≤ 513) : Int32.ofNat L - 5 < nI (5 * j) ↔ L < 5 * j + 5 := by
  rw [lw_five, Int32.lt_iff_toInt_lt, show Int32.ofNat L = nI L from rfl, pk_sub_toInt (by omega) (by decide), nI_toInt (by omega)]
  omega
section LW
variable {p : Program} {l : Launch} {e : Env} {s : State} {m : MethodId} {args : Array Value} {below : List Frame} {meth : Method} {c : Code} {G : GX} {Qz : State → Prop} {b L : Nat} {xs : Nat → Int32} {x mm out : Nat}
set_option maxHeartbeats 4000000 in
theorem w_law_loop (hl : l.stackTraces = false) (C : Cx p s m args meth c cL_law 8 RL (some .boolean) "law" G) (hX : va_X b L xs s s.heap) (hbl : b < s.heap.size) (hbA : ¬ G.2.2.1 b) (hL5 : L ≤ 2560) {Inv : Hp → Prop} (hstep : ∀ (S : Hp) (j : Nat), 5 * j + 5 ≤ L → Inv S → wp_law_step S x mm out xs L (nI (5 * j)) Inv)
    (hend : ∀ (H : Heap) (locs : List Loc) (ls : Array Slot) (cells slots : Nat), va_S G.2.2.1 s.heap H locs → cells ≤ 601024 → slots ≤ 7293034 → W p l e room_1 s m args below meth c H locs cells slots Qz (F0 m 1422 ls [])) :
    ∀ (r j : Nat), j + r = 513 → ∀ (S : Hp) (H : Heap) (locs : List Loc) (ls : Array Slot), wd G S H → va_S G.2.2.1 s.heap H locs → LV ls 8 → ls[0]? = some (.val (va_rf (some b))) → ls[1]? = some (.val (va_rf (some x))) → ls[2]? = some (.val (va_rf (some mm))) → ls[3]? = some (.val (va_rf (some out))) → ls[4]? = some (.val (.int (nI (5 * j)))) → Inv S → W p l e room_1 s m args below meth c H locs (62 + 40 * j) (125947 + 2000 * j) Qz (F0 m 23 ls []) := by
  intro r
  induction r with
  | zero =>
    intro j hj S H locs ls hW hS hL h0 h1 h2 h3 h4 hI
    refine lv_iload C.1 C.2.1 dL_law_23 h4 ?_
    refine m_aldN C dL_law_25 rfl h0 ?_
    refine va_slen C.1 C.2.1 hX hbl hbA hS dL_law_26 ?_
    refine lv_iconst (v := 5) C.1 C.2.1 dL_law_27 (by decide) ?_
    refine lv_isub C.1 C.2.1 dL_law_28 ?_
    refine lv_icmp_gt (tgt := 1422) C.1 C.2.1 dL_law_29 (by decide) (fun hc => ?_) (fun hc => ?_)
    · exact hend H locs ls _ _ hS (by omega) (by omega)
    · exact absurd ((lw_cond hL5 (by omega)).mpr (by omega)) hc
  | succ r ih =>
    intro j hj S H locs ls hW hS hL h0 h1 h2 h3 h4 hI
    refine lv_iload C.1 C.2.1 dL_law_23 h4 ?_
    refine m_aldN C dL_law_25 rfl h0 ?_
    refine va_slen C.1 C.2.1 hX hbl hbA hS dL_law_26 ?_
    refine lv_iconst (v := 5) C.1 C.2.1 dL_law_27 (by decide) ?_
    refine lv_isub C.1 C.2.1 dL_law_28 ?_
    refine lv_icmp_gt (tgt := 1422) C.1 C.2.1 dL_law_29 (by decide) (fun hc => ?_) (fun hc => ?_)
    · exact hend H locs ls _ _ hS (by omega) (by omega)
    · have hj5 : 5 * j + 5 ≤ L := Nat.not_lt.mp (fun z => hc ((lw_cond hL5 (by omega)).mpr z))
      refine w_law_step hl C hX hbl hbA (by omega) (by omega) (K := Inv) (l4 := nI (5 * j)) ?_ hW hS hL h0 h1 h2 h3 h4 (hstep S j hj5 hI)
      intro S H locs ls hW hS hL h0 h1 h2 h3 h4 hI
      refine m_iinc (v := nI (5 * (j + 1))) C hL dL_law_1416 h4 (by rw [show Int32.ofInt 5 = nI 5 from rfl, nI_add]; rfl) (by decide) (fun ls hL hn9 hk9 => ?_)
      have h0 := hk9 0 _ h0 (by decide) (Or.inl (by decide))
      have h1 := hk9 1 _ h1 (by decide) (Or.inl (by decide))
      have h2 := hk9 2 _ h2 (by decide) (Or.inl (by decide))
      have h3 := hk9 3 _ h3 (by decide) (Or.inr (va_rf_cat _))
      refine lv_goto (tgt := 23) C.1 C.2.1 dL_law_1419 (by decide) ?_
      refine W.widen (k := 62 + 40 * (j + 1)) (n := 125947 + 2000 * (j + 1)) (by omega) (by omega) ?_
      exact ih (j + 1) (by omega) S H locs ls hW hS hL h0 h1 h2 h3 hn9 hI
end LW
/-- what is owed of the meaning: an invariant that the constructors establish and that every turn keeps -/
def PureOwed : Prop := ∀ (S : Hp) (et : Nat), hT S = et → (∀ a, hK S a = if a = et then 21 else 0) → hN S et = 0 → ∀ (xs : Nat → Int32) (L : Nat), L ≤ 2560 → wp_law_init S (fun S1 x mm out => ∃ Inv : Hp → Prop, Inv S1 ∧ ∀ (S2 : Hp) (j : Nat), 5 * j + 5 ≤ L → Inv S2 → wp_law_step S2 x mm out xs L (nI (5 * j)) Inv)
