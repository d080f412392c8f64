/-! the world at the law's start -/
theorem st_kn {args : Array Value} {s : State} (hts : ∀ w ∈ TS, w.before args s = true) {own : String} {idx k : Nat} (h : NOK own idx k) : ∃ (cC : ClassId) (iS : Nat → Nat), ∀ q : vw_C, vwCl[k - 1]? = some q → u_Kn s q.1 q.2.1 q.2.2 cC iS := by
  obtain ⟨Cn, T, N, ty0, hc, hN, k1, k2, hin, hty, w1, w2, w3, hdf⟩ := h
  obtain ⟨cC, iS, hk⟩ := u_known hts hin (hts _ w2)
  refine ⟨cC, iS, fun q hq => ?_⟩
  cases Option.some.inj (hc.symm.trans hq)
  exact hk
theorem st_all {args : Array Value} {s : State} (hts : ∀ w ∈ TS, w.before args s = true) : ∀ c : Nat, ∃ (cC : ClassId) (iS : Nat → Nat), ∀ q : vw_C, vwCl[c]? = some q → u_Kn s q.1 q.2.1 q.2.2 cC iS
  | 0 => st_kn hts n_X4_7
  | 1 => st_kn hts n_X4_26
  | 2 => st_kn hts n_X11_25
  | 3 => st_kn hts n_X9_9
  | 4 => st_kn hts n_X8_38
  | 5 => st_kn hts n_X9_21
  | 6 => st_kn hts n_X4_19
  | 7 => st_kn hts n_X11_16
  | 8 => st_kn hts n_X4_36
  | 9 => st_kn hts n_X11_32
  | 10 => st_kn hts n_X11_7
  | 11 => st_kn hts n_X4_43
  | 12 => st_kn hts n_L_8
  | 13 => st_kn hts n_L_47
  | c + 14 => ⟨0, fun _ => 0, fun q h => absurd h (by rw [List.getElem?_eq_none (show vwCl.length ≤ c + 14 from Nat.le_add_left 14 c)]; exact fun z => by cases z)⟩
theorem st_arrI {args : Array Value} {s : State} (h : (Cond.arrayClass .int).before args s = true) : ∃ c : ClassId, ArrOfT s c .int ∧ va_RA s c .int := by
  obtain ⟨c, k, comp, h1, h2, h3⟩ := Cond.arrayClass_spec h
  exact ⟨c, fun N z => ⟨(fun k h => by cases h), k, h2, comp, h3⟩, h1⟩
theorem st_arrJ {args : Array Value} {s : State} (h : (Cond.arrayClass .long).before args s = true) : ∃ c : ClassId, ArrOfT s c .long ∧ va_RA s c .long := by
  obtain ⟨c, k, comp, h1, h2, h3⟩ := Cond.arrayClass_spec h
  exact ⟨c, fun N z => ⟨(fun k h => by cases h), k, h2, comp, h3⟩, h1⟩
theorem st_arrZ {args : Array Value} {s : State} (h : (Cond.arrayClass .boolean).before args s = true) : ∃ c : ClassId, ArrOfT s c .boolean ∧ va_RA s c .boolean := by
  obtain ⟨c, k, comp, h1, h2, h3⟩ := Cond.arrayClass_spec h
  exact ⟨c, fun N z => ⟨(fun k h => by cases h), k, h2, comp, h3⟩, h1⟩
theorem st_arrO {args : Array Value} {s : State} {n : String} (h : (Cond.arrayOver (.object n)).before args s = true) : ∃ c : ClassId, ArrOfT s c (.object n) ∧ va_RA s c (.object n) := by
  obtain ⟨comp, c, k, h1, -, h3, h4, h5⟩ := Cond.arrayOver_spec h
  exact ⟨c, fun N z => ⟨(fun k h => by cases h), k, h3, comp, h4⟩, k, comp, h3, h4, h1, h5⟩
abbrev ETm : Term := .static "java/util/ArrayList" "DEFAULTCAPACITY_EMPTY_ELEMENTDATA" "[Ljava/lang/Object;"
theorem st_name : "[" ++ (FieldType.object "java/lang/Object").toString = "[Ljava/lang/Object;" := by first | rfl | decide
theorem st_et {args : Array Value} {s : State} {c : ClassId} (h1 : (Cond.exactly ETm "[Ljava/lang/Object;").before args s = true) (h2 : (Cond.arrayOf ETm (.object "java/lang/Object")).before args s = true) (h3 : (Cond.eq (.length ETm) (.int 0)).before args s = true) (hc : va_RA s c (.object "java/lang/Object")) :
    ∃ (et : Nat) (cell : Cell), ETm.eval args s none [] s = some (.ref et) ∧ s.heap[et]? = some cell ∧ cell.cls = c ∧ (∀ k, cell.vm ≠ .statics k) ∧ cell.vm ≠ .unknown ∧ cell.slots.size = 0 := by
  obtain ⟨a, c', cell, k, hev, hf, hcell, hk, hst, hcc, -⟩ := Cond.exactly_spec h1
  obtain ⟨kA, comp, r1, r2, r3, r4⟩ := hc
  rw [st_name] at r4
  cases Option.some.inj (hf.symm.trans r4)
  have hun := (Cond.arrayOf_spec h2 hev hcell).2
  refine ⟨a, cell, hev, hcell, hcc, fun k z => ?_, hun, ?_⟩
  · rw [z] at hst; cases hst
  · have harr : s.arrayAt? a = some cell := by
      simp [State.arrayAt?, hcell, hcc, r1, hun, hst, r2]
    by_cases hn : cell.slots.size < 2 ^ 31
    · have he : (Term.length ETm).eval args s none [] s = some (.int cell.slots.size.toInt32) := by
        rw [Term.eval, hev]
        simp [harr]
        omega
      have hv := Cond.eq_ints he (show (Term.int 0).eval args s none [] s = some (.int 0) from rfl)
      have h0 : cell.slots.size.toInt32 = 0 := by simpa [Cond.before, Cond.holds, hv] using h3
      have h4 := congrArg Int32.toInt h0
      rw [show cell.slots.size.toInt32 = nI cell.slots.size from rfl, nI_toInt hn] at h4
      have h5 : (0 : Int32).toInt = 0 := by decide
      omega
    · have he : (Term.length ETm).eval args s none [] s = none := by
        rw [Term.eval, hev]
        simp [harr]
        omega
      simp [Cond.before, Cond.holds, Cond.value, he] at h3
theorem st_xnw : ∀ w ∈ xnw, w ∈ (tables_1.drop 942).take 7 := by decide +kernel
theorem st_xnt {w : Cond} (h : w ∈ xnw) : w ∈ lw_tbl := List.mem_append_right _ (List.mem_of_mem_drop (List.mem_of_mem_take (st_xnw w h)))
theorem st_nest : ∀ q ∈ nests, Cond.methodLinkNest q.1 q.2.1 q.2.2 RX11 ∈ lw_tbl := by
  intro q hq
  simp only [nests, List.mem_cons, List.not_mem_nil, or_false] at hq
  rcases hq with rfl | rfl | rfl | rfl | rfl | rfl | rfl
  · exact List.mem_append_right _ (List.mem_of_getElem? (i := 37) (by decide +kernel))
  · exact List.mem_append_right _ (List.mem_of_getElem? (i := 125) (by decide +kernel))
  · exact List.mem_append_right _ (List.mem_of_getElem? (i := 150) (by decide +kernel))
  · exact List.mem_append_right _ (List.mem_of_getElem? (i := 160) (by decide +kernel))
  · exact List.mem_append_right _ (List.mem_of_getElem? (i := 359) (by decide +kernel))
  · exact List.mem_append_right _ (List.mem_of_getElem? (i := 362) (by decide +kernel))
  · exact List.mem_append_right _ (List.mem_of_getElem? (i := 381) (by decide +kernel))
theorem st_ao2 : Cond.arrayOver (.object RX2) ∈ lw_tbl := List.mem_append_right _ (List.mem_of_getElem? (i := 42) (by decide +kernel))
theorem st_ao4 : Cond.arrayOver (.object RX4) ∈ lw_tbl := List.mem_append_right _ (List.mem_of_getElem? (i := 44) (by decide +kernel))
theorem st_aoO : Cond.arrayOver (.object "java/lang/Object") ∈ lw_tbl := List.mem_append_right _ (List.mem_of_getElem? (i := 633) (by decide +kernel))
theorem st_acI : Cond.arrayClass .int ∈ lw_tbl := List.mem_append_right _ (List.mem_of_getElem? (i := 122) (by decide +kernel))
theorem st_acJ : Cond.arrayClass .long ∈ lw_tbl := List.mem_append_right _ (List.mem_of_getElem? (i := 87) (by decide +kernel))
theorem st_acZ : Cond.arrayClass .boolean ∈ lw_tbl := List.mem_append_right _ (List.mem_of_getElem? (i := 1278) (by decide +kernel))
theorem st_caJ : Cond.castable RX4 "java/lang/Object" ∈ lw_tbl := List.mem_append_right _ (List.mem_of_getElem? (i := 1566) (by decide +kernel))
theorem st_dec : Cond.declares ⟨"java/lang/Object", "getClass", "()Ljava/lang/Class;"⟩ ∈ lw_tbl := List.mem_append_right _ (List.mem_of_getElem? (i := 1584) (by decide +kernel))
theorem st_iAL : Cond.initialized "java/util/ArrayList" ∈ lw_tbl := List.mem_append_right _ (List.mem_of_getElem? (i := 13) (by decide +kernel))
theorem st_iTh : Cond.initialized Bundle.tN ∈ lw_tbl := List.mem_append_right _ (List.mem_of_getElem? (i := 23) (by decide +kernel))
theorem st_lAL : Cond.laysStatic "java/util/ArrayList" "DEFAULTCAPACITY_EMPTY_ELEMENTDATA" "[Ljava/lang/Object;" ∈ lw_tbl := List.mem_append_right _ (List.mem_of_getElem? (i := 345) (by decide +kernel))
theorem st_lUS : Cond.laysStatic Bundle.tN "UNASSIGNED_STACK" Bundle.steD ∈ lw_tbl := List.mem_append_right _ (List.mem_of_getElem? (i := 967) (by decide +kernel))
theorem st_lSS : Cond.laysStatic Bundle.tN "SUPPRESSED_SENTINEL" Bundle.listD ∈ lw_tbl := List.mem_append_right _ (List.mem_of_getElem? (i := 969) (by decide +kernel))
theorem st_strT : ∀ q ∈ strs, Cond.stringRef RX11 q.1 q.2 ∈ lw_tbl := by
  intro q hq
  simp only [strs, List.mem_cons, List.not_mem_nil, or_false] at hq
  rcases hq with rfl | rfl | rfl | rfl | rfl
  · exact List.mem_append_right _ (List.mem_of_getElem? (i := 979) (by decide +kernel))
  · exact List.mem_append_right _ (List.mem_of_getElem? (i := 1083) (by decide +kernel))
  · exact List.mem_append_right _ (List.mem_of_getElem? (i := 1091) (by decide +kernel))
  · exact List.mem_append_right _ (List.mem_of_getElem? (i := 1099) (by decide +kernel))
  · exact List.mem_append_right _ (List.mem_of_getElem? (i := 1107) (by decide +kernel))
theorem st_strN {args : Array Value} {s : State} (h : (Jvm.Cond.and given_1 narrow_1).before args s = true) : ∀ q ∈ strs, (Cond.exactly (.string RX11 q.1) "java/lang/String").before args s = true := by
  have hs := flat_of_before _ h
  intro q hq
  simp only [strs, List.mem_cons, List.not_mem_nil, or_false] at hq
  rcases hq with rfl | rfl | rfl | rfl | rfl
  · exact hs _ (by decide +kernel)
  · exact hs _ (by decide +kernel)
  · exact hs _ (by decide +kernel)
  · exact hs _ (by decide +kernel)
  · exact hs _ (by decide +kernel)
def st_cy (c1 c2 c3 c4 c5 c6 : ClassId) (k : Nat) : ClassId := if k = 15 then c1 else if k = 16 then c2 else if k = 17 then c3 else if k = 18 then c4 else if k = 19 then c5 else c6
def st_S (et : Nat) : Hp := (fun a => if a = et then 21 else 0, fun _ => 0, fun _ _ => 0, fun _ _ => 0, fun _ _ => none, et)
theorem st_world {b : Nat} {s : State} (hts : ∀ w ∈ lw_tbl, w.before #[Value.ref b] s = true) (hgv : (Jvm.Cond.and given_1 narrow_1).before #[Value.ref b] s = true) :
    ∃ (G : GX) (et : Nat), KK G s ∧ EV G s ∧ G.2.2.1 = (fun q => s.heap.size ≤ q) ∧ wd G (st_S et) s.heap := by
  have hs := flat_of_before _ hgv
  have hTS : ∀ w ∈ TS, w.before #[Value.ref b] s = true := fun w hw => hts w (List.mem_filter.mp hw).1
  obtain ⟨c1, a1, r1⟩ := st_arrI (hts _ st_acI)
  obtain ⟨c2, a2, r2⟩ := st_arrJ (hts _ st_acJ)
  obtain ⟨c3, a3, r3⟩ := st_arrZ (hts _ st_acZ)
  obtain ⟨c4, a4, r4⟩ := st_arrO (hts _ st_ao2)
  obtain ⟨c5, a5, r5⟩ := st_arrO (hts _ st_ao4)
  obtain ⟨c6, a6, r6⟩ := st_arrO (hts _ st_aoO)
  have x1 : (Cond.exactly ETm "[Ljava/lang/Object;").before #[Value.ref b] s = true := hs _ (by decide +kernel)
  have x2 : (Cond.arrayOf ETm (.object "java/lang/Object")).before #[Value.ref b] s = true := hs _ (by decide +kernel)
  have x3 : (Cond.eq (.length ETm) (.int 0)).before #[Value.ref b] s = true := hs _ (by decide +kernel)
  have x4 : (Cond.isRef (.static Bundle.tN "UNASSIGNED_STACK" Bundle.steD)).before #[Value.ref b] s = true := hs _ (by decide +kernel)
  have x5 : (Cond.isRef (.static Bundle.tN "SUPPRESSED_SENTINEL" Bundle.listD)).before #[Value.ref b] s = true := hs _ (by decide +kernel)
  have x6 : (Cond.isRef (.mirror "[Ljava/lang/Object;")).before #[Value.ref b] s = true := hs _ (by decide +kernel)
  obtain ⟨et, cell, e1, e2, e3, e4, e5, e6⟩ := st_et x1 x2 x3 r6
  have hlt : et < s.heap.size := (Array.getElem?_eq_some_iff.mp e2).1
  have hA : ∀ a : Nat, a < s.heap.size → ¬ s.heap.size ≤ a := fun a h => Nat.not_le.mpr h
  refine ⟨((fun c => (st_all hTS c).choose, fun c => (st_all hTS c).choose_spec.choose), st_cy c1 c2 c3 c4 c5 c6, (fun q => s.heap.size ≤ q), et), et, ⟨fun c q hq => (st_all hTS c).choose_spec.choose_spec q hq, fun k h1 h2 => ?_⟩, ⟨va_Zof (hts _ st_lAL) (hts _ st_iAL) e1 hA, vx_Zqof (hts _ st_lUS) (hts _ st_iTh) x4 hA, vx_Zqof (hts _ st_lSS) (hts _ st_iTh) x5 hA, fun q hq => va_Nw.of rfl (hts _ (st_nest q hq)), fun Cn hC => ?_, va_Nw.of rfl (hts _ st_caJ), va_Dc.of (hts _ st_dec), va_Mi.of x6, fun q hq => ?_, fun w hw => va_Nw.of (nw_on (xnw_cd w hw)) (hts _ (st_xnt hw))⟩, rfl, rfl, ?_⟩
  · have hk : k = 15 ∨ k = 16 ∨ k = 17 ∨ k = 18 ∨ k = 19 ∨ k = 20 ∨ k = 21 := by omega
    rcases hk with rfl | rfl | rfl | rfl | rfl | rfl | rfl
    · exact ⟨a1, r1⟩
    · exact ⟨a2, r2⟩
    · exact ⟨a3, r3⟩
    · exact ⟨a4, r4⟩
    · exact ⟨a5, r5⟩
    · exact ⟨a6, r6⟩
    · exact ⟨a6, r6⟩
  · simp only [List.mem_cons, List.not_mem_nil, or_false] at hC
    rcases hC with rfl | rfl | rfl
    · exact va_AO.of (hts _ st_ao2)
    · exact va_AO.of (hts _ st_ao4)
    · exact va_AO.of (hts _ st_aoO)
  · obtain ⟨a, c', cell', k, hev, -⟩ := Cond.exactly_spec (st_strN hgv q hq)
    exact ⟨a, vk_R.of (hts _ (st_strT q hq)) hev⟩
  · intro a ha
    have hae : a = et := by
      by_cases z : a = et
      · exact z
      · exact absurd (show hK (st_S et) a = 0 from if_neg z) ha
    subst hae
    have h21 : hK (st_S a) a = 21 := if_pos rfl
    rw [h21]
    exact ⟨fun z => absurd z (by decide), fun _ => hA a hlt, Nat.le_refl _, fun z => absurd z (by decide), fun _ z => absurd z (by decide), fun _ => ⟨cell, e2, e3, e4, e5, e6⟩⟩
/-- from the entry, for every script of at most 2560 ints, the law comes to its end with true -/
theorem whole_start (hP : PureOwed) {p : Program} {e : Env} {s : State} {m : MethodId} {below : List Frame} {meth : Method} {c : Code} (l : Launch) (hl : l.stackTraces = false) {b L : Nat} {xs : Nat → Int32} (hL : L ≤ 2560) (hmn : meth.name = "law") (C0 : lw_At p s m meth c b L xs) : W p l e room_1 s m #[Value.ref b] below meth c s.heap [] 0 0 (lw_Z below #[Value.ref b] s) (entryFrame m ([Value.ref b] : List Value).toArray 8) := by
  obtain ⟨hx, hb, hr, hml, hown, hts, hX, hbl, hlk, hgv⟩ := C0
  obtain ⟨G, et, hKK, hEV, hA, hW⟩ := st_world hts hgv
  have hTS : ∀ w ∈ TS, w.before #[Value.ref b] s = true := fun w hw => hts w (List.mem_filter.mp hw).1
  have hbA : ¬ G.2.2.1 b := by rw [hA]; exact Nat.not_le.mpr hbl
  have C : Cx p s m #[Value.ref b] meth c cL_law 8 RL (some .boolean) "law" G := ⟨hx, hb, hml, hown, hTS, hr, hlk, hKK, fun q hq => by rw [hA]; exact hq, hEV, hmn⟩
  obtain ⟨ls, hent, hLV, hla⟩ := m_entry m (vs := [va_rf (some b)]) (nn := 8) [1] rfl (by decide)
  have h0 : ls[0]? = some (.val (va_rf (some b))) := hla (0, va_rf (some b)) (List.mem_of_getElem? (i := 0) rfl)
  rw [show ([Value.ref b] : List Value).toArray = ([va_rf (some b)] : List Value).toArray from rfl, hent]
  have hS : va_S G.2.2.1 s.heap s.heap [] := va_S.rf
  refine w_law_init (L := L) (xs := xs) hl C (fun S x mm out H locs ls hW hS hLV h0 h1 h2 h3 h4 hK => ?_) hW hS hLV h0 (hP (st_S et) et rfl (fun a => rfl) rfl xs L hL)
  obtain ⟨Inv, hI, hstep⟩ := hK
  refine w_law_loop (x := x) (mm := mm) (out := out) (xs := xs) hl C hX hbl hbA hL hstep ?_ 513 0 rfl S H locs ls hW hS hLV h0 h1 h2 h3 h4 hI
  intro H locs ls cells slots hS hc hs
  refine lv_iconst (v := 1) C.1 C.2.1 dL_law_1422 (by decide) ?_
  refine va_forget (fun q hq => ?_) ?_
  · have := hS.2.2 q hq
    rw [hA] at this
    exact this
  · refine W.widen (k := 601024) (n := 7293034) hc hs ?_
    exact lw_ret C.1 C.2.1 hr hlk dL_law_1423
set_option maxHeartbeats 4000000 in
theorem lw_walk (hP : PureOwed) (l : Launch) (hl : l.stackTraces = false) (b : Addr) (xs : List Int32) : MetFree l x (headSpec (Jvm.Cond.code x code maxLocals ret :: tables_1) room_1) (lw_P b xs) (fun _ _ _ _ _ => True) lw_Q := by
  refine MetFree.of_bodyS (code := code) (maxLocals := maxLocals) (ret := ret) (by decide) ?_ ?_
  · intro args s m h hn
    obtain ⟨meth, c, h1, h2, h3, h4, h5, h6, -, -⟩ := Cond.code_spec hn (atoms_spec (ws := Jvm.Cond.code x code maxLocals ret :: tables_1) h _ List.mem_cons_self)
    exact ⟨meth, c, h1, h2, h3, h4, h5, h6⟩
  · intro p e s m args below meth c s₁ B hml0 hP0 _
    obtain ⟨rfl, hx, hbd, hgv⟩ := hP0
    obtain ⟨scr, harrAt, hlist, hof, hsmall⟩ := hx
    obtain ⟨hcb, hkn, -, -⟩ := State.arrayAt?_spec harrAt
    have hown : s.vm.findClass R_law = some m.cls := findClass_of_methodNamed B.named
    have hts0 : ∀ c ∈ (Jvm.Cond.code x code maxLocals ret :: tables_1), c.before #[Value.ref b] s = true := atoms_spec (ws := Jvm.Cond.code x code maxLocals ret :: tables_1) B.pre
    have hts : ∀ w ∈ lw_tbl, w.before #[Value.ref b] s = true := k2_hts_sels lw_privs (fun w hw => hts0 w (List.mem_cons_of_mem _ hw)) lw_privs_ok
    have hml : c.maxLocals = 8 := B.maxLocals_eq (hts0 _ List.mem_cons_self)
    have X₀ : Stand p l e room_1 s m #[Value.ref b] below meth c s₁ [] 0 0 := Stand.of_body B
    have hh0 : s₁.heap = s.heap := by rw [B.state]; rfl
    have hsz : scr.slots.size = xs.length := by rw [← Array.length_toList, hlist, List.length_map]
    have hval : ∀ j : Nat, j < xs.length → scr.slots[j]? = some (.int (xs.getD j 0)) := fun j hj => by
      rw [← Array.getElem?_toList, hlist]
      simp [hj]
    have hbl : b < s.heap.size := (Array.getElem?_eq_some_iff.mp hcb).1
    have hX : va_X b xs.length (fun j => xs.getD j 0) s s.heap := ⟨scr, hcb, hof, hkn, hsz, hval⟩
    have hmn : meth.name = "law" := (name_of_methodNamed B.named B.method).1
    have K : W p l e room_1 s m #[Value.ref b] below meth c s₁.heap [] 0 0 (lw_Z below #[Value.ref b] s) (entryFrame m ([Value.ref b] : List Value).toArray 8) := by
      rw [hh0]
      exact whole_start hP l hl hbd hmn ⟨B.exec, B.bytes, B.returns, hml, hown, hts, hX, hbl, B.notSynchronized, hgv⟩
    obtain ⟨t, a1, o, b1, b2, b3⟩ := K s₁ rfl X₀
    exact ⟨t, o, a1, b1, b2, b3⟩
theorem lw_pre_spec {args : Array Value} {s : State} (h : (Jvm.Cond.and given_1 narrow_1).before args s = true) (hr : rest_1_c.before args s = true) : ∃ (b : Addr) (xs : List Int32), lw_P b xs args s := by
  have hs := flat_of_before _ h
  have hq := flat_of_before _ hr
  have hc : (Cond.count 1).before args s = true := hs _ (by decide +kernel)
  have harr : (Cond.arrayOf (.arg 0) .int).before args s = true := hs _ (by decide +kernel)
  have hle : (Cond.le (.length (.arg 0)) (.int 2560)).before args s = true := hs _ (by decide +kernel)
  have hlen : (Cond.isInt (.length (.arg 0))).before args s = true := hq _ (by decide +kernel)
  have hall : (Cond.all (.arg 0) (.isInt (.elem (.arg 0) (.index 0)))).before args s = true := hq _ (by decide +kernel)
  obtain ⟨b, xs, hb, hx⟩ := State.ints_of_pre rfl harr hlen hall
  have hsm : xs.length < 2 ^ 31 := hx.choose_spec.2.2.2
  have hev : (Term.length (.arg 0)).eval args s none [] s = some (.int xs.length.toInt32) := hx.length_eval hb
  have hv := Cond.le_ints hev (show (Term.int 2560).eval args s none [] s = some (.int 2560) from rfl)
  have hd : xs.length.toInt32 ≤ 2560 := by
    simpa [Cond.before, Cond.holds, hv] using hle
  have hN : xs.length ≤ 2560 := (Int32.ofNat_le_ofNat hsm (by decide)).mp (show Int32.ofNat xs.length ≤ Int32.ofNat 2560 from hd)
  exact ⟨b, xs, Cond.one_arg hc (show args[0]? = some (.ref b) from hb), hx, hN, h⟩
theorem lw_comes (hP : PureOwed) (l : Launch) (hl : l.stackTraces = false) : Comes l x (Jvm.Cond.code x code maxLocals ret :: tables_1) room_1 (fun tb e args s => Calls_1 tb e args s ∧ rest_1 tb e args s ∧ Pre_1 tb e args s)
    (fun _ _ args s o t => lw_Q args s o t) := by
  intro p e ha hc hk s m args below hf hfit hheap happ hpre
  obtain ⟨b, xs, hP0⟩ := lw_pre_spec hpre.2.2 hpre.2.1
  obtain ⟨k, o, h1, h2, h3, hQ⟩ := lw_walk hP l hl b xs p e ha hc hk s m args below hf ((Spec.applies_iff_loose hf).mp happ).1 hP0 trivial
  exact ⟨k, o, h1, h2, h3, hQ⟩
theorem lw_frame {s t : State} {o : Outcome} {args : Array Value} (h : Framed s o t [] 601024 7293034) :
    Framed s o t (fieldLocs frame_1_writes args s ++ arrayLocs frame_1_arrays args s ++ staticLocs frame_1_statics s) 601024 7293034 := h
theorem lw_flag {l : Launch} (h : l.flags = flags0) : l.stackTraces = false := by
  unfold Launch.stackTraces
  rw [h]
  decide
theorem lw_limb (hP : PureOwed) (L : Cond) (hL : ∀ (args : Array Value) (s t : State), L.after args s (.returned (some (.int 1))) t = true) :
    ArmFor flags0 classFile x code maxLocals ret World_1 tables_1 room_1 Calls_1 rest_1 Pre_1
      (fun tb e a s o t => postC L tb e a s o t ∧ Framed s o t (fieldLocs frame_1_writes a s ++ arrayLocs frame_1_arrays a s ++ staticLocs frame_1_statics s) 601024 7293034) := by
  intro l hfl _ _ p e ha hc hk s m args below hf hfit hheap happ hpre
  obtain ⟨k, o, h1, h2, h3, rfl, hF⟩ := lw_comes hP l (lw_flag hfl) p e ha hc hk s m args below hf hfit hheap happ hpre
  exact ⟨k, _, h1, h2, h3, hL args s _, lw_frame hF⟩
theorem vc_of_pure (hP : PureOwed) : Claimed_1_1 ∧ Claimed_1_2 := ⟨lw_limb hP limb_1_1 (fun args s t => by simp [limb_1_1, Cond.after, Cond.holds, Cond.value]), lw_limb hP limb_1_2 (fun args s t => Cond.after_iff.mpr (by
  first | (rw [show limb_1_2 = Cond.eq .result (.int 1) from rfl, Cond.eq_ints (x := 1) (y := 1) rfl rfl]; simp; done) | (simp [limb_1_2, Cond.value, Term.eval]; done)))⟩
