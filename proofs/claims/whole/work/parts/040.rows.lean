def TS : List Cond := lw_tbl.filter goodWord
theorem TS_mem {w : Cond} (h : w ∈ lw_tbl) (g : goodWord w = true) : w ∈ TS := List.mem_filter.mpr ⟨h, g⟩
theorem TS_good {w : Cond} (h : w ∈ TS) : (w.onTables && w.keeps) = true ∨ ∃ ty, w = .arrayClass ty := good_of_word (List.mem_filter.mp h).2
theorem TS_goodIn {ws : List Cond} (h : ∀ w ∈ ws, w ∈ TS) : GoodIn TS ws := fun w hw => ⟨h w hw, TS_good (h w hw)⟩
/-- the strings that are thrown with; the nest mates' private constructors -/
def strs : List (Nat × String) := [(295, "there is no such job"), (231, "there is no such failure"), (236, "there is no such stock"), (244, "there is no such machine"), (249, "there is no such craft")]
def nests : List (String × Nat × MethodName) := [(RX11, 9, yX9_init), (RX11, 27, yX1_init), (RX8, 33, yX5_init), (RX8, 40, yX3_init), (RX4, 21, yX5_init), (RX4, 28, yX0_init), (RX4, 38, yX7_init)]
/-- the words of a throw; those that the tables keep in their own way -/
def xat : List Cond := vx_atS RX11 233 "java/util/NoSuchElementException" ["java/lang/RuntimeException", "java/lang/Exception"]
def xnw : List Cond := xat.filter (fun w => !goodWord w)
def isCD : Cond → Bool
  | .castable _ _ => true
  | .declares _ => true
  | _ => false
theorem xnw_cd : ∀ w ∈ xnw, isCD w = true := by decide +kernel
theorem nw_warm {w : Cond} (h : isCD w = true) {s U : State} (hW : s.WarmedH U.vm) (hZ : va_Nw w s) : va_Nw w U := by
  cases w <;> first | exact va_Nw.warmC hW hZ | exact va_Nw.warmD hW hZ | (simp [isCD] at h)
theorem nw_on {w : Cond} (h : isCD w = true) : w.onTables = true := by
  cases w <;> first | rfl | (simp [isCD] at h)
def KK (G : GX) (U : State) : Prop := (∀ (c : Nat) (q : vw_C), vwCl[c]? = some q → u_Kn U q.1 q.2.1 q.2.2 (G.1.1 c) (G.1.2 c)) ∧ ∀ k : Nat, 15 ≤ k → k ≤ 21 → ArrOfT U (G.2.1 k) (kft k) ∧ va_RA U (G.2.1 k) (kft k)
theorem KK.moved {G : GX} {u U : State} (hvm : u.vm.Alike U.vm) (h : KK G u) : KK G U := ⟨fun c q hq => u_Kn_moved hvm (h.1 c q hq), fun k h1 h2 => ⟨arrOfT_moved hvm (h.2 k h1 h2).1, (h.2 k h1 h2).2.moved hvm⟩⟩
/-- what was there ahead of the law: ArrayList's empty array, Throwable's two statics, words that the tables keep -/
def EV (G : GX) (U : State) : Prop :=
  va_Z "java/util/ArrayList" "DEFAULTCAPACITY_EMPTY_ELEMENTDATA" "[Ljava/lang/Object;" (.ref G.2.2.2) G.2.2.1 U U.heap ∧ vx_Zq Bundle.tN "UNASSIGNED_STACK" Bundle.steD G.2.2.1 U U.heap ∧ vx_Zq Bundle.tN "SUPPRESSED_SENTINEL" Bundle.listD G.2.2.1 U U.heap ∧
  (∀ q ∈ nests, va_Nw (.methodLinkNest q.1 q.2.1 q.2.2 RX11) U) ∧ (∀ C ∈ [RX2, RX4, "java/lang/Object"], va_AO C U) ∧ va_Nw (.castable RX4 "java/lang/Object") U ∧ va_Dc U ∧ (∃ mi : Nat, va_Mi "[Ljava/lang/Object;" mi U) ∧ (∀ q ∈ strs, ∃ sa : Nat, vk_R RX11 q.1 q.2 sa U) ∧ (∀ w ∈ xnw, va_Nw w U)
theorem EV.warm {G : GX} {u U : State} (hvm : u.WarmedH U.vm) (hH : ∀ a : Nat, a < u.heap.size → ¬ G.2.2.1 a → U.heap[a]? = u.heap[a]?) (h : EV G u) : EV G U := by
  obtain ⟨h1, h2, h3, h4, h5, h6, h7, ⟨mi, h8⟩, h9, h10⟩ := h
  exact ⟨(h1.moved hvm.alike).kept hH, (h2.moved hvm.alike).kept hH, (h3.moved hvm.alike).kept hH, fun q hq => (h4 q hq).warmM hvm, fun C hC => (h5 C hC).moved hvm.alike, h6.warmC hvm, h7.moved hvm.alike, ⟨mi, h8.moved hvm.alike⟩, fun q hq => ⟨_, (h9 q hq).choose_spec.warm hvm⟩, fun w hw => nw_warm (xnw_cd w hw) hvm (h10 w hw)⟩
theorem EV.same {G : GX} {u U : State} (hvm : u.vm = U.vm) (hH : U.heap = u.heap) (h : EV G u) : EV G U := by
  obtain ⟨h1, h2, h3, h4, h5, h6, h7, ⟨mi, h8⟩, h9, h10⟩ := h
  have ha : u.vm.Alike U.vm := by rw [hvm]; exact Vm.Alike.refl _
  have hk : ∀ a : Nat, a < u.heap.size → ¬ G.2.2.1 a → U.heap[a]? = u.heap[a]? := fun a _ _ => by rw [hH]
  exact ⟨(h1.moved ha).kept hk, (h2.moved ha).kept hk, (h3.moved ha).kept hk, fun q hq => (h4 q hq).same rfl hvm, fun C hC => (h5 C hC).moved ha, h6.same rfl hvm, h7.moved ha, ⟨mi, h8.moved ha⟩, fun q hq => ⟨_, (h9 q hq).choose_spec.same hvm.symm⟩, fun w hw => va_Nw.same (nw_on (xnw_cd w hw)) hvm (h10 w hw)⟩
/-- a method's start: the world, the tables, what is free -/
def Kt (G : GX) (S : Hp) (U : State) : Prop := wd G S U.heap ∧ KK G U ∧ (∀ q : Nat, U.heap.size ≤ q → G.2.2.1 q) ∧ EV G U
def Pk (G : GX) (S : Hp) (av : List Value) : Array Value → State → Prop := va_Pc av (Kt G S)
theorem Pk.blind {G : GX} {S : Hp} {av : List Value} : FrameBlind (Pk G S av) := fun a U g mk h => ⟨h.1, h.2.1, h.2.2.1.moved (u := U) (U := U.calling g mk a) (Vm.Alike.refl U.vm), h.2.2.2.1, EV.same (u := U) (U := U.calling g mk a) rfl rfl h.2.2.2.2⟩
def QI (G : GX) (P : Int32 → Hp → Prop) : Array Value → State → Outcome → State → Prop := va_Qi P (fun S t => wd G S t.heap) G.2.2.1
def QL (G : GX) (P : Int64 → Hp → Prop) : Array Value → State → Outcome → State → Prop := va_Ql P (fun S t => wd G S t.heap) G.2.2.1
def QV (G : GX) (P : Hp → Prop) : Array Value → State → Outcome → State → Prop := va_Qv P (fun S t => wd G S t.heap) G.2.2.1
def QR (G : GX) (P : Option Nat → Hp → Prop) : Array Value → State → Outcome → State → Prop := va_Qq P (fun S t => wd G S t.heap) G.2.2.1
/-- what stands through a method's walk -/
def Cx (p : Program) (s : State) (m : MethodId) (args : Array Value) (meth : Method) (c : Code) (cc : ByteArray) (nL : Nat) (own : String) (ret : Option FieldType) (mn : String) (G : GX) : Prop :=
  p.tables.exec = Jvm.exec ∧ c.code = cc ∧ c.maxLocals = nL ∧ s.vm.findClass own = some m.cls ∧ (∀ w ∈ TS, w.before args s = true) ∧ meth.sig.returnType = ret ∧ meth.locks = false ∧ KK G s ∧ (∀ q : Nat, s.heap.size ≤ q → G.2.2.1 q) ∧ EV G s ∧ meth.name = mn
/-- a field of kind k, place i, by an entry of the class 'own' -/
def FOK (own : String) (idx k i : Nat) : Prop := ∃ (C : String) (T : u_T) (N : Nat), vwCl[k - 1]? = some (C, T, N) ∧ i < N ∧ N = (ksig k).length ∧ 1 ≤ k ∧ k ≤ 14 ∧ (∀ w ∈ u_ws C T N, w ∈ TS) ∧ Cond.fieldLink own idx (T i).1 (T i).2.1 (T i).2.2.1 ∈ TS
def tyOk (t : Nat) (ty : FieldType) : Prop := match t with
  | 0 => ty = .int
  | 1 => ty = .long
  | 2 => ∀ o : Option Nat, narrow ty (va_rf o) = va_rf o ∧ fits ty (va_rf o) = true
  | _ => ty = .boolean
def POK (own : String) (idx k i t : Nat) (fin : Bool) : Prop := ∃ (C : String) (T : u_T) (N : Nat) (ty0 : Nat → FieldType), vwCl[k - 1]? = some (C, T, N) ∧ i < N ∧ N = (ksig k).length ∧ 1 ≤ k ∧ k ≤ 14 ∧ (∀ w ∈ u_ws C T N, w ∈ TS) ∧ Cond.fieldLink own idx (T i).1 (T i).2.1 (T i).2.2.1 ∈ TS ∧ (∀ j, j < N → parseFieldDescriptor (T j).2.2.1 = some (ty0 j)) ∧ (∀ a, a < N → ∀ b, b < N → a ≠ b → (T a).2.1 ≠ (T b).2.1) ∧ (T i).2.2.2 = fin ∧ tyOk t (ty0 i) ∧ (fin = true → (T i).1 = own)
section MR
variable {p : Program} {l : Launch} {e : Env} {R : Room} {s : State} {m : MethodId} {args : Array Value} {below : List Frame} {meth : Method} {c : Code} {H : Heap} {locs : List Loc} {cells slots : Nat} {Q : State → Prop}
  {cc : ByteArray} {nL : Nat} {own : String} {ret : Option FieldType} {mn : String} {G : GX} {S : Hp} {pc : Nat} {ls : Array Slot} {rest : List Value} {a k i idx : Nat} {o : Option Nat}
theorem m_get (C : Cx p s m args meth c cc nL own ret mn G) (hW : wd G S H) (hk : hK S a = k) (hf : FOK own idx k i) (hdg : decode cc pc = .ok (.getfield idx, 3))
    (kk : W p l e R s m args below meth c H locs cells slots Q (F0 m (pc + 3) ls (hV S a ((ksig k).getD i 0) i :: rest))) : W p l e R s m args below meth c H locs cells slots Q (F0 m pc ls (.ref a :: rest)) := by
  obtain ⟨Cn, T, N, hc, hi, hN, k1, k2, hin, hlk⟩ := hf
  obtain ⟨cell, q1, q2, q3, q4⟩ := hW.obj hk k1 k2
  obtain ⟨hS, hfc, kC, hkC, hkind⟩ := C.2.2.2.2.2.2.2.1.1 _ _ hc
  obtain ⟨cf, kf, fi, f, hfi, hsl⟩ := hS i hi
  refine W.getf C.1 C.2.1 C.2.2.2.1 (C.2.2.2.2.1 _ hlk) hfi (u_facts hfc hkC (u_lays C.2.2.2.2.1 hin hi) hfi).1 q1 (by rw [q3]; exact fun h => by cases h) (v := hV S a ((ksig k).getD i 0) i) ?_ rfl rfl hdg kk
  rw [hsl, q4 i (by omega)]
theorem m_getI (C : Cx p s m args meth c cc nL own ret mn G) (hW : wd G S H) (ho : o = some a) (hk : hK S a = k) (hf : FOK own idx k i) (hs : (ksig k).getD i 0 = 0) (hdg : decode cc pc = .ok (.getfield idx, 3))
    (kk : W p l e R s m args below meth c H locs cells slots Q (F0 m (pc + 3) ls (.int (hI S a i) :: rest))) : W p l e R s m args below meth c H locs cells slots Q (F0 m pc ls (va_rf o :: rest)) := by
  subst ho
  exact m_get C hW hk hf hdg (by rw [hs]; exact kk)
theorem m_getJ (C : Cx p s m args meth c cc nL own ret mn G) (hW : wd G S H) (ho : o = some a) (hk : hK S a = k) (hf : FOK own idx k i) (hs : (ksig k).getD i 0 = 1) (hdg : decode cc pc = .ok (.getfield idx, 3))
    (kk : W p l e R s m args below meth c H locs cells slots Q (F0 m (pc + 3) ls (.long (hJ S a i) :: rest))) : W p l e R s m args below meth c H locs cells slots Q (F0 m pc ls (va_rf o :: rest)) := by
  subst ho
  exact m_get C hW hk hf hdg (by rw [hs]; exact kk)
theorem m_getR (C : Cx p s m args meth c cc nL own ret mn G) (hW : wd G S H) (ho : o = some a) (hk : hK S a = k) (hf : FOK own idx k i) (hs : (ksig k).getD i 0 = 2) (hdg : decode cc pc = .ok (.getfield idx, 3))
    (kk : W p l e R s m args below meth c H locs cells slots Q (F0 m (pc + 3) ls (va_rf (hR S a i) :: rest))) : W p l e R s m args below meth c H locs cells slots Q (F0 m pc ls (va_rf o :: rest)) := by
  subst ho
  exact m_get C hW hk hf hdg (by rw [hs]; exact kk)
/-- putfield, of whatever sort: the heap behind it is S1 -/
theorem m_put (C : Cx p s m args meth c cc nL own ret mn G) (hW : wd G S H) (hS : va_S G.2.2.1 s.heap H locs) {t : Nat} {fin : Bool} (hk : hK S a = k) (hf : POK own idx k i t fin) (hmn : fin = true → mn = "<init>") {v : Value} (hv : ∀ ty, tyOk t ty → narrow ty v = v ∧ fits ty v = true) {S1 : Hp} (e1 : hT S1 = hT S) (e2 : ∀ b, hK S1 b = hK S b) (e3 : ∀ b, hN S1 b = hN S b) (e4 : ∀ b t j, b ≠ a → hV S1 b t j = hV S b t j)
    (e5 : ∀ j, hV S1 a ((ksig k).getD j 0) j = if j = i then v else hV S a ((ksig k).getD j 0) j) (hdg : decode cc pc = .ok (.putfield idx, 3))
    (kk : ∀ (H1 : Heap) (locs1 : List Loc), wd G S1 H1 → va_S G.2.2.1 s.heap H1 locs1 → W p l e R s m args below meth c H1 locs1 cells slots Q (F0 m (pc + 3) ls rest)) : W p l e R s m args below meth c H locs cells slots Q (F0 m pc ls (v :: .ref a :: rest)) := by
  obtain ⟨Cn, T, N, ty0, hc, hi, hN, k1, k2, hin, hlk, hty, hnm, hfin, hok, hdecl⟩ := hf
  obtain ⟨cell, q1, q2, q3, q4⟩ := hW.obj hk k1 k2
  obtain ⟨hSl, hfc, kC, hkC, hkind⟩ := C.2.2.2.2.2.2.2.1.1 _ _ hc
  obtain ⟨cf, kf, fi, f, hfi, hsl⟩ := hSl i hi
  have hts := C.2.2.2.2.1
  have hap : ∀ x y, x < N → y < N → x ≠ y → (G.1.2 (k - 1)) x ≠ (G.1.2 (k - 1)) y := by
    intro x y hx hy hne
    obtain ⟨_, _, _, fa, hia, ea⟩ := hSl x hx
    obtain ⟨_, _, _, fb, hib, eb⟩ := hSl y hy
    rw [← ea, ← eb]
    refine u_apart (u_lays hts hin hx) (u_lays hts hin hy) hia hib ?_
    rw [(State.fieldFound?_type hia (hty x hx)).1, (State.fieldFound?_type hib (hty y hy)).1]
    exact hnm x hx y hy hne
  have hlay := hts _ (hin _ (u_in_lay hi))
  unfold u_lay at hlay
  have hst := (u_facts hfc hkC (u_lays hts hin hi) hfi).1
  obtain ⟨hn, hfit⟩ := hv _ hok
  have hk0 : hK S a ≠ 0 := by rw [hk]; omega
  have hAa : G.2.2.1 a := (hW.2 a hk0).1 (by rw [hk]; omega)
  subst hN
  have fin_ : ∀ (H' : Heap), H'[a]? = some (cell.setSlot (G.1.2 (k - 1) i) v) → H'.size = H.size → (∀ q, q ≠ a → H'[q]? = H[q]?) → W p l e R s m args below meth c H' (locs ++ [⟨a, G.1.2 (k - 1) i⟩]) cells slots Q (F0 m (pc + 3) ls rest) := by
    intro H' g1 g2 g3
    refine kk H' _ (hW.put e1 e2 e3 e4 g3 (fun _ _ => ?_) (fun z => by rw [hk] at z; omega) (by rw [hk]; omega)) (hS.put g2 g3 hAa)
    rw [hk]
    refine t_OB.to (V := updV (fun j => hV S a ((ksig k).getD j 0) j) i v) ⟨_, g1, q2, q3, t_set q4 hap hi v⟩ (fun j _ => ?_)
    rw [e5 j]
    rfl
  cases fin with
  | false =>
    rw [if_neg (by rw [hfin]; decide)] at hlay
    have h6 := u_store hfc hkC hkind hlay hfi (hty i hi) hn hfit
    refine W.putK C.1 C.2.1 (f := f) ⟨C.2.2.2.1, hts _ hlk, ⟨_, _, _, hfi⟩, hst⟩ (by rw [q2]; exact h6) q1 q3 (by rw [hsl]; exact k2_hasslot (q4 i hi)) rfl rfl hdg fun H' g1 g2 g3 => ?_
    rw [hsl] at g1 ⊢
    exact fin_ H' g1 g2 g3
  | true =>
    rw [if_pos hfin] at hlay
    have hcf : m.cls = cf := by
      obtain ⟨_, _, c', _, _, _, -, -, hf', -, -, -, hown2, -⟩ := Cond.laysFinal_spec hlay
      have e1 : c' = cf := by have := hfi.symm.trans hf'; simp at this; exact this.1.symm
      rw [hdecl rfl] at hown2
      rw [← e1]; exact Option.some.inj (C.2.2.2.1.symm.trans hown2)
    have h6 := u_fits hfc hkC hkind (Or.inr hlay) hfi (hty i hi) hn hfit
    refine W.putFinK C.1 C.2.1 C.2.2.2.1 (hts _ hlk) hfi hst hcf (C.2.2.2.2.2.2.2.2.2.2.trans (hmn rfl)) (by rw [q2]; exact h6) q1 q3 (by rw [hsl]; exact k2_hasslot (q4 i hi)) rfl rfl hdg fun H' g1 g2 g3 => ?_
    rw [hsl] at g1 ⊢
    exact fin_ H' g1 g2 g3
theorem m_putI (C : Cx p s m args meth c cc nL own ret mn G) (hW : wd G S H) (hS : va_S G.2.2.1 s.heap H locs) {fin : Bool} {x : Int32} (ho : o = some a) (hk : hK S a = k) (hf : POK own idx k i 0 fin) (hmn : fin = true → mn = "<init>") (hs : (ksig k).getD i 0 = 0) (hdg : decode cc pc = .ok (.putfield idx, 3))
    (kk : ∀ (H1 : Heap) (locs1 : List Loc), wd G (sI S a i x) H1 → va_S G.2.2.1 s.heap H1 locs1 → W p l e R s m args below meth c H1 locs1 cells slots Q (F0 m (pc + 3) ls rest)) : W p l e R s m args below meth c H locs cells slots Q (F0 m pc ls (.int x :: va_rf o :: rest)) := by
  subst ho
  refine m_put (S1 := sI S a i x) C hW hS hk hf hmn (fun ty h => ?_) rfl (fun _ => rfl) (fun _ => rfl) (fun b t j h => hV_sI h) (fun j => hV_sIs ?_) hdg kk
  · cases (show ty = .int from h); exact ⟨rfl, rfl⟩
  · by_cases e : j = i
    · left; rw [e]; exact hs
    · exact Or.inr e
theorem m_putZ (C : Cx p s m args meth c cc nL own ret mn G) (hW : wd G S H) (hS : va_S G.2.2.1 s.heap H locs) {fin : Bool} {x : Int32} (ho : o = some a) (hk : hK S a = k) (hf : POK own idx k i 3 fin) (hmn : fin = true → mn = "<init>") (hz : x = 0 ∨ x = 1) (hs : (ksig k).getD i 0 = 0) (hdg : decode cc pc = .ok (.putfield idx, 3))
    (kk : ∀ (H1 : Heap) (locs1 : List Loc), wd G (sI S a i x) H1 → va_S G.2.2.1 s.heap H1 locs1 → W p l e R s m args below meth c H1 locs1 cells slots Q (F0 m (pc + 3) ls rest)) : W p l e R s m args below meth c H locs cells slots Q (F0 m pc ls (.int x :: va_rf o :: rest)) := by
  subst ho
  refine m_put (S1 := sI S a i x) C hW hS hk hf hmn (fun ty h => ?_) rfl (fun _ => rfl) (fun _ => rfl) (fun b t j h => hV_sI h) (fun j => hV_sIs ?_) hdg kk
  · cases (show ty = .boolean from h); rcases hz with rfl | rfl <;> exact ⟨rfl, rfl⟩
  · by_cases e : j = i
    · left; rw [e]; exact hs
    · exact Or.inr e
theorem m_putJ (C : Cx p s m args meth c cc nL own ret mn G) (hW : wd G S H) (hS : va_S G.2.2.1 s.heap H locs) {fin : Bool} {x : Int64} (ho : o = some a) (hk : hK S a = k) (hf : POK own idx k i 1 fin) (hmn : fin = true → mn = "<init>") (hs : (ksig k).getD i 0 = 1) (hdg : decode cc pc = .ok (.putfield idx, 3))
    (kk : ∀ (H1 : Heap) (locs1 : List Loc), wd G (sJ S a i x) H1 → va_S G.2.2.1 s.heap H1 locs1 → W p l e R s m args below meth c H1 locs1 cells slots Q (F0 m (pc + 3) ls rest)) : W p l e R s m args below meth c H locs cells slots Q (F0 m pc ls (.long x :: va_rf o :: rest)) := by
  subst ho
  refine m_put (S1 := sJ S a i x) C hW hS hk hf hmn (fun ty h => ?_) rfl (fun _ => rfl) (fun _ => rfl) (fun b t j h => hV_sJ h) (fun j => hV_sJs ?_) hdg kk
  · cases (show ty = .long from h); exact ⟨rfl, rfl⟩
  · by_cases e : j = i
    · left; rw [e]; exact hs
    · exact Or.inr e
theorem m_putR (C : Cx p s m args meth c cc nL own ret mn G) (hW : wd G S H) (hS : va_S G.2.2.1 s.heap H locs) {fin : Bool} {x : Option Nat} (ho : o = some a) (hk : hK S a = k) (hf : POK own idx k i 2 fin) (hmn : fin = true → mn = "<init>") (hs : (ksig k).getD i 0 = 2) (hdg : decode cc pc = .ok (.putfield idx, 3))
    (kk : ∀ (H1 : Heap) (locs1 : List Loc), wd G (sR S a i x) H1 → va_S G.2.2.1 s.heap H1 locs1 → W p l e R s m args below meth c H1 locs1 cells slots Q (F0 m (pc + 3) ls rest)) : W p l e R s m args below meth c H locs cells slots Q (F0 m pc ls (va_rf x :: va_rf o :: rest)) := by
  subst ho
  refine m_put (S1 := sR S a i x) C hW hS hk hf hmn (fun ty h => h x) rfl (fun _ => rfl) (fun _ => rfl) (fun b t j h => hV_sR h) (fun j => hV_sRs ?_) hdg kk
  by_cases e : j = i
  · left; rw [e]; exact hs
  · exact Or.inr e

/-! arrays -/
theorem m_iald (C : Cx p s m args meth c cc nL own ret mn G) (hW : wd G S H) {j : Int32} (ho : o = some a) (hk : hK S a = 15) (hin : vp_in j (hN S a)) (hdg : decode cc pc = .ok (.iaload, 1))
    (kk : W p l e R s m args below meth c H locs cells slots Q (F0 m (pc + 1) ls (.int (hI S a j.toNatClampNeg) :: rest))) : W p l e R s m args below meth c H locs cells slots Q (F0 m pc ls (.int j :: va_rf o :: rest)) := by
  subst ho
  have hlt : j.toNatClampNeg < hN S a := Nat.not_le.mp fun q => hin (Or.inr q)
  exact W.iald (v := .int (hI S a j.toNatClampNeg)) C.1 C.2.1 (hW.arr hk (by decide) (by decide)) ((C.2.2.2.2.2.2.2.1.2 15 (by decide) (by decide)).1 _ _) (fun q => by cases q) (by show ¬ (j < 0 ∨ (arrV _ _ _).slots.size ≤ _); rw [arrV_size]; exact hin) (by show (arrV _ _ _).slots[_]? = _; rw [arrV_read _ _ hlt]; rfl) rfl rfl hdg kk
theorem m_zald (C : Cx p s m args meth c cc nL own ret mn G) (hW : wd G S H) {j : Int32} (ho : o = some a) (hk : hK S a = 17) (hin : vp_in j (hN S a)) (hdg : decode cc pc = .ok (.baload, 1))
    (kk : W p l e R s m args below meth c H locs cells slots Q (F0 m (pc + 1) ls (.int (hI S a j.toNatClampNeg) :: rest))) : W p l e R s m args below meth c H locs cells slots Q (F0 m pc ls (.int j :: va_rf o :: rest)) := by
  subst ho
  have hlt : j.toNatClampNeg < hN S a := Nat.not_le.mp fun q => hin (Or.inr q)
  exact W.zald (v := .int (hI S a j.toNatClampNeg)) C.1 C.2.1 (hW.arr hk (by decide) (by decide)) ((C.2.2.2.2.2.2.2.1.2 17 (by decide) (by decide)).1 _ _) (fun q => by cases q) (by show ¬ (j < 0 ∨ (arrV _ _ _).slots.size ≤ _); rw [arrV_size]; exact hin) (by show (arrV _ _ _).slots[_]? = _; rw [arrV_read _ _ hlt]; rfl) rfl rfl hdg kk
theorem m_lald (C : Cx p s m args meth c cc nL own ret mn G) (hW : wd G S H) {j : Int32} (ho : o = some a) (hk : hK S a = 16) (hin : vp_in j (hN S a)) (hdg : decode cc pc = .ok (.laload, 1))
    (kk : W p l e R s m args below meth c H locs cells slots Q (F0 m (pc + 1) ls (.long (hJ S a j.toNatClampNeg) :: rest))) : W p l e R s m args below meth c H locs cells slots Q (F0 m pc ls (.int j :: va_rf o :: rest)) := by
  subst ho
  have hlt : j.toNatClampNeg < hN S a := Nat.not_le.mp fun q => hin (Or.inr q)
  exact W.lald (v := .long (hJ S a j.toNatClampNeg)) C.1 C.2.1 (hW.arr hk (by decide) (by decide)) ((C.2.2.2.2.2.2.2.1.2 16 (by decide) (by decide)).1 _ _) (fun q => by cases q) (by show ¬ (j < 0 ∨ (arrV _ _ _).slots.size ≤ _); rw [arrV_size]; exact hin) (by show (arrV _ _ _).slots[_]? = _; rw [arrV_read _ _ hlt]; rfl) rfl rfl hdg kk
theorem kft_ref {k : Nat} (h1 : 18 ≤ k) : ∃ C, kft k = .object C := by
  by_cases h : k = 18
  · subst h; exact ⟨_, rfl⟩
  · by_cases h : k = 19
    · subst h; exact ⟨_, rfl⟩
    · obtain ⟨n, rfl⟩ : ∃ n, k = n + 20 := ⟨k - 20, by omega⟩
      exact ⟨_, rfl⟩
theorem kty_ref {k : Nat} (h1 : 18 ≤ k) : kty k = 2 := by
  obtain ⟨n, rfl⟩ : ∃ n, k = n + 18 := ⟨k - 18, by omega⟩
  rfl
theorem m_aald (C : Cx p s m args meth c cc nL own ret mn G) (hW : wd G S H) {j : Int32} (ho : o = some a) (hk : hK S a = k) (h1 : 18 ≤ k) (h2 : k ≤ 20) (hin : vp_in j (hN S a)) (hdg : decode cc pc = .ok (.aaload, 1))
    (kk : W p l e R s m args below meth c H locs cells slots Q (F0 m (pc + 1) ls (va_rf (hR S a j.toNatClampNeg) :: rest))) : W p l e R s m args below meth c H locs cells slots Q (F0 m pc ls (.int j :: va_rf o :: rest)) := by
  subst ho
  have hlt : j.toNatClampNeg < hN S a := Nat.not_le.mp fun q => hin (Or.inr q)
  obtain ⟨Cn, hC⟩ := kft_ref h1
  have hA := (C.2.2.2.2.2.2.2.1.2 k (by omega) (by omega)).1
  rw [hC] at hA
  exact W.aald (v := va_rf (hR S a j.toNatClampNeg)) (ty := .object Cn) C.1 C.2.1 (hW.arr hk (by omega) h2) (hA _ _) rfl (fun q => by cases q) (by show ¬ (j < 0 ∨ (arrV _ _ _).slots.size ≤ _); rw [arrV_size]; exact hin) (by show (arrV _ _ _).slots[_]? = _; rw [arrV_read _ _ hlt, kty_ref h1]; rfl) rfl rfl hdg kk
theorem m_alen (C : Cx p s m args meth c cc nL own ret mn G) (hW : wd G S H) (ho : o = some a) (hk : hK S a = k) (h1 : 15 ≤ k) (h2 : k ≤ 21) (hdg : decode cc pc = .ok (.arraylength, 1))
    (kk : W p l e R s m args below meth c H locs cells slots Q (F0 m (pc + 1) ls (.int (nI (hN S a)) :: rest))) : W p l e R s m args below meth c H locs cells slots Q (F0 m pc ls (va_rf o :: rest)) := by
  subst ho
  by_cases h3 : k ≤ 20
  · exact W.alen (n := nI (hN S a)) C.1 C.2.1 (hW.arr hk h1 h3) ((C.2.2.2.2.2.2.2.1.2 k h1 h2).1 _ _) (by rw [arrV_size] <;> rfl) rfl rfl hdg kk
  · obtain rfl : k = 21 := by omega
    obtain ⟨cell, q1, q2, q3, q4, q5⟩ := (hW.2 a (by rw [hk]; decide)).2.2.2.2.2 hk
    obtain ⟨-, kA, r1, comp, r2⟩ := (C.2.2.2.2.2.2.2.1.2 21 (by decide) (by decide)).1 0 (fun _ => .null)
    exact W.alen (n := nI (hN S a)) (ty := kft 21) C.1 C.2.1 q1 ⟨q3, kA, by rw [q2]; exact r1, comp, r2⟩ (by rw [q5] <;> rfl) rfl rfl hdg kk
/-- behind a store into an array -/
theorem m_ast (hW : wd G S H) (hS : va_S G.2.2.1 s.heap H locs) {H1 : Heap} {S1 : Hp} {v : Value} (hk : hK S a = k) (h1 : 15 ≤ k) (h2 : k ≤ 20) (e1 : hT S1 = hT S) (e2 : ∀ b, hK S1 b = hK S b) (e3 : ∀ b, hN S1 b = hN S b) (e4 : ∀ b t j, b ≠ a → hV S1 b t j = hV S b t j) (e5 : ∀ j, hV S1 a (kty k) j = if j = i then v else hV S a (kty k) j)
    (g1 : H1[a]? = some ((arrV (G.2.1 k) (hN S a) (fun j => hV S a (kty k) j)).setSlot i v)) (g2 : H1.size = H.size) (g3 : ∀ q, q ≠ a → H1[q]? = H[q]?) : wd G S1 H1 ∧ va_S G.2.2.1 s.heap H1 (locs ++ [⟨a, i⟩]) := by
  have hk0 : hK S a ≠ 0 := by rw [hk]; omega
  have hAa : G.2.2.1 a := (hW.2 a hk0).1 (by rw [hk]; omega)
  refine ⟨hW.put e1 e2 e3 e4 g3 (fun _ z => by rw [hk] at z; omega) (fun _ => ?_) (by rw [hk]; omega), hS.put g2 g3 hAa⟩
  rw [hk, g1, arrV_store]
  congr 2
  funext j
  rw [e5 j]
  rfl
theorem m_iast (C : Cx p s m args meth c cc nL own ret mn G) (hW : wd G S H) (hS : va_S G.2.2.1 s.heap H locs) {j x : Int32} (ho : o = some a) (hk : hK S a = 15) (hin : vp_in j (hN S a)) (hdg : decode cc pc = .ok (.iastore, 1))
    (kk : ∀ (H1 : Heap) (locs1 : List Loc), wd G (sI S a j.toNatClampNeg x) H1 → va_S G.2.2.1 s.heap H1 locs1 → W p l e R s m args below meth c H1 locs1 cells slots Q (F0 m (pc + 1) ls rest)) : W p l e R s m args below meth c H locs cells slots Q (F0 m pc ls (.int x :: .int j :: va_rf o :: rest)) := by
  subst ho
  refine W.iast C.1 C.2.1 (hW.arr hk (by decide) (by decide)) ((C.2.2.2.2.2.2.2.1.2 15 (by decide) (by decide)).1 _ _) (fun q => by cases q) (by show ¬ (j < 0 ∨ (arrV _ _ _).slots.size ≤ _); rw [arrV_size]; exact hin) rfl rfl hdg fun H1 e z oq => ?_
  obtain ⟨q1, q2⟩ := m_ast (S1 := sI S a j.toNatClampNeg x) hW hS hk (by decide) (by decide) rfl (fun _ => rfl) (fun _ => rfl) (fun b t j h => hV_sI h) (fun j => hV_sIs (Or.inl rfl)) e z oq
  exact kk _ _ q1 q2
theorem m_zast (C : Cx p s m args meth c cc nL own ret mn G) (hW : wd G S H) (hS : va_S G.2.2.1 s.heap H locs) {j x : Int32} (ho : o = some a) (hk : hK S a = 17) (hin : vp_in j (hN S a)) (hz : x = 0 ∨ x = 1) (hdg : decode cc pc = .ok (.bastore, 1))
    (kk : ∀ (H1 : Heap) (locs1 : List Loc), wd G (sI S a j.toNatClampNeg x) H1 → va_S G.2.2.1 s.heap H1 locs1 → W p l e R s m args below meth c H1 locs1 cells slots Q (F0 m (pc + 1) ls rest)) : W p l e R s m args below meth c H locs cells slots Q (F0 m pc ls (.int x :: .int j :: va_rf o :: rest)) := by
  subst ho
  refine W.zast C.1 C.2.1 (hW.arr hk (by decide) (by decide)) ((C.2.2.2.2.2.2.2.1.2 17 (by decide) (by decide)).1 _ _) (fun q => by cases q) (by show ¬ (j < 0 ∨ (arrV _ _ _).slots.size ≤ _); rw [arrV_size]; exact hin) rfl rfl hdg fun H1 e z oq => ?_
  rw [show narrow .boolean (.int x) = .int x by rcases hz with rfl | rfl <;> rfl] at e
  obtain ⟨q1, q2⟩ := m_ast (S1 := sI S a j.toNatClampNeg x) hW hS hk (by decide) (by decide) rfl (fun _ => rfl) (fun _ => rfl) (fun b t j h => hV_sI h) (fun j => hV_sIs (Or.inl rfl)) e z oq
  exact kk _ _ q1 q2
theorem m_last (C : Cx p s m args meth c cc nL own ret mn G) (hW : wd G S H) (hS : va_S G.2.2.1 s.heap H locs) {j : Int32} {x : Int64} (ho : o = some a) (hk : hK S a = 16) (hin : vp_in j (hN S a)) (hdg : decode cc pc = .ok (.lastore, 1))
    (kk : ∀ (H1 : Heap) (locs1 : List Loc), wd G (sJ S a j.toNatClampNeg x) H1 → va_S G.2.2.1 s.heap H1 locs1 → W p l e R s m args below meth c H1 locs1 cells slots Q (F0 m (pc + 1) ls rest)) : W p l e R s m args below meth c H locs cells slots Q (F0 m pc ls (.long x :: .int j :: va_rf o :: rest)) := by
  subst ho
  refine W.last C.1 C.2.1 (hW.arr hk (by decide) (by decide)) ((C.2.2.2.2.2.2.2.1.2 16 (by decide) (by decide)).1 _ _) (fun q => by cases q) (by show ¬ (j < 0 ∨ (arrV _ _ _).slots.size ≤ _); rw [arrV_size]; exact hin) rfl rfl hdg fun H1 e z oq => ?_
  obtain ⟨q1, q2⟩ := m_ast (S1 := sJ S a j.toNatClampNeg x) hW hS hk (by decide) (by decide) rfl (fun _ => rfl) (fun _ => rfl) (fun b t j h => hV_sJ h) (fun j => hV_sJs (Or.inl rfl)) e z oq
  exact kk _ _ q1 q2
/-- a reference into an array: null, or an object of the array's own class, or a Job into Object[] -/
theorem m_aast (C : Cx p s m args meth c cc nL own ret mn G) (hW : wd G S H) (hS : va_S G.2.2.1 s.heap H locs) {j : Int32} {x : Option Nat} (ho : o = some a) (hk : hK S a = k) (h1 : 18 ≤ k) (h2 : k ≤ 20) (hin : vp_in j (hN S a)) (hx : ∀ b, x = some b → (k = 18 ∧ hK S b = 4) ∨ (19 ≤ k ∧ hK S b = 6)) (hdg : decode cc pc = .ok (.aastore, 1))
    (kk : ∀ (H1 : Heap) (locs1 : List Loc), wd G (sR S a j.toNatClampNeg x) H1 → va_S G.2.2.1 s.heap H1 locs1 → W p l e R s m args below meth c H1 locs1 cells slots Q (F0 m (pc + 1) ls rest)) : W p l e R s m args below meth c H locs cells slots Q (F0 m pc ls (va_rf x :: .int j :: va_rf o :: rest)) := by
  subst ho
  have hlt : j.toNatClampNeg < hN S a := Nat.not_le.mp fun q => hin (Or.inr q)
  have h0 : ¬ j < 0 := fun q => hin (Or.inl q)
  obtain ⟨Cn, hC⟩ := kft_ref h1
  have hKA := C.2.2.2.2.2.2.2.1.2 k (by omega) (by omega)
  have fin_ : ∀ (H1 : Heap), H1[a]? = some ((arrV (G.2.1 k) (hN S a) (fun j => hV S a (kty k) j)).setSlot j.toNatClampNeg (va_rf x)) → H1.size = H.size → (∀ q, q ≠ a → H1[q]? = H[q]?) → W p l e R s m args below meth c H1 (locs ++ [⟨a, j.toNatClampNeg⟩]) cells slots Q (F0 m (pc + 1) ls rest) := by
    intro H1 e z oq
    obtain ⟨q1, q2⟩ := m_ast (S1 := sR S a j.toNatClampNeg x) hW hS hk (by omega) h2 rfl (fun _ => rfl) (fun _ => rfl) (fun b t j h => hV_sR h) (fun j => hV_sRs (Or.inl (kty_ref h1))) e z oq
    exact kk _ _ q1 q2
  cases x with
  | none => exact va_WaastN (C := Cn) C.1 C.2.1 (hW.arr hk (by omega) h2) (by have := hKA.1; rw [hC] at this; exact this _ _) (fun h => by cases h) (by show ¬ (j < 0 ∨ (arrV _ _ _).slots.size ≤ _); rw [arrV_size]; exact hin) rfl rfl hdg fin_
  | some b =>
    have key : ∃ (kb : Nat) (q : vw_C) (comp : ClassId) (kA kE : Class), 1 ≤ kb ∧ kb ≤ 14 ∧ hK S b = kb ∧ vwCl[kb - 1]? = some q ∧ s.vm.classes[G.2.1 k]? = some kA ∧ kA.kind = .array comp (.object Cn) ∧ s.vm.classes[comp]? = some kE ∧ s.vm.assignable (G.1.1 (kb - 1)) comp = true := by
      have hRA := hKA.2
      rcases hx b rfl with ⟨rfl, hb⟩ | ⟨hk19, hb⟩
      · obtain ⟨kA, comp, k1, k2, k3, -⟩ := hRA
        have hcls := (C.2.2.2.2.2.2.2.1.1 3 _ rfl).2
        have hcomp : comp = G.1.1 3 := Option.some.inj (k3.symm.trans hcls.1)
        subst hcomp
        obtain ⟨kC, hkC, -⟩ := hcls.2
        cases hC
        exact ⟨4, _, _, kA, kC, by decide, by decide, hb, rfl, k1, k2, hkC, va_assign hcls⟩
      · have hcls := (C.2.2.2.2.2.2.2.1.1 5 _ rfl).2
        by_cases e19 : k = 19
        · subst e19
          obtain ⟨kA, comp, k1, k2, k3, -⟩ := hRA
          have hcomp : comp = G.1.1 5 := Option.some.inj (k3.symm.trans hcls.1)
          subst hcomp
          obtain ⟨kC, hkC, -⟩ := hcls.2
          cases hC
          exact ⟨6, _, _, kA, kC, by decide, by decide, hb, rfl, k1, k2, hkC, va_assign hcls⟩
        · obtain rfl : k = 20 := by omega
          obtain ⟨kA, comp, k1, k2, k3, -⟩ := hRA
          obtain ⟨kE, hkE, -⟩ := Vm.findClass_spec k3
          obtain ⟨c0, t1, f1, f2, f3⟩ := Cond.castable_spec (va_Nw.use (A := args) rfl C.2.2.2.2.2.2.2.2.2.1.2.2.2.2.2.1)
          cases hcls.1.symm.trans f1
          cases k3.symm.trans f2
          cases hC
          exact ⟨6, _, _, kA, kE, by decide, by decide, hb, rfl, k1, k2, hkE, f3⟩
    obtain ⟨kb, q, comp, kA, kE, b1, b2, hb, hq, k1, k2, hkE, hasg⟩ := key
    obtain ⟨cellV, g1, g2, g3, -⟩ := hW.obj hb b1 b2
    obtain ⟨kC, hkC, -⟩ := (C.2.2.2.2.2.2.2.1.1 _ _ hq).2.2
    exact W.aast C.1 C.2.1 (hW.arr hk (by omega) h2) (fun q h => by cases h) (fun h => by cases h) k1 k2 rfl hkE ⟨h0, by show _ < (arrV _ _ _).slots.size; rw [arrV_size]; exact hlt⟩ g1 (fun q h => by rw [g3] at h; cases h) (by rw [g2]; exact hkC) (by rw [g2]; exact hasg) rfl rfl hdg fin_
end MR
