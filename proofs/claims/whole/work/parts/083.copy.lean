/-! Arrays.copyOf(Object[], int): a new array of a1 places, the elements of the old in it -/
def wp_J7_copyOf_1904c (S : Hp) (a0 : Option Nat) (a1 : Int32) (Q : Option Nat → Hp → Prop) : Prop := ∃ b : Nat, a0 = some b ∧ hK S b = 20 ∧ ¬ a1 < 0 ∧ a1.toNatClampNeg ≤ 300 ∧ hN S b ≤ a1.toNatClampNeg ∧ (∀ i y : Nat, i < hN S b → hR S b i = some y → hK S y = 6) ∧ ∀ q : Nat, hK S q = 0 → Q (some q) (sC (sN S q 20 a1.toNatClampNeg) q b (hN S b))
theorem m_metP {l : Launch} {y : MethodName} {cb : ByteArray} {mL mc ms : Nat} {rt : Option FieldType} {rm : Room} {G : GX} {S : Hp} {Qc : Array Value → State → Outcome → State → Prop} {av : List Value} {Xp : State → Prop} (hy : plainName y.cls = true) (body : ∀ (p : Program) (e : Env) (s : State) (m : MethodId) (below : List Frame) (meth : Method) (c : Code) (H : Heap) (locs : List Loc), Cx p s m av.toArray meth c cb mL y.cls rt y.name G → Xp s → wd G S H → va_S G.2.2.1 s.heap H locs → W p l e rm s m av.toArray below meth c H locs 0 0 (MQ below Qc av.toArray s mc ms G.2.2.1) (entryFrame m av.toArray mL)) : Met l y (Cond.code y cb mL rt :: TS) rm (fun a U => Pk G S av a U ∧ Xp U) Qc mc ms G.2.2.1 := by
  refine Met.ofW (cc := cb) (maxL := mL) (ret := rt) hy rfl ?_
  intro p e s m args below meth c s₁ B hml hv
  obtain ⟨⟨rfl, hW, hK, hA, hE⟩, hX⟩ := hv
  have hts := atoms_spec (ws := Cond.code y cb mL rt :: TS) B.pre
  exact body p e s m below meth c s.heap [] ⟨B.exec, B.bytes, hml, findClass_of_methodNamed B.named, fun w h => hts w (List.mem_cons_of_mem _ h), B.returns, B.notSynchronized, hK, hA, hE, (name_of_methodNamed B.named B.method).1⟩ hX hW va_S.rf
set_option maxRecDepth 100000 in
set_option maxHeartbeats 4000000 in
theorem c_J7_copy3 {l : Launch} {G : GX} {S : Hp} {b : Nat} {n : Int32} {mi : Nat} {Q : Option Nat → Hp → Prop} (hb : hK S b = 20) (hn : ¬ n < 0) (hle : n.toNatClampNeg ≤ 300) (hlen : hN S b ≤ n.toNatClampNeg) (hel : ∀ i y : Nat, i < hN S b → hR S b i = some y → hK S y = 6) (hw : ∀ q : Nat, hK S q = 0 → Q (some q) (sC (sN S q 20 n.toNatClampNeg) q b (hN S b))) :
    Met l yJ7_copyOf_6403c (Cond.code yJ7_copyOf_6403c cJ7_copyOf_6403c 4 (some (.array (.object "java/lang/Object"))) :: TS) { frames := 1, cells := 1, slots := 300, locals := 48 } (fun a U => Pk G S [va_rf (some b), .int n, va_rf (some mi)] a U ∧ va_Mi "[Ljava/lang/Object;" mi U) (QR G Q) 1 300 G.2.2.1 := by
  refine m_metP (by decide) ?_
  intro p e s m below meth c H locs C hX hW hS
  have C : Cx p s m ([va_rf (some b), .int n, va_rf (some mi)] : List Value).toArray meth c cJ7_copyOf_6403c 4 RJ7 (some (.array (.object "java/lang/Object"))) "copyOf" G := C
  obtain ⟨ls, hent, hL, hla⟩ := m_entry m (vs := [va_rf (some b), .int n, va_rf (some mi)]) (nn := 4) [1, 1, 1] rfl (by decide)
  rw [hent]
  have h0 : ls[0]? = some (.val (va_rf (some b))) := hla (0, va_rf (some b)) (List.mem_of_getElem? (i := 0) rfl)
  have h1 : ls[1]? = some (.val (.int n)) := hla (1, .int n) (List.mem_of_getElem? (i := 1) rfl)
  have h2 : ls[2]? = some (.val (va_rf (some mi))) := hla (2, va_rf (some mi)) (List.mem_of_getElem? (i := 2) rfl)
  clear hla
  generalize ([va_rf (some b), .int n, va_rf (some mi)] : List Value).toArray = args at C ⊢
  refine m_aldN C dJ7_copyOf_6403c_0 rfl h2 ?_
  refine va_ldcM C.1 C.2.1 C.2.2.2.1 (C.2.2.2.2.1 _ tw_632) hX dJ7_copyOf_6403c_1 ?_
  refine lv_acmp_ne (rx := some mi) (ry := some mi) (tgt := 13) C.1 C.2.1 dJ7_copyOf_6403c_3 (by decide) (fun h => absurd rfl h) (fun _ => ?_)
  refine lv_iload_n C.1 C.2.1 dJ7_copyOf_6403c_6 rfl h1 ?_
  refine m_anew (k := 20) (N := n.toNatClampNeg) C hW hS (by decide) (by decide) rfl (by decide) tw_634 hn rfl (by omega) (Nat.le_of_ble_eq_true rfl) (Nat.le_trans (Nat.add_le_add_left hle 0) (Nat.le_of_ble_eq_true rfl)) dJ7_copyOf_6403c_7 (fun q H hq hW hS => ?_)
  have hw := hw q hq
  refine W.widen (k := 1) (n := 300) (by decide) (Nat.add_le_add_left hle 0) ?_
  have hbq : b ≠ q := fun z => by rw [z, hq] at hb; cases hb
  have hb1 : hK (sN S q 20 n.toNatClampNeg) b = 20 := by rw [hK_sN, if_neg hbq]; exact hb
  have hq1 : hK (sN S q 20 n.toNatClampNeg) q = 20 := by rw [hK_sN, if_pos rfl]
  have hNb : hN (sN S q 20 n.toNatClampNeg) b = hN S b := by rw [hN_sN, if_neg hbq]
  have hNq : hN (sN S q 20 n.toNatClampNeg) q = n.toNatClampNeg := by rw [hN_sN, if_pos rfl]
  refine lv_goto (tgt := 24) C.1 C.2.1 dJ7_copyOf_6403c_10 (by decide) ?_
  refine m_astN C hL dJ7_copyOf_6403c_24 rfl (by decide) (fun ls hL hn9 hk9 => ?_)
  have h0 := hk9 0 _ h0 (by decide) (Or.inl (by decide))
  have h1 := hk9 1 _ h1 (by decide) (Or.inl (by decide))
  have h3 := hn9
  refine m_aldN C dJ7_copyOf_6403c_25 rfl h0 ?_
  refine lv_iconst (v := 0) C.1 C.2.1 dJ7_copyOf_6403c_26 (by decide) ?_
  refine m_aldN C dJ7_copyOf_6403c_27 rfl h3 ?_
  refine lv_iconst (v := 0) C.1 C.2.1 dJ7_copyOf_6403c_28 (by decide) ?_
  refine m_aldN C dJ7_copyOf_6403c_29 rfl h0 ?_
  refine m_alen C hW rfl hb1 (by decide) (by decide) dJ7_copyOf_6403c_30 ?_
  refine lv_iload_n C.1 C.2.1 dJ7_copyOf_6403c_31 rfl h1 ?_
  refine va_mmin C.1 C.2.1 (C.2.2.1.trans hL.1.symm) C.2.2.2.1 (C.2.2.2.2.1 _ tw_635) (C.2.2.2.2.1 _ tw_636) (C.2.2.2.2.1 _ tw_20) (C.2.2.2.2.1 _ tw_637) (Nat.le_of_ble_eq_true rfl) (Nat.le_of_ble_eq_true rfl) (Nat.le_of_ble_eq_true rfl) (Nat.le_of_ble_eq_true rfl) dJ7_copyOf_6403c_32 ?_
  have hcl : (nI (hN S b)).toNatClampNeg = hN S b := nI_clamp (by omega)
  have hmin : (if n < nI (hN (sN S q 20 n.toNatClampNeg) b) then n else nI (hN (sN S q 20 n.toNatClampNeg) b)) = nI (hN S b) := by
    rw [hNb]
    refine if_neg (fun z => ?_)
    have z1 := Int32.lt_iff_toInt_lt.mp z
    rw [nI_toInt (by omega)] at z1
    have z2 : (0 : Int) ≤ n.toInt := by
      have := Int32.not_lt.mp hn
      simpa using Int32.le_iff_toInt_le.mp this
    have z3 : n.toNatClampNeg = n.toInt.toNat := rfl
    omega
  rw [hmin]
  refine m_copy C hW hS hL hb1 hq1 (nI_pos (by omega)) (by rw [hcl, hNb]; exact Nat.le_refl _) (by rw [hcl, hNq]; exact hlen) (fun i hi y hy => ?_) tw_638 tw_640 tw_639 tw_22 ⟨Nat.le_of_ble_eq_true rfl, Nat.le_of_ble_eq_true rfl⟩ (Nat.le_of_ble_eq_true rfl) dJ7_copyOf_6403c_35 (fun H locs hW hS => ?_)
  · rw [hcl] at hi
    rw [hR_sN, if_neg hbq] at hy
    have h6 := hel i y hi hy
    rw [hK_sN, if_neg (fun z => by rw [z, hq] at h6; cases h6)]
    exact h6
  rw [hcl] at hW
  refine m_aldN C dJ7_copyOf_6403c_38 rfl h3 ?_
  exact m_aret C (Or.inr ⟨_, rfl⟩) hW hS (o := some q) hw dJ7_copyOf_6403c_39
set_option maxRecDepth 100000 in
set_option maxHeartbeats 4000000 in
theorem c_J7_copyOf_1904c {l : Launch} {G : GX} {S : Hp} {a0 : Option Nat} {a1 : Int32} {Q : Option Nat → Hp → Prop} (hw : wp_J7_copyOf_1904c S a0 a1 Q) : Met l yJ7_copyOf_1904c (Cond.code yJ7_copyOf_1904c cJ7_copyOf_1904c 2 (some (.array (.object "java/lang/Object"))) :: TS) { frames := 2, cells := 1, slots := 300, locals := 90 } (Pk G S [va_rf a0, .int a1]) (QR G Q) 1 300 G.2.2.1 := by
  refine m_met (by decide) ?_
  intro p e s m below meth c H locs C hW hS
  obtain ⟨b, rfl, hb, hn, hle, hlen, hel, hw⟩ := hw
  have C : Cx p s m ([va_rf (some b), .int a1] : List Value).toArray meth c cJ7_copyOf_1904c 2 RJ7 (some (.array (.object "java/lang/Object"))) "copyOf" G := C
  obtain ⟨ls, hent, hL, hla⟩ := m_entry m (vs := [va_rf (some b), .int a1]) (nn := 2) [1, 1] rfl (by decide)
  rw [hent]
  have h0 : ls[0]? = some (.val (va_rf (some b))) := hla (0, va_rf (some b)) (List.mem_of_getElem? (i := 0) rfl)
  have h1 : ls[1]? = some (.val (.int a1)) := hla (1, .int a1) (List.mem_of_getElem? (i := 1) rfl)
  clear hla
  generalize ([va_rf (some b), .int a1] : List Value).toArray = args at C ⊢
  have hts := C.2.2.2.2.1
  obtain ⟨mi, hmi⟩ := C.2.2.2.2.2.2.2.2.2.1.2.2.2.2.2.2.2.1
  have hcell := hW.arr hb (by decide) (by decide)
  refine m_aldN C dJ7_copyOf_1904c_0 rfl h0 ?_
  refine lv_iload_n C.1 C.2.1 dJ7_copyOf_1904c_1 rfl h1 ?_
  refine m_aldN C dJ7_copyOf_1904c_2 rfl h0 ?_
  refine va_getC (C := "[Ljava/lang/Object;") C.1 C.2.1 (C.2.2.1.trans hL.1.symm) C.2.2.2.1 (hts _ tw_610) (va_Dc.use C.2.2.2.2.2.2.2.2.2.1.2.2.2.2.2.2.1) (hts _ tw_1583) (hts _ tw_611) (hts _ tw_628) hmi ⟨_, hcell, rfl, va_nmO (C.2.2.2.2.2.2.2.1.2 20 (by decide) (by decide)).2 rfl⟩ (Nat.le_of_ble_eq_true rfl) (Nat.le_of_ble_eq_true rfl) dJ7_copyOf_1904c_3 ?_
  refine m_rR (va_runS (As := [va_rf (some b), .int a1, va_rf (some mi)]) (rest := []) ⟨C.1, C.2.1, C.2.2.1, C.2.2.2.1, hts⟩ (c_J7_copy3 (mi := mi) hb hn hle hlen hel hw) (va_cwS 3 hts (TS_goodIn (fun w hw => ?_)) rfl rfl rfl ⟨by decide, by decide, by decide⟩ ⟨Nat.le_of_ble_eq_true rfl, Nat.le_of_ble_eq_true rfl⟩) ⟨fun a U g mk h => ⟨Pk.blind _ _ _ _ h.1, h.2.moved (u := U) (U := U.calling g mk a) (Vm.Alike.refl U.vm)⟩, fun U hU hwm => ⟨m_pre C hW hS U hU hwm, hmi.moved hwm.alike⟩⟩ rfl rfl hL.1 rfl (lv_room (Nat.le_of_ble_eq_true rfl)) dJ7_copyOf_1904c_6 ⟨Nat.le_of_ble_eq_true rfl, Nat.le_of_ble_eq_true rfl⟩) hS (fun r S1 H locs hw hW hS => ?_)
  · unfold va_wsS at hw
    rcases List.mem_append.mp hw with h | h
    · simp only [List.mem_cons, List.not_mem_nil, or_false] at h
      rcases h with rfl | rfl | rfl
      · exact tw_629
      · exact tw_630
      · exact tw_21
    · exact TS_code tw_631 w h
  exact m_aret C (Or.inr ⟨_, rfl⟩) hW hS (o := r) hw dJ7_copyOf_1904c_9
