def wp_X12_sumOf_L5 (l0 : Nat) (l1 : Int32) (Q : Int64 → Hp → Prop) : Nat → Hp → Int64 → Int32 → Prop
  | 0, _, _, _ => False
  | n + 1, S, l2, l4 => hK S l0 = 14 ∧ ∃ b2 : Nat, (hR S l0 19) = some b2 ∧ hK S b2 = 15 ∧ vp_in l1 (hN S b2) ∧ ((hI S b2 (l1 : Int32).toNatClampNeg) ≤ l4 → Q l2 S) ∧ (¬ ((hI S b2 (l1 : Int32).toNatClampNeg) ≤ l4) → wp_X12_number S l0 l1 l4 (fun r7 S6 => ∀ z8 : Int64, z8 = (l2 + ((r7 : Int32).toInt64)) → wp_X12_sumOf_L5 l0 l1 Q n S6 z8 (l4 + 1)))
def wp_X12_sumOf (S : Hp) (a0 : Nat) (a1 : Int32) (Q : Int64 → Hp → Prop) : Prop := wp_X12_sumOf_L5 a0 a1 Q FU S 0 0
set_option maxRecDepth 100000 in
set_option maxHeartbeats 4000000 in
theorem w_X12_sumOf_L5 {p : Program} {l : Launch} {e : Env} {s : State} {m : MethodId} {args : Array Value} {below : List Frame} {meth : Method} {c : Code} {G : GX} {Q : Int64 → Hp → Prop} {l0 : Nat} {l1 : Int32} (C : Cx p s m args meth c cX12_sumOf 5 RX12 (some .long) "sumOf" G) :
    ∀ (n : Nat) (S : Hp) (l2 : Int64) (l4 : Int32) (H : Heap) (locs : List Loc) (ls : Array Slot), wd G S H → va_S G.2.2.1 s.heap H locs → LV ls 5 → ls[0]? = some (.val (va_rf (some l0))) → ls[1]? = some (.val (.int l1)) → ls[2]? = some (.val (.long l2)) → ls[4]? = some (.val (.int l4)) → wp_X12_sumOf_L5 l0 l1 Q n S l2 l4 → W p l e ({ frames := 1, cells := 0, slots := 0, locals := 22 } : Room) s m args below meth c H locs 0 0 (MQ below (QL G Q) args s 0 0 G.2.2.1) (F0 m 5 ls []) := by
  intro n
  induction n with
  | zero =>
    intro S l2 l4 H locs ls hW hS hL h0 h1 h2 h4 hw
    exact False.elim hw
  | succ n ih =>
    intro S l2 l4 H locs ls hW hS hL h0 h1 h2 h4 hw
    unfold wp_X12_sumOf_L5 at hw
    refine lv_iload C.1 C.2.1 dX12_sumOf_5 h4 ?_
    refine m_aldN C dX12_sumOf_7 rfl h0 ?_
    obtain ⟨hk1, hw⟩ := hw
    refine m_getR C hW rfl hk1 f_X12_54 rfl dX12_sumOf_8 ?_
    refine lv_iload_n C.1 C.2.1 dX12_sumOf_11 rfl h1 ?_
    obtain ⟨b2, ho2, hw⟩ := hw
    obtain ⟨hk3, hw⟩ := hw
    obtain ⟨hi4, hw⟩ := hw
    refine m_iald C hW ho2 hk3 hi4 dX12_sumOf_12 ?_
    refine lv_icmp_ge (tgt := 33) C.1 C.2.1 dX12_sumOf_13 (by decide) (fun hc5 => ?_) (fun hc5 => ?_)
    · have hw := hw.1 hc5
      refine lv_lload_n C.1 C.2.1 dX12_sumOf_33 rfl h2 ?_
      exact m_lret C hW hS hw dX12_sumOf_34
    · have hw := hw.2 hc5
      refine lv_lload_n C.1 C.2.1 dX12_sumOf_16 rfl h2 ?_
      refine m_aldN C dX12_sumOf_17 rfl h0 ?_
      refine lv_iload_n C.1 C.2.1 dX12_sumOf_18 rfl h1 ?_
      refine lv_iload C.1 C.2.1 dX12_sumOf_19 h4 ?_
      refine m_rI (m_runV (As := [.int l1, .int l4]) (rest := [.long l2]) C hW hS hL (c_X12_number hw) v_X12_181 ⟨rfl, rfl⟩ ⟨Nat.le_of_ble_eq_true rfl, Nat.le_of_ble_eq_true rfl⟩ rfl hk1 rfl rfl (Nat.le_of_ble_eq_true rfl) dX12_sumOf_21 ⟨Nat.le_of_ble_eq_true rfl, Nat.le_of_ble_eq_true rfl⟩) hS (fun r7 S6 H locs hw hW hS => ?_)
      refine lv_i2l (v := ((r7 : Int32).toInt64)) C.1 C.2.1 dX12_sumOf_24 rfl ?_
      refine lv_ladd C.1 C.2.1 dX12_sumOf_25 ?_
      refine lv_topl (fun z8 ez8 => ?_)
      have hw := hw z8 ez8
      refine m_lstN C hL dX12_sumOf_26 rfl (by decide) (fun ls hL hn9 hk9 => ?_)
      have h0 := hk9 0 _ h0 (by decide) (by decide) (Or.inl (by decide))
      have h1 := hk9 1 _ h1 (by decide) (by decide) (Or.inr (rfl))
      have h4 := hk9 4 _ h4 (by decide) (by decide) (Or.inl (by decide))
      have h2 := hn9
      refine m_iinc (v := (l4 + 1)) C hL dX12_sumOf_27 h4 rfl (by decide) (fun ls hL hn9 hk9 => ?_)
      have h0 := hk9 0 _ h0 (by decide) (Or.inl (by decide))
      have h1 := hk9 1 _ h1 (by decide) (Or.inl (by decide))
      have h2 := hk9 2 _ h2 (by decide) (Or.inl (by decide))
      have h4 := hn9
      refine lv_goto (tgt := 5) C.1 C.2.1 dX12_sumOf_30 (by decide) ?_
      exact ih S6 z8 (l4 + 1) H locs ls hW hS hL h0 h1 h2 h4 hw
set_option maxRecDepth 100000 in
set_option maxHeartbeats 4000000 in
theorem c_X12_sumOf {l : Launch} {G : GX} {S : Hp} {a0 : Nat} {a1 : Int32} {Q : Int64 → Hp → Prop} (hw : wp_X12_sumOf S a0 a1 Q) : Met l yX12_sumOf (Cond.code yX12_sumOf cX12_sumOf 5 (some .long) :: TS) { frames := 1, cells := 0, slots := 0, locals := 22 } (Pk G S [va_rf (some a0), .int a1]) (QL G Q) 0 0 G.2.2.1 := by
  refine m_met (by decide) ?_
  intro p e s m below meth c H locs C hW hS
  have C : Cx p s m ([va_rf (some a0), .int a1] : List Value).toArray meth c cX12_sumOf 5 RX12 (some .long) "sumOf" G := C
  obtain ⟨ls, hent, hL, hla⟩ := m_entry m (vs := [va_rf (some a0), .int a1]) (nn := 5) [1, 1] rfl (by decide)
  rw [hent]
  have h0 : ls[0]? = some (.val (va_rf (some a0))) := hla (0, va_rf (some a0)) (List.mem_of_getElem? (i := 0) rfl)
  have h1 : ls[1]? = some (.val (.int a1)) := hla (1, .int a1) (List.mem_of_getElem? (i := 1) rfl)
  clear hla
  generalize ([va_rf (some a0), .int a1] : List Value).toArray = args at C ⊢
  unfold wp_X12_sumOf at hw
  refine lv_lconst (v := 0) C.1 C.2.1 dX12_sumOf_0 (by decide) ?_
  refine m_lstN C hL dX12_sumOf_1 rfl (by decide) (fun ls hL hn9 hk9 => ?_)
  have h0 := hk9 0 _ h0 (by decide) (by decide) (Or.inl (by decide))
  have h1 := hk9 1 _ h1 (by decide) (by decide) (Or.inr (rfl))
  have h2 := hn9
  refine lv_iconst (v := 0) C.1 C.2.1 dX12_sumOf_2 (by decide) ?_
  refine m_ist C hL dX12_sumOf_3 (by decide) (fun ls hL hn9 hk9 => ?_)
  have h0 := hk9 0 _ h0 (by decide) (Or.inl (by decide))
  have h1 := hk9 1 _ h1 (by decide) (Or.inl (by decide))
  have h2 := hk9 2 _ h2 (by decide) (Or.inl (by decide))
  have h4 := hn9
  exact w_X12_sumOf_L5 C  FU S 0 0 H locs ls hW hS hL h0 h1 h2 h4 hw
def wp_X12_shares_L12 (l0 : Nat) (l1 : Int32) (l2 : Int64) (Q : Int64 → Hp → Prop) : Nat → Hp → Int64 → Int32 → Prop
  | 0, _, _, _ => False
  | n + 1, S, l4, l6 => hK S l0 = 14 ∧ ∃ b7 : Nat, (hR S l0 19) = some b7 ∧ hK S b7 = 15 ∧ vp_in l1 (hN S b7) ∧ ((hI S b7 (l1 : Int32).toNatClampNeg) ≤ l6 → Q l4 S) ∧ (¬ ((hI S b7 (l1 : Int32).toNatClampNeg) ≤ l6) → ∃ b11 : Nat, (hR S l0 16) = some b11 ∧ hK S b11 = 15 ∧ vp_in l1 (hN S b11) ∧ wp_X12_number S l0 l1 l6 (fun r15 S14 => ¬ l2 = 0 ∧ ∃ b17 : Nat, (hR S l0 40) = some b17 ∧ hK S14 b17 = 16 ∧ vp_in l6 (hN S14 b17) ∧ hK (sJ S14 b17 (l6 : Int32).toNatClampNeg (((((hI S b11 (l1 : Int32).toNatClampNeg) : Int32).toInt64) * ((r15 : Int32).toInt64)) / l2)) l0 = 14 ∧ ∃ b21 : Nat, (hR (sJ S14 b17 (l6 : Int32).toNatClampNeg (((((hI S b11 (l1 : Int32).toNatClampNeg) : Int32).toInt64) * ((r15 : Int32).toInt64)) / l2)) l0 40) = some b21 ∧ hK (sJ S14 b17 (l6 : Int32).toNatClampNeg (((((hI S b11 (l1 : Int32).toNatClampNeg) : Int32).toInt64) * ((r15 : Int32).toInt64)) / l2)) b21 = 16 ∧ vp_in l6 (hN (sJ S14 b17 (l6 : Int32).toNatClampNeg (((((hI S b11 (l1 : Int32).toNatClampNeg) : Int32).toInt64) * ((r15 : Int32).toInt64)) / l2)) b21) ∧ ∀ z24 : Int64, z24 = (l4 - (hJ (sJ S14 b17 (l6 : Int32).toNatClampNeg (((((hI S b11 (l1 : Int32).toNatClampNeg) : Int32).toInt64) * ((r15 : Int32).toInt64)) / l2)) b21 (l6 : Int32).toNatClampNeg)) → wp_X12_shares_L12 l0 l1 l2 Q n (sJ S14 b17 (l6 : Int32).toNatClampNeg (((((hI S b11 (l1 : Int32).toNatClampNeg) : Int32).toInt64) * ((r15 : Int32).toInt64)) / l2)) z24 (l6 + 1)))
def wp_X12_shares (S : Hp) (a0 : Nat) (a1 : Int32) (a2 : Int64) (Q : Int64 → Hp → Prop) : Prop := hK S a0 = 14 ∧ ∃ b2 : Nat, (hR S a0 16) = some b2 ∧ hK S b2 = 15 ∧ vp_in a1 (hN S b2) ∧ ∀ z5 : Int64, z5 = (((hI S b2 (a1 : Int32).toNatClampNeg) : Int32).toInt64) → wp_X12_shares_L12 a0 a1 a2 Q FU S z5 0
set_option maxRecDepth 100000 in
set_option maxHeartbeats 4000000 in
theorem w_X12_shares_L12 {p : Program} {l : Launch} {e : Env} {s : State} {m : MethodId} {args : Array Value} {below : List Frame} {meth : Method} {c : Code} {G : GX} {Q : Int64 → Hp → Prop} {l0 : Nat} {l1 : Int32} {l2 : Int64} (C : Cx p s m args meth c cX12_shares 7 RX12 (some .long) "shares" G) :
    ∀ (n : Nat) (S : Hp) (l4 : Int64) (l6 : Int32) (H : Heap) (locs : List Loc) (ls : Array Slot), wd G S H → va_S G.2.2.1 s.heap H locs → LV ls 7 → ls[0]? = some (.val (va_rf (some l0))) → ls[1]? = some (.val (.int l1)) → ls[2]? = some (.val (.long l2)) → ls[4]? = some (.val (.long l4)) → ls[6]? = some (.val (.int l6)) → wp_X12_shares_L12 l0 l1 l2 Q n S l4 l6 → W p l e ({ frames := 1, cells := 0, slots := 0, locals := 22 } : Room) s m args below meth c H locs 0 0 (MQ below (QL G Q) args s 0 0 G.2.2.1) (F0 m 12 ls []) := by
  intro n
  induction n with
  | zero =>
    intro S l4 l6 H locs ls hW hS hL h0 h1 h2 h4 h6 hw
    exact False.elim hw
  | succ n ih =>
    intro S l4 l6 H locs ls hW hS hL h0 h1 h2 h4 h6 hw
    unfold wp_X12_shares_L12 at hw
    refine lv_iload C.1 C.2.1 dX12_shares_12 h6 ?_
    refine m_aldN C dX12_shares_14 rfl h0 ?_
    obtain ⟨hk6, hw⟩ := hw
    refine m_getR C hW rfl hk6 f_X12_54 rfl dX12_shares_15 ?_
    refine lv_iload_n C.1 C.2.1 dX12_shares_18 rfl h1 ?_
    obtain ⟨b7, ho7, hw⟩ := hw
    obtain ⟨hk8, hw⟩ := hw
    obtain ⟨hi9, hw⟩ := hw
    refine m_iald C hW ho7 hk8 hi9 dX12_shares_19 ?_
    refine lv_icmp_ge (tgt := 66) C.1 C.2.1 dX12_shares_20 (by decide) (fun hc10 => ?_) (fun hc10 => ?_)
    · have hw := hw.1 hc10
      refine lv_lload C.1 C.2.1 dX12_shares_66 h4 ?_
      exact m_lret C hW hS hw dX12_shares_68
    · have hw := hw.2 hc10
      refine m_aldN C dX12_shares_23 rfl h0 ?_
      refine m_getR C hW rfl hk6 f_X12_103 rfl dX12_shares_24 ?_
      refine lv_iload C.1 C.2.1 dX12_shares_27 h6 ?_
      refine m_aldN C dX12_shares_29 rfl h0 ?_
      refine m_getR C hW rfl hk6 f_X12_45 rfl dX12_shares_30 ?_
      refine lv_iload_n C.1 C.2.1 dX12_shares_33 rfl h1 ?_
      obtain ⟨b11, ho11, hw⟩ := hw
      obtain ⟨hk12, hw⟩ := hw
      obtain ⟨hi13, hw⟩ := hw
      refine m_iald C hW ho11 hk12 hi13 dX12_shares_34 ?_
      refine lv_i2l (v := (((hI S b11 (l1 : Int32).toNatClampNeg) : Int32).toInt64)) C.1 C.2.1 dX12_shares_35 rfl ?_
      refine m_aldN C dX12_shares_36 rfl h0 ?_
      refine lv_iload_n C.1 C.2.1 dX12_shares_37 rfl h1 ?_
      refine lv_iload C.1 C.2.1 dX12_shares_38 h6 ?_
      refine m_rI (m_runV (As := [.int l1, .int l6]) (rest := [.long (((hI S b11 (l1 : Int32).toNatClampNeg) : Int32).toInt64), .int l6, va_rf (hR S l0 40)]) C hW hS hL (c_X12_number hw) v_X12_181 ⟨rfl, rfl⟩ ⟨Nat.le_of_ble_eq_true rfl, Nat.le_of_ble_eq_true rfl⟩ rfl hk6 rfl rfl (by simp only [List.map_cons, List.map_nil, va_rf_cat, List.sum_cons, List.sum_nil] <;> exact Nat.le_of_ble_eq_true rfl) dX12_shares_40 ⟨Nat.le_of_ble_eq_true rfl, Nat.le_of_ble_eq_true rfl⟩) hS (fun r15 S14 H locs hw hW hS => ?_)
      refine lv_i2l (v := ((r15 : Int32).toInt64)) C.1 C.2.1 dX12_shares_43 rfl ?_
      refine lv_lmul C.1 C.2.1 dX12_shares_44 ?_
      refine lv_lload_n C.1 C.2.1 dX12_shares_45 rfl h2 ?_
      obtain ⟨hz16, hw⟩ := hw
      refine lv_ldiv C.1 C.2.1 dX12_shares_46 hz16 ?_
      obtain ⟨b17, ho17, hw⟩ := hw
      obtain ⟨hk18, hw⟩ := hw
      obtain ⟨hi19, hw⟩ := hw
      refine m_last C hW hS ho17 hk18 hi19 dX12_shares_47 (fun H locs hW hS => ?_)
      refine lv_lload C.1 C.2.1 dX12_shares_48 h4 ?_
      refine m_aldN C dX12_shares_50 rfl h0 ?_
      obtain ⟨hk20, hw⟩ := hw
      refine m_getR C hW rfl hk20 f_X12_103 rfl dX12_shares_51 ?_
      refine lv_iload C.1 C.2.1 dX12_shares_54 h6 ?_
      obtain ⟨b21, ho21, hw⟩ := hw
      obtain ⟨hk22, hw⟩ := hw
      obtain ⟨hi23, hw⟩ := hw
      refine m_lald C hW ho21 hk22 hi23 dX12_shares_56 ?_
      refine lv_lsub C.1 C.2.1 dX12_shares_57 ?_
      refine lv_topl (fun z24 ez24 => ?_)
      have hw := hw z24 ez24
      refine m_lst C hL dX12_shares_58 (by decide) (fun ls hL hn9 hk9 => ?_)
      have h0 := hk9 0 _ h0 (by decide) (by decide) (Or.inl (by decide))
      have h1 := hk9 1 _ h1 (by decide) (by decide) (Or.inl (by decide))
      have h2 := hk9 2 _ h2 (by decide) (by decide) (Or.inl (by decide))
      have h6 := hk9 6 _ h6 (by decide) (by decide) (Or.inl (by decide))
      have h4 := hn9
      refine m_iinc (v := (l6 + 1)) C hL dX12_shares_60 h6 rfl (by decide) (fun ls hL hn9 hk9 => ?_)
      have h0 := hk9 0 _ h0 (by decide) (Or.inl (by decide))
      have h1 := hk9 1 _ h1 (by decide) (Or.inl (by decide))
      have h2 := hk9 2 _ h2 (by decide) (Or.inl (by decide))
      have h4 := hk9 4 _ h4 (by decide) (Or.inl (by decide))
      have h6 := hn9
      refine lv_goto (tgt := 12) C.1 C.2.1 dX12_shares_63 (by decide) ?_
      exact ih (sJ S14 b17 (l6 : Int32).toNatClampNeg (((((hI S b11 (l1 : Int32).toNatClampNeg) : Int32).toInt64) * ((r15 : Int32).toInt64)) / l2)) z24 (l6 + 1) H locs ls hW hS hL h0 h1 h2 h4 h6 hw
set_option maxRecDepth 100000 in
set_option maxHeartbeats 4000000 in
theorem c_X12_shares {l : Launch} {G : GX} {S : Hp} {a0 : Nat} {a1 : Int32} {a2 : Int64} {Q : Int64 → Hp → Prop} (hw : wp_X12_shares S a0 a1 a2 Q) : Met l yX12_shares (Cond.code yX12_shares cX12_shares 7 (some .long) :: TS) { frames := 1, cells := 0, slots := 0, locals := 22 } (Pk G S [va_rf (some a0), .int a1, .long a2]) (QL G Q) 0 0 G.2.2.1 := by
  refine m_met (by decide) ?_
  intro p e s m below meth c H locs C hW hS
  have C : Cx p s m ([va_rf (some a0), .int a1, .long a2] : List Value).toArray meth c cX12_shares 7 RX12 (some .long) "shares" G := C
  obtain ⟨ls, hent, hL, hla⟩ := m_entry m (vs := [va_rf (some a0), .int a1, .long a2]) (nn := 7) [1, 1, 2] rfl (by decide)
  rw [hent]
  have h0 : ls[0]? = some (.val (va_rf (some a0))) := hla (0, va_rf (some a0)) (List.mem_of_getElem? (i := 0) rfl)
  have h1 : ls[1]? = some (.val (.int a1)) := hla (1, .int a1) (List.mem_of_getElem? (i := 1) rfl)
  have h2 : ls[2]? = some (.val (.long a2)) := hla (2, .long a2) (List.mem_of_getElem? (i := 2) rfl)
  clear hla
  generalize ([va_rf (some a0), .int a1, .long a2] : List Value).toArray = args at C ⊢
  unfold wp_X12_shares at hw
  refine m_aldN C dX12_shares_0 rfl h0 ?_
  obtain ⟨hk1, hw⟩ := hw
  refine m_getR C hW rfl hk1 f_X12_45 rfl dX12_shares_1 ?_
  refine lv_iload_n C.1 C.2.1 dX12_shares_4 rfl h1 ?_
  obtain ⟨b2, ho2, hw⟩ := hw
  obtain ⟨hk3, hw⟩ := hw
  obtain ⟨hi4, hw⟩ := hw
  refine m_iald C hW ho2 hk3 hi4 dX12_shares_5 ?_
  refine lv_i2l (v := (((hI S b2 (a1 : Int32).toNatClampNeg) : Int32).toInt64)) C.1 C.2.1 dX12_shares_6 rfl ?_
  refine lv_topl (fun z5 ez5 => ?_)
  have hw := hw z5 ez5
  refine m_lst C hL dX12_shares_7 (by decide) (fun ls hL hn9 hk9 => ?_)
  have h0 := hk9 0 _ h0 (by decide) (by decide) (Or.inl (by decide))
  have h1 := hk9 1 _ h1 (by decide) (by decide) (Or.inl (by decide))
  have h2 := hk9 2 _ h2 (by decide) (by decide) (Or.inl (by decide))
  have h4 := hn9
  refine lv_iconst (v := 0) C.1 C.2.1 dX12_shares_9 (by decide) ?_
  refine m_ist C hL dX12_shares_10 (by decide) (fun ls hL hn9 hk9 => ?_)
  have h0 := hk9 0 _ h0 (by decide) (Or.inl (by decide))
  have h1 := hk9 1 _ h1 (by decide) (Or.inl (by decide))
  have h2 := hk9 2 _ h2 (by decide) (Or.inl (by decide))
  have h4 := hk9 4 _ h4 (by decide) (Or.inl (by decide))
  have h6 := hn9
  exact w_X12_shares_L12 C  FU S z5 0 H locs ls hW hS hL h0 h1 h2 h4 h6 hw
def wp_X12_mixes_L37 (l0 : Nat) (l1 : Int32) (l2 : Int64) (l4 : Int64) (K58 : Hp → Prop) (Q : Int32 → Hp → Prop) : Nat → Hp → Int32 → Prop
  | 0, _, _ => False
  | n + 1, S, l6 => (30 ≤ l6 → K58 S) ∧ (¬ (30 ≤ l6) → hK S l0 = 14 ∧ ∃ b14 : Nat, (hR S l0 42) = some b14 ∧ hK S b14 = 17 ∧ vp_in l6 (hN S b14) ∧ wp_X12_mixes_L37 l0 l1 l2 l4 K58 Q n (sI S b14 (l6 : Int32).toNatClampNeg 0) (l6 + 1))
def wp_X12_mixes_L71 (l0 : Nat) (l1 : Int32) (l2 : Int64) (l4 : Int64) (K148 : Hp → Int32 → Prop) (Q : Int32 → Hp → Prop) : Nat → Hp → Int32 → Int32 → Prop
  | 0, _, _, _ => False
  | n + 1, S, l6, l7 => hK S l0 = 14 ∧ ∃ b20 : Nat, (hR S l0 19) = some b20 ∧ hK S b20 = 15 ∧ vp_in l1 (hN S b20) ∧ ((hI S b20 (l1 : Int32).toNatClampNeg) ≤ l7 → K148 S l6) ∧ (¬ ((hI S b20 (l1 : Int32).toNatClampNeg) ≤ l7) → ∃ b24 : Nat, (hR S l0 42) = some b24 ∧ hK S b24 = 17 ∧ vp_in l7 (hN S b24) ∧ ((hI S b24 (l7 : Int32).toNatClampNeg) = 0 → (l6 = (-1) → wp_X12_mixes_L71 l0 l1 l2 l4 K148 Q n S l7 (l7 + 1)) ∧ (¬ (l6 = (-1)) → ∃ b29 : Nat, (hR S l0 16) = some b29 ∧ hK S b29 = 15 ∧ vp_in l1 (hN S b29) ∧ wp_X12_number S l0 l1 l7 (fun r33 S32 => ¬ l2 = 0 ∧ hK S32 l0 = 14 ∧ ∃ b36 : Nat, (hR S32 l0 16) = some b36 ∧ hK S32 b36 = 15 ∧ vp_in l1 (hN S32 b36) ∧ wp_X12_number S32 l0 l1 l6 (fun r40 S39 => ¬ l2 = 0 ∧ ((((((hI S b29 (l1 : Int32).toNatClampNeg) : Int32).toInt64) * ((r33 : Int32).toInt64)) - ((((hI S b29 (l1 : Int32).toNatClampNeg) : Int32).toInt64) * ((r33 : Int32).toInt64)) / l2 * l2) ≤ (((((hI S32 b36 (l1 : Int32).toNatClampNeg) : Int32).toInt64) * ((r40 : Int32).toInt64)) - ((((hI S32 b36 (l1 : Int32).toNatClampNeg) : Int32).toInt64) * ((r40 : Int32).toInt64)) / l2 * l2) → wp_X12_mixes_L71 l0 l1 l2 l4 K148 Q n S39 l6 (l7 + 1)) ∧ (¬ ((((((hI S b29 (l1 : Int32).toNatClampNeg) : Int32).toInt64) * ((r33 : Int32).toInt64)) - ((((hI S b29 (l1 : Int32).toNatClampNeg) : Int32).toInt64) * ((r33 : Int32).toInt64)) / l2 * l2) ≤ (((((hI S32 b36 (l1 : Int32).toNatClampNeg) : Int32).toInt64) * ((r40 : Int32).toInt64)) - ((((hI S32 b36 (l1 : Int32).toNatClampNeg) : Int32).toInt64) * ((r40 : Int32).toInt64)) / l2 * l2)) → wp_X12_mixes_L71 l0 l1 l2 l4 K148 Q n S39 l7 (l7 + 1)))))) ∧ (¬ ((hI S b24 (l7 : Int32).toNatClampNeg) = 0) → wp_X12_mixes_L71 l0 l1 l2 l4 K148 Q n S l6 (l7 + 1)))
def wp_X12_mixes_L58 (l0 : Nat) (l1 : Int32) (l2 : Int64) (K176 : Hp → Prop) (Q : Int32 → Hp → Prop) : Nat → Hp → Int64 → Prop
  | 0, _, _ => False
  | n + 1, S, l4 => (l4 ≤ 0 → K176 S) ∧ (¬ (l4 ≤ 0) → wp_X12_mixes_L71 l0 l1 l2 l4 (fun (S43 : Hp) (x44 : Int32) => hK S43 l0 = 14 ∧ ∃ b46 : Nat, (hR S43 l0 42) = some b46 ∧ hK S43 b46 = 17 ∧ vp_in x44 (hN S43 b46) ∧ ∃ b49 : Nat, (hR (sI S43 b46 (x44 : Int32).toNatClampNeg 1) l0 40) = some b49 ∧ hK (sI S43 b46 (x44 : Int32).toNatClampNeg 1) b49 = 16 ∧ vp_in x44 (hN (sI S43 b46 (x44 : Int32).toNatClampNeg 1) b49) ∧ vp_in x44 (hN (sI S43 b46 (x44 : Int32).toNatClampNeg 1) b49) ∧ ∀ z53 : Int64, z53 = (l4 - 1) → wp_X12_mixes_L58 l0 l1 l2 K176 Q n (sJ (sI S43 b46 (x44 : Int32).toNatClampNeg 1) b49 (x44 : Int32).toNatClampNeg ((hJ (sI S43 b46 (x44 : Int32).toNatClampNeg 1) b49 (x44 : Int32).toNatClampNeg) + 1)) z53) Q FU S (-1) 0)
def wp_X12_mixes_L179 (l0 : Nat) (l1 : Int32) (Q : Int32 → Hp → Prop) : Nat → Hp → Int32 → Prop
  | 0, _, _ => False
  | n + 1, S, l6 => hK S l0 = 14 ∧ ∃ b56 : Nat, (hR S l0 19) = some b56 ∧ hK S b56 = 15 ∧ vp_in l1 (hN S b56) ∧ ((hI S b56 (l1 : Int32).toNatClampNeg) ≤ l6 → Q 0 S) ∧ (¬ ((hI S b56 (l1 : Int32).toNatClampNeg) ≤ l6) → ∃ b60 : Nat, (hR S l0 40) = some b60 ∧ hK S b60 = 16 ∧ vp_in l6 (hN S b60) ∧ ((hJ S b60 (l6 : Int32).toNatClampNeg) ≤ 0 → wp_X12_mixes_L179 l0 l1 Q n (sI S l0 41 ((hI S l0 41) + 0)) (l6 + 1)) ∧ (¬ ((hJ S b60 (l6 : Int32).toNatClampNeg) ≤ 0) → wp_X12_mixes_L179 l0 l1 Q n (sI S l0 41 ((hI S l0 41) + 1)) (l6 + 1)))
def wp_X12_mixes (S : Hp) (a0 : Nat) (a1 : Int32) (Q : Int32 → Hp → Prop) : Prop := hK S a0 = 14 ∧ wp_X12_isBelow S a0 a1 (fun r3 S2 => (r3 = 0 → hK S2 a0 = 14 ∧ wp_X12_sumOf S2 a0 a1 (fun r7 S6 => (r7 = 0 → Q 11 S6) ∧ (¬ (r7 = 0) → hK S6 a0 = 14 ∧ wp_X12_shares S6 a0 a1 r7 (fun r11 S10 => wp_X12_mixes_L37 a0 a1 r7 r11 (fun (S17 : Hp) => wp_X12_mixes_L58 a0 a1 r7 (fun (S54 : Hp) => wp_X12_mixes_L179 a0 a1 Q FU S54 0) Q FU S17 r11) Q FU S10 0)))) ∧ (¬ (r3 = 0) → Q 21 S2))
set_option maxRecDepth 100000 in
set_option maxHeartbeats 4000000 in
theorem w_X12_mixes_L37 {p : Program} {l : Launch} {e : Env} {s : State} {m : MethodId} {args : Array Value} {below : List Frame} {meth : Method} {c : Code} {G : GX} {Q : Int32 → Hp → Prop} {K58 : Hp → Prop} {l0 : Nat} {l1 : Int32} {l2 : Int64} {l4 : Int64} (C : Cx p s m args meth c cX12_mixes 8 RX12 (some .int) "mixes" G)
    (k58 : ∀ (S : Hp) (H : Heap) (locs : List Loc) (ls : Array Slot), wd G S H → va_S G.2.2.1 s.heap H locs → LV ls 8 → ls[0]? = some (.val (va_rf (some l0))) → ls[1]? = some (.val (.int l1)) → ls[2]? = some (.val (.long l2)) → ls[4]? = some (.val (.long l4)) → K58 S → W p l e ({ frames := 2, cells := 0, slots := 0, locals := 48 } : Room) s m args below meth c H locs 0 0 (MQ below (QI G Q) args s 0 0 G.2.2.1) (F0 m 58 ls [])) :
    ∀ (n : Nat) (S : Hp) (l6 : Int32) (H : Heap) (locs : List Loc) (ls : Array Slot), wd G S H → va_S G.2.2.1 s.heap H locs → LV ls 8 → ls[0]? = some (.val (va_rf (some l0))) → ls[1]? = some (.val (.int l1)) → ls[2]? = some (.val (.long l2)) → ls[4]? = some (.val (.long l4)) → ls[6]? = some (.val (.int l6)) → wp_X12_mixes_L37 l0 l1 l2 l4 K58 Q n S l6 → W p l e ({ frames := 2, cells := 0, slots := 0, locals := 48 } : Room) s m args below meth c H locs 0 0 (MQ below (QI G Q) args s 0 0 G.2.2.1) (F0 m 37 ls []) := by
  intro n
  induction n with
  | zero =>
    intro S l6 H locs ls hW hS hL h0 h1 h2 h4 h6 hw
    exact False.elim hw
  | succ n ih =>
    intro S l6 H locs ls hW hS hL h0 h1 h2 h4 h6 hw
    unfold wp_X12_mixes_L37 at hw
    refine lv_iload C.1 C.2.1 dX12_mixes_37 h6 ?_
    refine lv_bipush (v := 30) C.1 C.2.1 dX12_mixes_39 (by decide) ?_
    refine lv_icmp_ge (tgt := 58) C.1 C.2.1 dX12_mixes_41 (by decide) (fun hc12 => ?_) (fun hc12 => ?_)
    · have hw := hw.1 hc12
      exact k58 S H locs ls hW hS hL h0 h1 h2 h4 hw
    · have hw := hw.2 hc12
      refine m_aldN C dX12_mixes_44 rfl h0 ?_
      obtain ⟨hk13, hw⟩ := hw
      refine m_getR C hW rfl hk13 f_X12_106 rfl dX12_mixes_45 ?_
      refine lv_iload C.1 C.2.1 dX12_mixes_48 h6 ?_
      refine lv_iconst (v := 0) C.1 C.2.1 dX12_mixes_50 (by decide) ?_
      obtain ⟨b14, ho14, hw⟩ := hw
      obtain ⟨hk15, hw⟩ := hw
      obtain ⟨hi16, hw⟩ := hw
      refine m_zast C hW hS ho14 hk15 hi16 (by decide) dX12_mixes_51 (fun H locs hW hS => ?_)
      refine m_iinc (v := (l6 + 1)) C hL dX12_mixes_52 h6 rfl (by decide) (fun ls hL hn9 hk9 => ?_)
      have h0 := hk9 0 _ h0 (by decide) (Or.inl (by decide))
      have h1 := hk9 1 _ h1 (by decide) (Or.inl (by decide))
      have h2 := hk9 2 _ h2 (by decide) (Or.inl (by decide))
      have h4 := hk9 4 _ h4 (by decide) (Or.inl (by decide))
      have h6 := hn9
      refine lv_goto (tgt := 37) C.1 C.2.1 dX12_mixes_55 (by decide) ?_
      exact ih (sI S b14 (l6 : Int32).toNatClampNeg 0) (l6 + 1) H locs ls hW hS hL h0 h1 h2 h4 h6 hw
set_option maxRecDepth 100000 in
set_option maxHeartbeats 4000000 in
theorem w_X12_mixes_L71 {p : Program} {l : Launch} {e : Env} {s : State} {m : MethodId} {args : Array Value} {below : List Frame} {meth : Method} {c : Code} {G : GX} {Q : Int32 → Hp → Prop} {K148 : Hp → Int32 → Prop} {l0 : Nat} {l1 : Int32} {l2 : Int64} {l4 : Int64} (C : Cx p s m args meth c cX12_mixes 8 RX12 (some .int) "mixes" G)
    (k148 : ∀ (S : Hp) (l6 : Int32) (H : Heap) (locs : List Loc) (ls : Array Slot), wd G S H → va_S G.2.2.1 s.heap H locs → LV ls 8 → ls[0]? = some (.val (va_rf (some l0))) → ls[1]? = some (.val (.int l1)) → ls[2]? = some (.val (.long l2)) → ls[4]? = some (.val (.long l4)) → ls[6]? = some (.val (.int l6)) → K148 S l6 → W p l e ({ frames := 2, cells := 0, slots := 0, locals := 48 } : Room) s m args below meth c H locs 0 0 (MQ below (QI G Q) args s 0 0 G.2.2.1) (F0 m 148 ls [])) :
    ∀ (n : Nat) (S : Hp) (l6 : Int32) (l7 : Int32) (H : Heap) (locs : List Loc) (ls : Array Slot), wd G S H → va_S G.2.2.1 s.heap H locs → LV ls 8 → ls[0]? = some (.val (va_rf (some l0))) → ls[1]? = some (.val (.int l1)) → ls[2]? = some (.val (.long l2)) → ls[4]? = some (.val (.long l4)) → ls[6]? = some (.val (.int l6)) → ls[7]? = some (.val (.int l7)) → wp_X12_mixes_L71 l0 l1 l2 l4 K148 Q n S l6 l7 → W p l e ({ frames := 2, cells := 0, slots := 0, locals := 48 } : Room) s m args below meth c H locs 0 0 (MQ below (QI G Q) args s 0 0 G.2.2.1) (F0 m 71 ls []) := by
  intro n
  induction n with
  | zero =>
    intro S l6 l7 H locs ls hW hS hL h0 h1 h2 h4 h6 h7 hw
    exact False.elim hw
  | succ n ih =>
    intro S l6 l7 H locs ls hW hS hL h0 h1 h2 h4 h6 h7 hw
    unfold wp_X12_mixes_L71 at hw
    refine lv_iload C.1 C.2.1 dX12_mixes_71 h7 ?_
    refine m_aldN C dX12_mixes_73 rfl h0 ?_
    obtain ⟨hk19, hw⟩ := hw
    refine m_getR C hW rfl hk19 f_X12_54 rfl dX12_mixes_74 ?_
    refine lv_iload_n C.1 C.2.1 dX12_mixes_77 rfl h1 ?_
    obtain ⟨b20, ho20, hw⟩ := hw
    obtain ⟨hk21, hw⟩ := hw
    obtain ⟨hi22, hw⟩ := hw
    refine m_iald C hW ho20 hk21 hi22 dX12_mixes_78 ?_
    refine lv_icmp_ge (tgt := 148) C.1 C.2.1 dX12_mixes_79 (by decide) (fun hc23 => ?_) (fun hc23 => ?_)
    · have hw := hw.1 hc23
      exact k148 S l6 H locs ls hW hS hL h0 h1 h2 h4 h6 hw
    · have hw := hw.2 hc23
      refine m_aldN C dX12_mixes_82 rfl h0 ?_
      refine m_getR C hW rfl hk19 f_X12_106 rfl dX12_mixes_83 ?_
      refine lv_iload C.1 C.2.1 dX12_mixes_86 h7 ?_
      obtain ⟨b24, ho24, hw⟩ := hw
      obtain ⟨hk25, hw⟩ := hw
      obtain ⟨hi26, hw⟩ := hw
      refine m_zald C hW ho24 hk25 hi26 dX12_mixes_88 ?_
      refine lv_if_ne (tgt := 142) C.1 C.2.1 dX12_mixes_89 (by decide) (fun hc27 => ?_) (fun hc27 => ?_)
      · have hw := hw.2 hc27
        refine m_iinc (v := (l7 + 1)) C hL dX12_mixes_142 h7 rfl (by decide) (fun ls hL hn9 hk9 => ?_)
        have h0 := hk9 0 _ h0 (by decide) (Or.inl (by decide))
        have h1 := hk9 1 _ h1 (by decide) (Or.inl (by decide))
        have h2 := hk9 2 _ h2 (by decide) (Or.inl (by decide))
        have h4 := hk9 4 _ h4 (by decide) (Or.inl (by decide))
        have h6 := hk9 6 _ h6 (by decide) (Or.inr (rfl))
        have h7 := hn9
        refine lv_goto (tgt := 71) C.1 C.2.1 dX12_mixes_145 (by decide) ?_
        exact ih S l6 (l7 + 1) H locs ls hW hS hL h0 h1 h2 h4 h6 h7 hw
      · have hw := hw.1 hc27
        refine lv_iload C.1 C.2.1 dX12_mixes_92 h6 ?_
        refine lv_iconst (v := (-1)) C.1 C.2.1 dX12_mixes_94 (by decide) ?_
        refine lv_icmp_eq (tgt := 138) C.1 C.2.1 dX12_mixes_95 (by decide) (fun hc28 => ?_) (fun hc28 => ?_)
        · have hw := hw.1 hc28
          refine lv_iload C.1 C.2.1 dX12_mixes_138 h7 ?_
          refine m_ist C hL dX12_mixes_140 (by decide) (fun ls hL hn9 hk9 => ?_)
          have h0 := hk9 0 _ h0 (by decide) (Or.inl (by decide))
          have h1 := hk9 1 _ h1 (by decide) (Or.inl (by decide))
          have h2 := hk9 2 _ h2 (by decide) (Or.inl (by decide))
          have h4 := hk9 4 _ h4 (by decide) (Or.inl (by decide))
          have h7 := hk9 7 _ h7 (by decide) (Or.inl (by decide))
          have h6 := hn9
          refine m_iinc (v := (l7 + 1)) C hL dX12_mixes_142 h7 rfl (by decide) (fun ls hL hn9 hk9 => ?_)
          have h0 := hk9 0 _ h0 (by decide) (Or.inl (by decide))
          have h1 := hk9 1 _ h1 (by decide) (Or.inl (by decide))
          have h2 := hk9 2 _ h2 (by decide) (Or.inl (by decide))
          have h4 := hk9 4 _ h4 (by decide) (Or.inl (by decide))
          have h6 := hk9 6 _ h6 (by decide) (Or.inr (rfl))
          have h7 := hn9
          refine lv_goto (tgt := 71) C.1 C.2.1 dX12_mixes_145 (by decide) ?_
          exact ih S l7 (l7 + 1) H locs ls hW hS hL h0 h1 h2 h4 h6 h7 hw
        · have hw := hw.2 hc28
          refine m_aldN C dX12_mixes_98 rfl h0 ?_
          refine m_getR C hW rfl hk19 f_X12_45 rfl dX12_mixes_99 ?_
          refine lv_iload_n C.1 C.2.1 dX12_mixes_102 rfl h1 ?_
          obtain ⟨b29, ho29, hw⟩ := hw
          obtain ⟨hk30, hw⟩ := hw
          obtain ⟨hi31, hw⟩ := hw
          refine m_iald C hW ho29 hk30 hi31 dX12_mixes_103 ?_
          refine lv_i2l (v := (((hI S b29 (l1 : Int32).toNatClampNeg) : Int32).toInt64)) C.1 C.2.1 dX12_mixes_104 rfl ?_
          refine m_aldN C dX12_mixes_105 rfl h0 ?_
          refine lv_iload_n C.1 C.2.1 dX12_mixes_106 rfl h1 ?_
          refine lv_iload C.1 C.2.1 dX12_mixes_107 h7 ?_
          refine m_rI (m_runV (As := [.int l1, .int l7]) (rest := [.long (((hI S b29 (l1 : Int32).toNatClampNeg) : Int32).toInt64)]) C hW hS hL (c_X12_number hw) v_X12_181 ⟨rfl, rfl⟩ ⟨Nat.le_of_ble_eq_true rfl, Nat.le_of_ble_eq_true rfl⟩ rfl hk19 rfl rfl (Nat.le_of_ble_eq_true rfl) dX12_mixes_109 ⟨Nat.le_of_ble_eq_true rfl, Nat.le_of_ble_eq_true rfl⟩) hS (fun r33 S32 H locs hw hW hS => ?_)
          refine lv_i2l (v := ((r33 : Int32).toInt64)) C.1 C.2.1 dX12_mixes_112 rfl ?_
          refine lv_lmul C.1 C.2.1 dX12_mixes_113 ?_
          refine lv_lload_n C.1 C.2.1 dX12_mixes_114 rfl h2 ?_
          obtain ⟨hz34, hw⟩ := hw
          refine lv_lrem C.1 C.2.1 dX12_mixes_115 hz34 ?_
          refine m_aldN C dX12_mixes_116 rfl h0 ?_
          obtain ⟨hk35, hw⟩ := hw
          refine m_getR C hW rfl hk35 f_X12_45 rfl dX12_mixes_117 ?_
          refine lv_iload_n C.1 C.2.1 dX12_mixes_120 rfl h1 ?_
          obtain ⟨b36, ho36, hw⟩ := hw
          obtain ⟨hk37, hw⟩ := hw
          obtain ⟨hi38, hw⟩ := hw
          refine m_iald C hW ho36 hk37 hi38 dX12_mixes_121 ?_
          refine lv_i2l (v := (((hI S32 b36 (l1 : Int32).toNatClampNeg) : Int32).toInt64)) C.1 C.2.1 dX12_mixes_122 rfl ?_
          refine m_aldN C dX12_mixes_123 rfl h0 ?_
          refine lv_iload_n C.1 C.2.1 dX12_mixes_124 rfl h1 ?_
          refine lv_iload C.1 C.2.1 dX12_mixes_125 h6 ?_
          refine m_rI (m_runV (As := [.int l1, .int l6]) (rest := [.long (((hI S32 b36 (l1 : Int32).toNatClampNeg) : Int32).toInt64), .long (((((hI S b29 (l1 : Int32).toNatClampNeg) : Int32).toInt64) * ((r33 : Int32).toInt64)) - ((((hI S b29 (l1 : Int32).toNatClampNeg) : Int32).toInt64) * ((r33 : Int32).toInt64)) / l2 * l2)]) C hW hS hL (c_X12_number hw) v_X12_181 ⟨rfl, rfl⟩ ⟨Nat.le_of_ble_eq_true rfl, Nat.le_of_ble_eq_true rfl⟩ rfl hk35 rfl rfl (Nat.le_of_ble_eq_true rfl) dX12_mixes_127 ⟨Nat.le_of_ble_eq_true rfl, Nat.le_of_ble_eq_true rfl⟩) hS (fun r40 S39 H locs hw hW hS => ?_)
          refine lv_i2l (v := ((r40 : Int32).toInt64)) C.1 C.2.1 dX12_mixes_130 rfl ?_
          refine lv_lmul C.1 C.2.1 dX12_mixes_131 ?_
          refine lv_lload_n C.1 C.2.1 dX12_mixes_132 rfl h2 ?_
          obtain ⟨hz41, hw⟩ := hw
          refine lv_lrem C.1 C.2.1 dX12_mixes_133 hz41 ?_
          refine W.lcmp C.1 C.2.1 dX12_mixes_134 ?_
          refine lv_if_le (tgt := 142) C.1 C.2.1 dX12_mixes_135 (by decide) (fun hc42 => ?_) (fun hc42 => ?_)
          · have hw := hw.1 ((q_le _ _).mp hc42)
            refine m_iinc (v := (l7 + 1)) C hL dX12_mixes_142 h7 rfl (by decide) (fun ls hL hn9 hk9 => ?_)
            have h0 := hk9 0 _ h0 (by decide) (Or.inl (by decide))
            have h1 := hk9 1 _ h1 (by decide) (Or.inl (by decide))
            have h2 := hk9 2 _ h2 (by decide) (Or.inl (by decide))
            have h4 := hk9 4 _ h4 (by decide) (Or.inl (by decide))
            have h6 := hk9 6 _ h6 (by decide) (Or.inr (rfl))
            have h7 := hn9
            refine lv_goto (tgt := 71) C.1 C.2.1 dX12_mixes_145 (by decide) ?_
            exact ih S39 l6 (l7 + 1) H locs ls hW hS hL h0 h1 h2 h4 h6 h7 hw
          · have hw := hw.2 (fun z => hc42 ((q_le _ _).mpr z))
            refine lv_iload C.1 C.2.1 dX12_mixes_138 h7 ?_
            refine m_ist C hL dX12_mixes_140 (by decide) (fun ls hL hn9 hk9 => ?_)
            have h0 := hk9 0 _ h0 (by decide) (Or.inl (by decide))
            have h1 := hk9 1 _ h1 (by decide) (Or.inl (by decide))
            have h2 := hk9 2 _ h2 (by decide) (Or.inl (by decide))
            have h4 := hk9 4 _ h4 (by decide) (Or.inl (by decide))
            have h7 := hk9 7 _ h7 (by decide) (Or.inl (by decide))
            have h6 := hn9
            refine m_iinc (v := (l7 + 1)) C hL dX12_mixes_142 h7 rfl (by decide) (fun ls hL hn9 hk9 => ?_)
            have h0 := hk9 0 _ h0 (by decide) (Or.inl (by decide))
            have h1 := hk9 1 _ h1 (by decide) (Or.inl (by decide))
            have h2 := hk9 2 _ h2 (by decide) (Or.inl (by decide))
            have h4 := hk9 4 _ h4 (by decide) (Or.inl (by decide))
            have h6 := hk9 6 _ h6 (by decide) (Or.inr (rfl))
            have h7 := hn9
            refine lv_goto (tgt := 71) C.1 C.2.1 dX12_mixes_145 (by decide) ?_
            exact ih S39 l7 (l7 + 1) H locs ls hW hS hL h0 h1 h2 h4 h6 h7 hw
set_option maxRecDepth 100000 in
set_option maxHeartbeats 4000000 in
theorem w_X12_mixes_L58 {p : Program} {l : Launch} {e : Env} {s : State} {m : MethodId} {args : Array Value} {below : List Frame} {meth : Method} {c : Code} {G : GX} {Q : Int32 → Hp → Prop} {K176 : Hp → Prop} {l0 : Nat} {l1 : Int32} {l2 : Int64} (C : Cx p s m args meth c cX12_mixes 8 RX12 (some .int) "mixes" G)
    (k176 : ∀ (S : Hp) (H : Heap) (locs : List Loc) (ls : Array Slot), wd G S H → va_S G.2.2.1 s.heap H locs → LV ls 8 → ls[0]? = some (.val (va_rf (some l0))) → ls[1]? = some (.val (.int l1)) → K176 S → W p l e ({ frames := 2, cells := 0, slots := 0, locals := 48 } : Room) s m args below meth c H locs 0 0 (MQ below (QI G Q) args s 0 0 G.2.2.1) (F0 m 176 ls [])) :
    ∀ (n : Nat) (S : Hp) (l4 : Int64) (H : Heap) (locs : List Loc) (ls : Array Slot), wd G S H → va_S G.2.2.1 s.heap H locs → LV ls 8 → ls[0]? = some (.val (va_rf (some l0))) → ls[1]? = some (.val (.int l1)) → ls[2]? = some (.val (.long l2)) → ls[4]? = some (.val (.long l4)) → wp_X12_mixes_L58 l0 l1 l2 K176 Q n S l4 → W p l e ({ frames := 2, cells := 0, slots := 0, locals := 48 } : Room) s m args below meth c H locs 0 0 (MQ below (QI G Q) args s 0 0 G.2.2.1) (F0 m 58 ls []) := by
  intro n
  induction n with
  | zero =>
    intro S l4 H locs ls hW hS hL h0 h1 h2 h4 hw
    exact False.elim hw
  | succ n ih =>
    intro S l4 H locs ls hW hS hL h0 h1 h2 h4 hw
    unfold wp_X12_mixes_L58 at hw
    refine lv_lload C.1 C.2.1 dX12_mixes_58 h4 ?_
    refine lv_lconst (v := 0) C.1 C.2.1 dX12_mixes_60 (by decide) ?_
    refine W.lcmp C.1 C.2.1 dX12_mixes_61 ?_
    refine lv_if_le (tgt := 176) C.1 C.2.1 dX12_mixes_62 (by decide) (fun hc18 => ?_) (fun hc18 => ?_)
    · have hw := hw.1 ((q_le _ _).mp hc18)
      exact k176 S H locs ls hW hS hL h0 h1 hw
    · have hw := hw.2 (fun z => hc18 ((q_le _ _).mpr z))
      refine lv_iconst (v := (-1)) C.1 C.2.1 dX12_mixes_65 (by decide) ?_
      refine m_ist C hL dX12_mixes_66 (by decide) (fun ls hL hn9 hk9 => ?_)
      have h0 := hk9 0 _ h0 (by decide) (Or.inl (by decide))
      have h1 := hk9 1 _ h1 (by decide) (Or.inl (by decide))
      have h2 := hk9 2 _ h2 (by decide) (Or.inl (by decide))
      have h4 := hk9 4 _ h4 (by decide) (Or.inl (by decide))
      have h6 := hn9
      refine lv_iconst (v := 0) C.1 C.2.1 dX12_mixes_68 (by decide) ?_
      refine m_ist C hL dX12_mixes_69 (by decide) (fun ls hL hn9 hk9 => ?_)
      have h0 := hk9 0 _ h0 (by decide) (Or.inl (by decide))
      have h1 := hk9 1 _ h1 (by decide) (Or.inl (by decide))
      have h2 := hk9 2 _ h2 (by decide) (Or.inl (by decide))
      have h4 := hk9 4 _ h4 (by decide) (Or.inl (by decide))
      have h6 := hk9 6 _ h6 (by decide) (Or.inr (rfl))
      have h7 := hn9
      refine w_X12_mixes_L71 C ?_ FU S (-1) 0 H locs ls hW hS hL h0 h1 h2 h4 h6 h7 hw
      · intro S43 x44 H locs ls hW hS hL h0 h1 h2 h4 h6 hw
        refine m_aldN C dX12_mixes_148 rfl h0 ?_
        obtain ⟨hk45, hw⟩ := hw
        refine m_getR C hW rfl hk45 f_X12_106 rfl dX12_mixes_149 ?_
        refine lv_iload C.1 C.2.1 dX12_mixes_152 h6 ?_
        refine lv_iconst (v := 1) C.1 C.2.1 dX12_mixes_154 (by decide) ?_
        obtain ⟨b46, ho46, hw⟩ := hw
        obtain ⟨hk47, hw⟩ := hw
        obtain ⟨hi48, hw⟩ := hw
        refine m_zast C hW hS ho46 hk47 hi48 (by decide) dX12_mixes_155 (fun H locs hW hS => ?_)
        refine m_aldN C dX12_mixes_156 rfl h0 ?_
        refine m_getR C hW rfl hk45 f_X12_103 rfl dX12_mixes_157 ?_
        refine lv_iload C.1 C.2.1 dX12_mixes_160 h6 ?_
        refine lv_dup2_11 C.1 C.2.1 dX12_mixes_162 (rfl) (va_rf_cat _) ?_
        obtain ⟨b49, ho49, hw⟩ := hw
        obtain ⟨hk50, hw⟩ := hw
        obtain ⟨hi51, hw⟩ := hw
        refine m_lald C hW ho49 hk50 hi51 dX12_mixes_163 ?_
        refine lv_lconst (v := 1) C.1 C.2.1 dX12_mixes_164 (by decide) ?_
        refine lv_ladd C.1 C.2.1 dX12_mixes_165 ?_
        obtain ⟨hi52, hw⟩ := hw
        refine m_last C hW hS ho49 hk50 hi52 dX12_mixes_166 (fun H locs hW hS => ?_)
        refine lv_lload C.1 C.2.1 dX12_mixes_167 h4 ?_
        refine lv_lconst (v := 1) C.1 C.2.1 dX12_mixes_169 (by decide) ?_
        refine lv_lsub C.1 C.2.1 dX12_mixes_170 ?_
        refine lv_topl (fun z53 ez53 => ?_)
        have hw := hw z53 ez53
        refine m_lst C hL dX12_mixes_171 (by decide) (fun ls hL hn9 hk9 => ?_)
        have h0 := hk9 0 _ h0 (by decide) (by decide) (Or.inl (by decide))
        have h1 := hk9 1 _ h1 (by decide) (by decide) (Or.inl (by decide))
        have h2 := hk9 2 _ h2 (by decide) (by decide) (Or.inl (by decide))
        have h4 := hn9
        refine lv_goto (tgt := 58) C.1 C.2.1 dX12_mixes_173 (by decide) ?_
        exact ih (sJ (sI S43 b46 (x44 : Int32).toNatClampNeg 1) b49 (x44 : Int32).toNatClampNeg ((hJ (sI S43 b46 (x44 : Int32).toNatClampNeg 1) b49 (x44 : Int32).toNatClampNeg) + 1)) z53 H locs ls hW hS hL h0 h1 h2 h4 hw
set_option maxRecDepth 100000 in
set_option maxHeartbeats 4000000 in
theorem w_X12_mixes_L179 {p : Program} {l : Launch} {e : Env} {s : State} {m : MethodId} {args : Array Value} {below : List Frame} {meth : Method} {c : Code} {G : GX} {Q : Int32 → Hp → Prop} {l0 : Nat} {l1 : Int32} (C : Cx p s m args meth c cX12_mixes 8 RX12 (some .int) "mixes" G) :
    ∀ (n : Nat) (S : Hp) (l6 : Int32) (H : Heap) (locs : List Loc) (ls : Array Slot), wd G S H → va_S G.2.2.1 s.heap H locs → LV ls 8 → ls[0]? = some (.val (va_rf (some l0))) → ls[1]? = some (.val (.int l1)) → ls[6]? = some (.val (.int l6)) → wp_X12_mixes_L179 l0 l1 Q n S l6 → W p l e ({ frames := 2, cells := 0, slots := 0, locals := 48 } : Room) s m args below meth c H locs 0 0 (MQ below (QI G Q) args s 0 0 G.2.2.1) (F0 m 179 ls []) := by
  intro n
  induction n with
  | zero =>
    intro S l6 H locs ls hW hS hL h0 h1 h6 hw
    exact False.elim hw
  | succ n ih =>
    intro S l6 H locs ls hW hS hL h0 h1 h6 hw
    unfold wp_X12_mixes_L179 at hw
    refine lv_iload C.1 C.2.1 dX12_mixes_179 h6 ?_
    refine m_aldN C dX12_mixes_181 rfl h0 ?_
    obtain ⟨hk55, hw⟩ := hw
    refine m_getR C hW rfl hk55 f_X12_54 rfl dX12_mixes_182 ?_
    refine lv_iload_n C.1 C.2.1 dX12_mixes_185 rfl h1 ?_
    obtain ⟨b56, ho56, hw⟩ := hw
    obtain ⟨hk57, hw⟩ := hw
    obtain ⟨hi58, hw⟩ := hw
    refine m_iald C hW ho56 hk57 hi58 dX12_mixes_186 ?_
    refine lv_icmp_ge (tgt := 222) C.1 C.2.1 dX12_mixes_187 (by decide) (fun hc59 => ?_) (fun hc59 => ?_)
    · have hw := hw.1 hc59
      refine lv_iconst (v := 0) C.1 C.2.1 dX12_mixes_222 (by decide) ?_
      exact m_iret C hW hS hw dX12_mixes_223
    · have hw := hw.2 hc59
      refine m_aldN C dX12_mixes_190 rfl h0 ?_
      refine lv_dup C.1 C.2.1 dX12_mixes_191 (va_rf_cat _) ?_
      refine m_getI C hW rfl hk55 f_X12_163 rfl dX12_mixes_192 ?_
      refine m_aldN C dX12_mixes_195 rfl h0 ?_
      refine m_getR C hW rfl hk55 f_X12_103 rfl dX12_mixes_196 ?_
      refine lv_iload C.1 C.2.1 dX12_mixes_199 h6 ?_
      obtain ⟨b60, ho60, hw⟩ := hw
      obtain ⟨hk61, hw⟩ := hw
      obtain ⟨hi62, hw⟩ := hw
      refine m_lald C hW ho60 hk61 hi62 dX12_mixes_201 ?_
      refine lv_lconst (v := 0) C.1 C.2.1 dX12_mixes_202 (by decide) ?_
      refine W.lcmp C.1 C.2.1 dX12_mixes_203 ?_
      refine lv_if_le (tgt := 211) C.1 C.2.1 dX12_mixes_204 (by decide) (fun hc63 => ?_) (fun hc63 => ?_)
      · have hw := hw.1 ((q_le _ _).mp hc63)
        refine lv_iconst (v := 0) C.1 C.2.1 dX12_mixes_211 (by decide) ?_
        refine lv_iadd C.1 C.2.1 dX12_mixes_212 ?_
        refine m_putI C hW hS rfl hk55 p_X12_163 (fun z => by cases z) rfl dX12_mixes_213 (fun H locs hW hS => ?_)
        refine m_iinc (v := (l6 + 1)) C hL dX12_mixes_216 h6 rfl (by decide) (fun ls hL hn9 hk9 => ?_)
        have h0 := hk9 0 _ h0 (by decide) (Or.inl (by decide))
        have h1 := hk9 1 _ h1 (by decide) (Or.inl (by decide))
        have h6 := hn9
        refine lv_goto (tgt := 179) C.1 C.2.1 dX12_mixes_219 (by decide) ?_
        exact ih (sI S l0 41 ((hI S l0 41) + 0)) (l6 + 1) H locs ls hW hS hL h0 h1 h6 hw
      · have hw := hw.2 (fun z => hc63 ((q_le _ _).mpr z))
        refine lv_iconst (v := 1) C.1 C.2.1 dX12_mixes_207 (by decide) ?_
        refine lv_goto (tgt := 212) C.1 C.2.1 dX12_mixes_208 (by decide) ?_
        refine lv_iadd C.1 C.2.1 dX12_mixes_212 ?_
        refine m_putI C hW hS rfl hk55 p_X12_163 (fun z => by cases z) rfl dX12_mixes_213 (fun H locs hW hS => ?_)
        refine m_iinc (v := (l6 + 1)) C hL dX12_mixes_216 h6 rfl (by decide) (fun ls hL hn9 hk9 => ?_)
        have h0 := hk9 0 _ h0 (by decide) (Or.inl (by decide))
        have h1 := hk9 1 _ h1 (by decide) (Or.inl (by decide))
        have h6 := hn9
        refine lv_goto (tgt := 179) C.1 C.2.1 dX12_mixes_219 (by decide) ?_
        exact ih (sI S l0 41 ((hI S l0 41) + 1)) (l6 + 1) H locs ls hW hS hL h0 h1 h6 hw
set_option maxRecDepth 100000 in
set_option maxHeartbeats 4000000 in
theorem c_X12_mixes {l : Launch} {G : GX} {S : Hp} {a0 : Nat} {a1 : Int32} {Q : Int32 → Hp → Prop} (hw : wp_X12_mixes S a0 a1 Q) : Met l yX12_mixes (Cond.code yX12_mixes cX12_mixes 8 (some .int) :: TS) { frames := 2, cells := 0, slots := 0, locals := 48 } (Pk G S [va_rf (some a0), .int a1]) (QI G Q) 0 0 G.2.2.1 := by
  refine m_met (by decide) ?_
  intro p e s m below meth c H locs C hW hS
  have C : Cx p s m ([va_rf (some a0), .int a1] : List Value).toArray meth c cX12_mixes 8 RX12 (some .int) "mixes" G := C
  obtain ⟨ls, hent, hL, hla⟩ := m_entry m (vs := [va_rf (some a0), .int a1]) (nn := 8) [1, 1] rfl (by decide)
  rw [hent]
  have h0 : ls[0]? = some (.val (va_rf (some a0))) := hla (0, va_rf (some a0)) (List.mem_of_getElem? (i := 0) rfl)
  have h1 : ls[1]? = some (.val (.int a1)) := hla (1, .int a1) (List.mem_of_getElem? (i := 1) rfl)
  clear hla
  generalize ([va_rf (some a0), .int a1] : List Value).toArray = args at C ⊢
  unfold wp_X12_mixes at hw
  refine m_aldN C dX12_mixes_0 rfl h0 ?_
  refine lv_iload_n C.1 C.2.1 dX12_mixes_1 rfl h1 ?_
  obtain ⟨hk1, hw⟩ := hw
  refine m_rI (m_runV (As := [.int a1]) (rest := []) C hW hS hL (c_X12_isBelow hw) v_X12_184 ⟨rfl, rfl⟩ ⟨Nat.le_of_ble_eq_true rfl, Nat.le_of_ble_eq_true rfl⟩ rfl hk1 rfl rfl (Nat.le_of_ble_eq_true rfl) dX12_mixes_2 ⟨Nat.le_of_ble_eq_true rfl, Nat.le_of_ble_eq_true rfl⟩) hS (fun r3 S2 H locs hw hW hS => ?_)
  refine lv_if_eq (tgt := 11) C.1 C.2.1 dX12_mixes_5 (by decide) (fun hc4 => ?_) (fun hc4 => ?_)
  · have hw := hw.1 hc4
    refine m_aldN C dX12_mixes_11 rfl h0 ?_
    refine lv_iload_n C.1 C.2.1 dX12_mixes_12 rfl h1 ?_
    obtain ⟨hk5, hw⟩ := hw
    refine m_rL (m_runV (As := [.int a1]) (rest := []) C hW hS hL (c_X12_sumOf hw) v_X12_187 ⟨rfl, rfl⟩ ⟨Nat.le_of_ble_eq_true rfl, Nat.le_of_ble_eq_true rfl⟩ rfl hk5 rfl rfl (Nat.le_of_ble_eq_true rfl) dX12_mixes_13 ⟨Nat.le_of_ble_eq_true rfl, Nat.le_of_ble_eq_true rfl⟩) hS (fun r7 S6 H locs hw hW hS => ?_)
    refine m_lstN C hL dX12_mixes_16 rfl (by decide) (fun ls hL hn9 hk9 => ?_)
    have h0 := hk9 0 _ h0 (by decide) (by decide) (Or.inl (by decide))
    have h1 := hk9 1 _ h1 (by decide) (by decide) (Or.inr (rfl))
    have h2 := hn9
    refine lv_lload_n C.1 C.2.1 dX12_mixes_17 rfl h2 ?_
    refine lv_lconst (v := 0) C.1 C.2.1 dX12_mixes_18 (by decide) ?_
    refine W.lcmp C.1 C.2.1 dX12_mixes_19 ?_
    refine lv_if_ne (tgt := 26) C.1 C.2.1 dX12_mixes_20 (by decide) (fun hc8 => ?_) (fun hc8 => ?_)
    · have hw := hw.2 (fun z => hc8 ((q_ne _ _).mpr z))
      refine m_aldN C dX12_mixes_26 rfl h0 ?_
      refine lv_iload_n C.1 C.2.1 dX12_mixes_27 rfl h1 ?_
      refine lv_lload_n C.1 C.2.1 dX12_mixes_28 rfl h2 ?_
      obtain ⟨hk9, hw⟩ := hw
      refine m_rL (m_runV (As := [.int a1, .long r7]) (rest := []) C hW hS hL (c_X12_shares hw) v_X12_191 ⟨rfl, rfl⟩ ⟨Nat.le_of_ble_eq_true rfl, Nat.le_of_ble_eq_true rfl⟩ rfl hk9 rfl rfl (Nat.le_of_ble_eq_true rfl) dX12_mixes_29 ⟨Nat.le_of_ble_eq_true rfl, Nat.le_of_ble_eq_true rfl⟩) hS (fun r11 S10 H locs hw hW hS => ?_)
      refine m_lst C hL dX12_mixes_32 (by decide) (fun ls hL hn9 hk9 => ?_)
      have h0 := hk9 0 _ h0 (by decide) (by decide) (Or.inl (by decide))
      have h1 := hk9 1 _ h1 (by decide) (by decide) (Or.inl (by decide))
      have h2 := hk9 2 _ h2 (by decide) (by decide) (Or.inl (by decide))
      have h4 := hn9
      refine lv_iconst (v := 0) C.1 C.2.1 dX12_mixes_34 (by decide) ?_
      refine m_ist C hL dX12_mixes_35 (by decide) (fun ls hL hn9 hk9 => ?_)
      have h0 := hk9 0 _ h0 (by decide) (Or.inl (by decide))
      have h1 := hk9 1 _ h1 (by decide) (Or.inl (by decide))
      have h2 := hk9 2 _ h2 (by decide) (Or.inl (by decide))
      have h4 := hk9 4 _ h4 (by decide) (Or.inl (by decide))
      have h6 := hn9
      refine w_X12_mixes_L37 C ?_ FU S10 0 H locs ls hW hS hL h0 h1 h2 h4 h6 hw
      · intro S17 H locs ls hW hS hL h0 h1 h2 h4 hw
        refine w_X12_mixes_L58 C ?_ FU S17 r11 H locs ls hW hS hL h0 h1 h2 h4 hw
        · intro S54 H locs ls hW hS hL h0 h1 hw
          refine lv_iconst (v := 0) C.1 C.2.1 dX12_mixes_176 (by decide) ?_
          refine m_ist C hL dX12_mixes_177 (by decide) (fun ls hL hn9 hk9 => ?_)
          have h0 := hk9 0 _ h0 (by decide) (Or.inl (by decide))
          have h1 := hk9 1 _ h1 (by decide) (Or.inl (by decide))
          have h6 := hn9
          exact w_X12_mixes_L179 C  FU S54 0 H locs ls hW hS hL h0 h1 h6 hw
    · have hw := hw.1 ((q_ne _ _).mp hc8)
      refine lv_bipush (v := 11) C.1 C.2.1 dX12_mixes_23 (by decide) ?_
      exact m_iret C hW hS hw dX12_mixes_25
  · have hw := hw.2 hc4
    refine lv_bipush (v := 21) C.1 C.2.1 dX12_mixes_8 (by decide) ?_
    exact m_iret C hW hS hw dX12_mixes_10
def wp_X12_loads_L64 (l0 : Nat) (l1 : Int32) (K104 : Hp → Prop) (Q : Int32 → Hp → Prop) : Nat → Hp → Int64 → Int32 → Prop
  | 0, _, _, _ => False
  | n + 1, S, l4, l6 => (l4 ≤ 0 → K104 S) ∧ (¬ (l4 ≤ 0) → hK S l0 = 14 ∧ ∃ b23 : Nat, (hR S l0 40) = some b23 ∧ hK S b23 = 16 ∧ vp_in l6 (hN S b23) ∧ vp_in l6 (hN S b23) ∧ ∃ b27 : Nat, (hR (sJ S b23 (l6 : Int32).toNatClampNeg ((hJ S b23 (l6 : Int32).toNatClampNeg) + 1)) l0 19) = some b27 ∧ hK (sJ S b23 (l6 : Int32).toNatClampNeg ((hJ S b23 (l6 : Int32).toNatClampNeg) + 1)) b27 = 15 ∧ vp_in l1 (hN (sJ S b23 (l6 : Int32).toNatClampNeg ((hJ S b23 (l6 : Int32).toNatClampNeg) + 1)) b27) ∧ ¬ (hI (sJ S b23 (l6 : Int32).toNatClampNeg ((hJ S b23 (l6 : Int32).toNatClampNeg) + 1)) b27 (l1 : Int32).toNatClampNeg) = 0 ∧ ∀ x31 : Int32, x31 = ((l6 + 1) - (l6 + 1) / (hI (sJ S b23 (l6 : Int32).toNatClampNeg ((hJ S b23 (l6 : Int32).toNatClampNeg) + 1)) b27 (l1 : Int32).toNatClampNeg) * (hI (sJ S b23 (l6 : Int32).toNatClampNeg ((hJ S b23 (l6 : Int32).toNatClampNeg) + 1)) b27 (l1 : Int32).toNatClampNeg)) → ∀ z32 : Int64, z32 = (l4 - 1) → wp_X12_loads_L64 l0 l1 K104 Q n (sJ S b23 (l6 : Int32).toNatClampNeg ((hJ S b23 (l6 : Int32).toNatClampNeg) + 1)) z32 x31)
def wp_X12_loads (S : Hp) (a0 : Nat) (a1 : Int32) (Q : Int32 → Hp → Prop) : Prop := hK S a0 = 14 ∧ wp_X12_isBelow S a0 a1 (fun r3 S2 => (r3 = 0 → hK S2 a0 = 14 ∧ wp_X12_sumOf S2 a0 a1 (fun r7 S6 => (r7 = 0 → Q 11 S6) ∧ (¬ (r7 = 0) → hK S6 a0 = 14 ∧ ∃ b10 : Nat, (hR S6 a0 17) = some b10 ∧ hK S6 b10 = 15 ∧ vp_in a1 (hN S6 b10) ∧ ((hI S6 b10 (a1 : Int32).toNatClampNeg) < 0 → Q 12 S6) ∧ (¬ ((hI S6 b10 (a1 : Int32).toNatClampNeg) < 0) → vp_in a1 (hN S6 b10) ∧ ∃ b15 : Nat, (hR S6 a0 19) = some b15 ∧ hK S6 b15 = 15 ∧ vp_in a1 (hN S6 b15) ∧ ((hI S6 b10 (a1 : Int32).toNatClampNeg) < (hI S6 b15 (a1 : Int32).toNatClampNeg) → wp_X12_shares S6 a0 a1 r7 (fun r20 S19 => wp_X12_loads_L64 a0 a1 (fun (S33 : Hp) => hK S33 a0 = 14 ∧ ∃ b35 : Nat, (hR S33 a0 17) = some b35 ∧ hK S33 b35 = 15 ∧ vp_in a1 (hN S33 b35) ∧ ∃ b38 : Nat, (hR S33 a0 40) = some b38 ∧ hK S33 b38 = 16 ∧ vp_in (hI S33 b35 (a1 : Int32).toNatClampNeg) (hN S33 b38) ∧ Q 0 (sI S33 a0 41 (((hJ S33 b38 ((hI S33 b35 (a1 : Int32).toNatClampNeg) : Int32).toNatClampNeg) : Int64).toInt32))) Q FU S19 r20 0)) ∧ (¬ ((hI S6 b10 (a1 : Int32).toNatClampNeg) < (hI S6 b15 (a1 : Int32).toNatClampNeg)) → Q 12 S6))))) ∧ (¬ (r3 = 0) → Q 21 S2))
set_option maxRecDepth 100000 in
set_option maxHeartbeats 4000000 in
theorem w_X12_loads_L64 {p : Program} {l : Launch} {e : Env} {s : State} {m : MethodId} {args : Array Value} {below : List Frame} {meth : Method} {c : Code} {G : GX} {Q : Int32 → Hp → Prop} {K104 : Hp → Prop} {l0 : Nat} {l1 : Int32} (C : Cx p s m args meth c cX12_loads 7 RX12 (some .int) "loads" G)
    (k104 : ∀ (S : Hp) (H : Heap) (locs : List Loc) (ls : Array Slot), wd G S H → va_S G.2.2.1 s.heap H locs → LV ls 7 → ls[0]? = some (.val (va_rf (some l0))) → ls[1]? = some (.val (.int l1)) → K104 S → W p l e ({ frames := 2, cells := 0, slots := 0, locals := 48 } : Room) s m args below meth c H locs 0 0 (MQ below (QI G Q) args s 0 0 G.2.2.1) (F0 m 104 ls [])) :
    ∀ (n : Nat) (S : Hp) (l4 : Int64) (l6 : Int32) (H : Heap) (locs : List Loc) (ls : Array Slot), wd G S H → va_S G.2.2.1 s.heap H locs → LV ls 7 → ls[0]? = some (.val (va_rf (some l0))) → ls[1]? = some (.val (.int l1)) → ls[4]? = some (.val (.long l4)) → ls[6]? = some (.val (.int l6)) → wp_X12_loads_L64 l0 l1 K104 Q n S l4 l6 → W p l e ({ frames := 2, cells := 0, slots := 0, locals := 48 } : Room) s m args below meth c H locs 0 0 (MQ below (QI G Q) args s 0 0 G.2.2.1) (F0 m 64 ls []) := by
  intro n
  induction n with
  | zero =>
    intro S l4 l6 H locs ls hW hS hL h0 h1 h4 h6 hw
    exact False.elim hw
  | succ n ih =>
    intro S l4 l6 H locs ls hW hS hL h0 h1 h4 h6 hw
    unfold wp_X12_loads_L64 at hw
    refine lv_lload C.1 C.2.1 dX12_loads_64 h4 ?_
    refine lv_lconst (v := 0) C.1 C.2.1 dX12_loads_66 (by decide) ?_
    refine W.lcmp C.1 C.2.1 dX12_loads_67 ?_
    refine lv_if_le (tgt := 104) C.1 C.2.1 dX12_loads_68 (by decide) (fun hc21 => ?_) (fun hc21 => ?_)
    · have hw := hw.1 ((q_le _ _).mp hc21)
      exact k104 S H locs ls hW hS hL h0 h1 hw
    · have hw := hw.2 (fun z => hc21 ((q_le _ _).mpr z))
      refine m_aldN C dX12_loads_71 rfl h0 ?_
      obtain ⟨hk22, hw⟩ := hw
      refine m_getR C hW rfl hk22 f_X12_103 rfl dX12_loads_72 ?_
      refine lv_iload C.1 C.2.1 dX12_loads_75 h6 ?_
      refine lv_dup2_11 C.1 C.2.1 dX12_loads_77 (rfl) (va_rf_cat _) ?_
      obtain ⟨b23, ho23, hw⟩ := hw
      obtain ⟨hk24, hw⟩ := hw
      obtain ⟨hi25, hw⟩ := hw
      refine m_lald C hW ho23 hk24 hi25 dX12_loads_78 ?_
      refine lv_lconst (v := 1) C.1 C.2.1 dX12_loads_79 (by decide) ?_
      refine lv_ladd C.1 C.2.1 dX12_loads_80 ?_
      obtain ⟨hi26, hw⟩ := hw
      refine m_last C hW hS ho23 hk24 hi26 dX12_loads_81 (fun H locs hW hS => ?_)
      refine lv_iload C.1 C.2.1 dX12_loads_82 h6 ?_
      refine lv_iconst (v := 1) C.1 C.2.1 dX12_loads_84 (by decide) ?_
      refine lv_iadd C.1 C.2.1 dX12_loads_85 ?_
      refine m_aldN C dX12_loads_86 rfl h0 ?_
      refine m_getR C hW rfl hk22 f_X12_54 rfl dX12_loads_87 ?_
      refine lv_iload_n C.1 C.2.1 dX12_loads_90 rfl h1 ?_
      obtain ⟨b27, ho27, hw⟩ := hw
      obtain ⟨hk28, hw⟩ := hw
      obtain ⟨hi29, hw⟩ := hw
      refine m_iald C hW ho27 hk28 hi29 dX12_loads_91 ?_
      obtain ⟨hz30, hw⟩ := hw
      refine lv_irem C.1 C.2.1 dX12_loads_92 hz30 ?_
      refine lv_topi (fun x31 ex31 => ?_)
      have hw := hw x31 ex31
      refine m_ist C hL dX12_loads_93 (by decide) (fun ls hL hn9 hk9 => ?_)
      have h0 := hk9 0 _ h0 (by decide) (Or.inl (by decide))
      have h1 := hk9 1 _ h1 (by decide) (Or.inl (by decide))
      have h4 := hk9 4 _ h4 (by decide) (Or.inl (by decide))
      have h6 := hn9
      refine lv_lload C.1 C.2.1 dX12_loads_95 h4 ?_
      refine lv_lconst (v := 1) C.1 C.2.1 dX12_loads_97 (by decide) ?_
      refine lv_lsub C.1 C.2.1 dX12_loads_98 ?_
      refine lv_topl (fun z32 ez32 => ?_)
      have hw := hw z32 ez32
      refine m_lst C hL dX12_loads_99 (by decide) (fun ls hL hn9 hk9 => ?_)
      have h0 := hk9 0 _ h0 (by decide) (by decide) (Or.inl (by decide))
      have h1 := hk9 1 _ h1 (by decide) (by decide) (Or.inl (by decide))
      have h6 := hk9 6 _ h6 (by decide) (by decide) (Or.inl (by decide))
      have h4 := hn9
      refine lv_goto (tgt := 64) C.1 C.2.1 dX12_loads_101 (by decide) ?_
      exact ih (sJ S b23 (l6 : Int32).toNatClampNeg ((hJ S b23 (l6 : Int32).toNatClampNeg) + 1)) z32 x31 H locs ls hW hS hL h0 h1 h4 h6 hw
set_option maxRecDepth 100000 in
set_option maxHeartbeats 4000000 in
theorem c_X12_loads {l : Launch} {G : GX} {S : Hp} {a0 : Nat} {a1 : Int32} {Q : Int32 → Hp → Prop} (hw : wp_X12_loads S a0 a1 Q) : Met l yX12_loads (Cond.code yX12_loads cX12_loads 7 (some .int) :: TS) { frames := 2, cells := 0, slots := 0, locals := 48 } (Pk G S [va_rf (some a0), .int a1]) (QI G Q) 0 0 G.2.2.1 := by
  refine m_met (by decide) ?_
  intro p e s m below meth c H locs C hW hS
  have C : Cx p s m ([va_rf (some a0), .int a1] : List Value).toArray meth c cX12_loads 7 RX12 (some .int) "loads" G := C
  obtain ⟨ls, hent, hL, hla⟩ := m_entry m (vs := [va_rf (some a0), .int a1]) (nn := 7) [1, 1] rfl (by decide)
  rw [hent]
  have h0 : ls[0]? = some (.val (va_rf (some a0))) := hla (0, va_rf (some a0)) (List.mem_of_getElem? (i := 0) rfl)
  have h1 : ls[1]? = some (.val (.int a1)) := hla (1, .int a1) (List.mem_of_getElem? (i := 1) rfl)
  clear hla
  generalize ([va_rf (some a0), .int a1] : List Value).toArray = args at C ⊢
  unfold wp_X12_loads at hw
  refine m_aldN C dX12_loads_0 rfl h0 ?_
  refine lv_iload_n C.1 C.2.1 dX12_loads_1 rfl h1 ?_
  obtain ⟨hk1, hw⟩ := hw
  refine m_rI (m_runV (As := [.int a1]) (rest := []) C hW hS hL (c_X12_isBelow hw) v_X12_184 ⟨rfl, rfl⟩ ⟨Nat.le_of_ble_eq_true rfl, Nat.le_of_ble_eq_true rfl⟩ rfl hk1 rfl rfl (Nat.le_of_ble_eq_true rfl) dX12_loads_2 ⟨Nat.le_of_ble_eq_true rfl, Nat.le_of_ble_eq_true rfl⟩) hS (fun r3 S2 H locs hw hW hS => ?_)
  refine lv_if_eq (tgt := 11) C.1 C.2.1 dX12_loads_5 (by decide) (fun hc4 => ?_) (fun hc4 => ?_)
  · have hw := hw.1 hc4
    refine m_aldN C dX12_loads_11 rfl h0 ?_
    refine lv_iload_n C.1 C.2.1 dX12_loads_12 rfl h1 ?_
    obtain ⟨hk5, hw⟩ := hw
    refine m_rL (m_runV (As := [.int a1]) (rest := []) C hW hS hL (c_X12_sumOf hw) v_X12_187 ⟨rfl, rfl⟩ ⟨Nat.le_of_ble_eq_true rfl, Nat.le_of_ble_eq_true rfl⟩ rfl hk5 rfl rfl (Nat.le_of_ble_eq_true rfl) dX12_loads_13 ⟨Nat.le_of_ble_eq_true rfl, Nat.le_of_ble_eq_true rfl⟩) hS (fun r7 S6 H locs hw hW hS => ?_)
    refine m_lstN C hL dX12_loads_16 rfl (by decide) (fun ls hL hn9 hk9 => ?_)
    have h0 := hk9 0 _ h0 (by decide) (by decide) (Or.inl (by decide))
    have h1 := hk9 1 _ h1 (by decide) (by decide) (Or.inr (rfl))
    have h2 := hn9
    refine lv_lload_n C.1 C.2.1 dX12_loads_17 rfl h2 ?_
    refine lv_lconst (v := 0) C.1 C.2.1 dX12_loads_18 (by decide) ?_
    refine W.lcmp C.1 C.2.1 dX12_loads_19 ?_
    refine lv_if_ne (tgt := 26) C.1 C.2.1 dX12_loads_20 (by decide) (fun hc8 => ?_) (fun hc8 => ?_)
    · have hw := hw.2 (fun z => hc8 ((q_ne _ _).mpr z))
      refine m_aldN C dX12_loads_26 rfl h0 ?_
      obtain ⟨hk9, hw⟩ := hw
      refine m_getR C hW rfl hk9 f_X12_48 rfl dX12_loads_27 ?_
      refine lv_iload_n C.1 C.2.1 dX12_loads_30 rfl h1 ?_
      obtain ⟨b10, ho10, hw⟩ := hw
      obtain ⟨hk11, hw⟩ := hw
      obtain ⟨hi12, hw⟩ := hw
      refine m_iald C hW ho10 hk11 hi12 dX12_loads_31 ?_
      refine lv_if_lt (tgt := 50) C.1 C.2.1 dX12_loads_32 (by decide) (fun hc13 => ?_) (fun hc13 => ?_)
      · have hw := hw.1 hc13
        refine lv_bipush (v := 12) C.1 C.2.1 dX12_loads_50 (by decide) ?_
        exact m_iret C hW hS hw dX12_loads_52
      · have hw := hw.2 hc13
        refine m_aldN C dX12_loads_35 rfl h0 ?_
        refine m_getR C hW rfl hk9 f_X12_48 rfl dX12_loads_36 ?_
        refine lv_iload_n C.1 C.2.1 dX12_loads_39 rfl h1 ?_
        obtain ⟨hi14, hw⟩ := hw
        refine m_iald C hW ho10 hk11 hi14 dX12_loads_40 ?_
        refine m_aldN C dX12_loads_41 rfl h0 ?_
        refine m_getR C hW rfl hk9 f_X12_54 rfl dX12_loads_42 ?_
        refine lv_iload_n C.1 C.2.1 dX12_loads_45 rfl h1 ?_
        obtain ⟨b15, ho15, hw⟩ := hw
        obtain ⟨hk16, hw⟩ := hw
        obtain ⟨hi17, hw⟩ := hw
        refine m_iald C hW ho15 hk16 hi17 dX12_loads_46 ?_
        refine lv_icmp_lt (tgt := 53) C.1 C.2.1 dX12_loads_47 (by decide) (fun hc18 => ?_) (fun hc18 => ?_)
        · have hw := hw.1 hc18
          refine m_aldN C dX12_loads_53 rfl h0 ?_
          refine lv_iload_n C.1 C.2.1 dX12_loads_54 rfl h1 ?_
          refine lv_lload_n C.1 C.2.1 dX12_loads_55 rfl h2 ?_
          refine m_rL (m_runV (As := [.int a1, .long r7]) (rest := []) C hW hS hL (c_X12_shares hw) v_X12_191 ⟨rfl, rfl⟩ ⟨Nat.le_of_ble_eq_true rfl, Nat.le_of_ble_eq_true rfl⟩ rfl hk9 rfl rfl (Nat.le_of_ble_eq_true rfl) dX12_loads_56 ⟨Nat.le_of_ble_eq_true rfl, Nat.le_of_ble_eq_true rfl⟩) hS (fun r20 S19 H locs hw hW hS => ?_)
          refine m_lst C hL dX12_loads_59 (by decide) (fun ls hL hn9 hk9 => ?_)
          have h0 := hk9 0 _ h0 (by decide) (by decide) (Or.inl (by decide))
          have h1 := hk9 1 _ h1 (by decide) (by decide) (Or.inl (by decide))
          have h4 := hn9
          refine lv_iconst (v := 0) C.1 C.2.1 dX12_loads_61 (by decide) ?_
          refine m_ist C hL dX12_loads_62 (by decide) (fun ls hL hn9 hk9 => ?_)
          have h0 := hk9 0 _ h0 (by decide) (Or.inl (by decide))
          have h1 := hk9 1 _ h1 (by decide) (Or.inl (by decide))
          have h4 := hk9 4 _ h4 (by decide) (Or.inl (by decide))
          have h6 := hn9
          refine w_X12_loads_L64 C ?_ FU S19 r20 0 H locs ls hW hS hL h0 h1 h4 h6 hw
          · intro S33 H locs ls hW hS hL h0 h1 hw
            refine m_aldN C dX12_loads_104 rfl h0 ?_
            refine m_aldN C dX12_loads_105 rfl h0 ?_
            obtain ⟨hk34, hw⟩ := hw
            refine m_getR C hW rfl hk34 f_X12_103 rfl dX12_loads_106 ?_
            refine m_aldN C dX12_loads_109 rfl h0 ?_
            refine m_getR C hW rfl hk34 f_X12_48 rfl dX12_loads_110 ?_
            refine lv_iload_n C.1 C.2.1 dX12_loads_113 rfl h1 ?_
            obtain ⟨b35, ho35, hw⟩ := hw
            obtain ⟨hk36, hw⟩ := hw
            obtain ⟨hi37, hw⟩ := hw
            refine m_iald C hW ho35 hk36 hi37 dX12_loads_114 ?_
            obtain ⟨b38, ho38, hw⟩ := hw
            obtain ⟨hk39, hw⟩ := hw
            obtain ⟨hi40, hw⟩ := hw
            refine m_lald C hW ho38 hk39 hi40 dX12_loads_115 ?_
            refine lv_l2i (v := (((hJ S33 b38 ((hI S33 b35 (a1 : Int32).toNatClampNeg) : Int32).toNatClampNeg) : Int64).toInt32)) C.1 C.2.1 dX12_loads_116 rfl ?_
            refine m_putI C hW hS rfl hk34 p_X12_163 (fun z => by cases z) rfl dX12_loads_117 (fun H locs hW hS => ?_)
            refine lv_iconst (v := 0) C.1 C.2.1 dX12_loads_120 (by decide) ?_
            exact m_iret C hW hS hw dX12_loads_121
        · have hw := hw.2 hc18
          refine lv_bipush (v := 12) C.1 C.2.1 dX12_loads_50 (by decide) ?_
          exact m_iret C hW hS hw dX12_loads_52
    · have hw := hw.1 ((q_ne _ _).mp hc8)
      refine lv_bipush (v := 11) C.1 C.2.1 dX12_loads_23 (by decide) ?_
      exact m_iret C hW hS hw dX12_loads_25
  · have hw := hw.2 hc4
    refine lv_bipush (v := 21) C.1 C.2.1 dX12_loads_8 (by decide) ?_
    exact m_iret C hW hS hw dX12_loads_10
def wp_X12_checks_L9 (l0 : Nat) (l1 : Int32) (l2 : Int32) (Q : Int32 → Hp → Prop) : Nat → Hp → Int32 → Prop
  | 0, _, _ => False
  | n + 1, S, l3 => (l2 ≤ l3 → hK S l0 = 14 ∧ Q 0 (sI S l0 41 ((l2 + 1) / 2))) ∧ (¬ (l2 ≤ l3) → ∃ J9 : Hp → Int64 → Prop, J9 = (fun (S16 : Hp) (z17 : Int64) => (z17 < 0 → Q 22 S16) ∧ (¬ (z17 < 0) → hK S16 l0 = 14 ∧ ∃ b20 : Nat, (hR S16 l0 16) = some b20 ∧ hK S16 b20 = 15 ∧ vp_in l1 (hN S16 b20) ∧ (z17 ≤ (((hI S16 b20 (l1 : Int32).toNatClampNeg) : Int32).toInt64) → wp_X12_checks_L9 l0 l1 l2 Q n S16 (l3 + 2)) ∧ (¬ (z17 ≤ (((hI S16 b20 (l1 : Int32).toNatClampNeg) : Int32).toInt64)) → Q 22 S16))) ∧ (l2 ≤ (l3 + 1) → J9 S 0) ∧ (¬ (l2 ≤ (l3 + 1)) → hK S l0 = 14 ∧ wp_X12_number S l0 l1 (l3 + 1) (fun r12 S11 => hK S11 l0 = 14 ∧ wp_X12_number S11 l0 l1 l3 (fun r15 S14 => J9 S14 (((r12 : Int32).toInt64) - ((r15 : Int32).toInt64))))))
def wp_X12_checks (S : Hp) (a0 : Nat) (a1 : Int32) (Q : Int32 → Hp → Prop) : Prop := hK S a0 = 14 ∧ ∃ b2 : Nat, (hR S a0 19) = some b2 ∧ hK S b2 = 15 ∧ vp_in a1 (hN S b2) ∧ ∀ x5 : Int32, x5 = (hI S b2 (a1 : Int32).toNatClampNeg) → wp_X12_checks_L9 a0 a1 x5 Q FU S 0
set_option maxRecDepth 100000 in
set_option maxHeartbeats 4000000 in
theorem w_X12_checks_L9 {p : Program} {l : Launch} {e : Env} {s : State} {m : MethodId} {args : Array Value} {below : List Frame} {meth : Method} {c : Code} {G : GX} {Q : Int32 → Hp → Prop} {l0 : Nat} {l1 : Int32} {l2 : Int32} (C : Cx p s m args meth c cX12_checks 6 RX12 (some .int) "checks" G) :
    ∀ (n : Nat) (S : Hp) (l3 : Int32) (H : Heap) (locs : List Loc) (ls : Array Slot), wd G S H → va_S G.2.2.1 s.heap H locs → LV ls 6 → ls[0]? = some (.val (va_rf (some l0))) → ls[1]? = some (.val (.int l1)) → ls[2]? = some (.val (.int l2)) → ls[3]? = some (.val (.int l3)) → wp_X12_checks_L9 l0 l1 l2 Q n S l3 → W p l e ({ frames := 1, cells := 0, slots := 0, locals := 22 } : Room) s m args below meth c H locs 0 0 (MQ below (QI G Q) args s 0 0 G.2.2.1) (F0 m 9 ls []) := by
  intro n
  induction n with
  | zero =>
    intro S l3 H locs ls hW hS hL h0 h1 h2 h3 hw
    exact False.elim hw
  | succ n ih =>
    intro S l3 H locs ls hW hS hL h0 h1 h2 h3 hw
    unfold wp_X12_checks_L9 at hw
    refine lv_iload_n C.1 C.2.1 dX12_checks_9 rfl h3 ?_
    refine lv_iload_n C.1 C.2.1 dX12_checks_10 rfl h2 ?_
    refine lv_icmp_ge (tgt := 73) C.1 C.2.1 dX12_checks_11 (by decide) (fun hc6 => ?_) (fun hc6 => ?_)
    · have hw := hw.1 hc6
      refine m_aldN C dX12_checks_73 rfl h0 ?_
      refine lv_iload_n C.1 C.2.1 dX12_checks_74 rfl h2 ?_
      refine lv_iconst (v := 1) C.1 C.2.1 dX12_checks_75 (by decide) ?_
      refine lv_iadd C.1 C.2.1 dX12_checks_76 ?_
      refine lv_iconst (v := 2) C.1 C.2.1 dX12_checks_77 (by decide) ?_
      refine lv_idiv C.1 C.2.1 dX12_checks_78 (by decide) ?_
      obtain ⟨hk7, hw⟩ := hw
      refine m_putI C hW hS rfl hk7 p_X12_163 (fun z => by cases z) rfl dX12_checks_79 (fun H locs hW hS => ?_)
      refine lv_iconst (v := 0) C.1 C.2.1 dX12_checks_82 (by decide) ?_
      exact m_iret C hW hS hw dX12_checks_83
    · have hw := hw.2 hc6
      refine lv_iload_n C.1 C.2.1 dX12_checks_14 rfl h3 ?_
      refine lv_iconst (v := 1) C.1 C.2.1 dX12_checks_15 (by decide) ?_
      refine lv_iadd C.1 C.2.1 dX12_checks_16 ?_
      refine lv_iload_n C.1 C.2.1 dX12_checks_17 rfl h2 ?_
      obtain ⟨J9, eJ9, hw⟩ := hw
      have wJ9 : ∀ (S16 : Hp) (z17 : Int64) (H : Heap) (locs : List Loc) (ls : Array Slot), wd G S16 H → va_S G.2.2.1 s.heap H locs → LV ls 6 → ls[0]? = some (.val (va_rf (some l0))) → ls[1]? = some (.val (.int l1)) → ls[2]? = some (.val (.int l2)) → ls[3]? = some (.val (.int l3)) → J9 S16 z17 → W p l e ({ frames := 1, cells := 0, slots := 0, locals := 22 } : Room) s m args below meth c H locs 0 0 (MQ below (QI G Q) args s 0 0 G.2.2.1) (F0 m 42 ls [.long z17]) := by
        intro S16 z17 H locs ls hW hS hL h0 h1 h2 h3 hw
        rw [eJ9] at hw
        refine m_lst C hL dX12_checks_42 (by decide) (fun ls hL hn9 hk9 => ?_)
        have h0 := hk9 0 _ h0 (by decide) (by decide) (Or.inl (by decide))
        have h1 := hk9 1 _ h1 (by decide) (by decide) (Or.inl (by decide))
        have h2 := hk9 2 _ h2 (by decide) (by decide) (Or.inl (by decide))
        have h3 := hk9 3 _ h3 (by decide) (by decide) (Or.inr (rfl))
        have h4 := hn9
        refine lv_lload C.1 C.2.1 dX12_checks_44 h4 ?_
        refine lv_lconst (v := 0) C.1 C.2.1 dX12_checks_46 (by decide) ?_
        refine W.lcmp C.1 C.2.1 dX12_checks_47 ?_
        refine lv_if_lt (tgt := 64) C.1 C.2.1 dX12_checks_48 (by decide) (fun hc18 => ?_) (fun hc18 => ?_)
        · have hw := hw.1 ((q_lt _ _).mp hc18)
          refine lv_bipush (v := 22) C.1 C.2.1 dX12_checks_64 (by decide) ?_
          exact m_iret C hW hS hw dX12_checks_66
        · have hw := hw.2 (fun z => hc18 ((q_lt _ _).mpr z))
          refine lv_lload C.1 C.2.1 dX12_checks_51 h4 ?_
          refine m_aldN C dX12_checks_53 rfl h0 ?_
          obtain ⟨hk19, hw⟩ := hw
          refine m_getR C hW rfl hk19 f_X12_45 rfl dX12_checks_54 ?_
          refine lv_iload_n C.1 C.2.1 dX12_checks_57 rfl h1 ?_
          obtain ⟨b20, ho20, hw⟩ := hw
          obtain ⟨hk21, hw⟩ := hw
          obtain ⟨hi22, hw⟩ := hw
          refine m_iald C hW ho20 hk21 hi22 dX12_checks_58 ?_
          refine lv_i2l (v := (((hI S16 b20 (l1 : Int32).toNatClampNeg) : Int32).toInt64)) C.1 C.2.1 dX12_checks_59 rfl ?_
          refine W.lcmp C.1 C.2.1 dX12_checks_60 ?_
          refine lv_if_le (tgt := 67) C.1 C.2.1 dX12_checks_61 (by decide) (fun hc23 => ?_) (fun hc23 => ?_)
          · have hw := hw.1 ((q_le _ _).mp hc23)
            refine m_iinc (v := (l3 + 2)) C hL dX12_checks_67 h3 rfl (by decide) (fun ls hL hn9 hk9 => ?_)
            have h0 := hk9 0 _ h0 (by decide) (Or.inl (by decide))
            have h1 := hk9 1 _ h1 (by decide) (Or.inl (by decide))
            have h2 := hk9 2 _ h2 (by decide) (Or.inr (rfl))
            have h3 := hn9
            refine lv_goto (tgt := 9) C.1 C.2.1 dX12_checks_70 (by decide) ?_
            exact ih S16 (l3 + 2) H locs ls hW hS hL h0 h1 h2 h3 hw
          · have hw := hw.2 (fun z => hc23 ((q_le _ _).mpr z))
            refine lv_bipush (v := 22) C.1 C.2.1 dX12_checks_64 (by decide) ?_
            exact m_iret C hW hS hw dX12_checks_66
      refine lv_icmp_ge (tgt := 41) C.1 C.2.1 dX12_checks_18 (by decide) (fun hc8 => ?_) (fun hc8 => ?_)
      · have hw := hw.1 hc8
        refine lv_lconst (v := 0) C.1 C.2.1 dX12_checks_41 (by decide) ?_
        exact wJ9 S 0 H locs ls hW hS hL h0 h1 h2 h3 hw
      · have hw := hw.2 hc8
        refine m_aldN C dX12_checks_21 rfl h0 ?_
        refine lv_iload_n C.1 C.2.1 dX12_checks_22 rfl h1 ?_
        refine lv_iload_n C.1 C.2.1 dX12_checks_23 rfl h3 ?_
        refine lv_iconst (v := 1) C.1 C.2.1 dX12_checks_24 (by decide) ?_
        refine lv_iadd C.1 C.2.1 dX12_checks_25 ?_
        obtain ⟨hk10, hw⟩ := hw
        refine m_rI (m_runV (As := [.int l1, .int (l3 + 1)]) (rest := []) C hW hS hL (c_X12_number hw) v_X12_181 ⟨rfl, rfl⟩ ⟨Nat.le_of_ble_eq_true rfl, Nat.le_of_ble_eq_true rfl⟩ rfl hk10 rfl rfl (Nat.le_of_ble_eq_true rfl) dX12_checks_26 ⟨Nat.le_of_ble_eq_true rfl, Nat.le_of_ble_eq_true rfl⟩) hS (fun r12 S11 H locs hw hW hS => ?_)
        refine lv_i2l (v := ((r12 : Int32).toInt64)) C.1 C.2.1 dX12_checks_29 rfl ?_
        refine m_aldN C dX12_checks_30 rfl h0 ?_
        refine lv_iload_n C.1 C.2.1 dX12_checks_31 rfl h1 ?_
        refine lv_iload_n C.1 C.2.1 dX12_checks_32 rfl h3 ?_
        obtain ⟨hk13, hw⟩ := hw
        refine m_rI (m_runV (As := [.int l1, .int l3]) (rest := [.long ((r12 : Int32).toInt64)]) C hW hS hL (c_X12_number hw) v_X12_181 ⟨rfl, rfl⟩ ⟨Nat.le_of_ble_eq_true rfl, Nat.le_of_ble_eq_true rfl⟩ rfl hk13 rfl rfl (Nat.le_of_ble_eq_true rfl) dX12_checks_33 ⟨Nat.le_of_ble_eq_true rfl, Nat.le_of_ble_eq_true rfl⟩) hS (fun r15 S14 H locs hw hW hS => ?_)
        refine lv_i2l (v := ((r15 : Int32).toInt64)) C.1 C.2.1 dX12_checks_36 rfl ?_
        refine lv_lsub C.1 C.2.1 dX12_checks_37 ?_
        refine lv_goto (tgt := 42) C.1 C.2.1 dX12_checks_38 (by decide) ?_
        exact wJ9 S14 (((r12 : Int32).toInt64) - ((r15 : Int32).toInt64)) H locs ls hW hS hL h0 h1 h2 h3 hw
set_option maxRecDepth 100000 in
set_option maxHeartbeats 4000000 in
theorem c_X12_checks {l : Launch} {G : GX} {S : Hp} {a0 : Nat} {a1 : Int32} {Q : Int32 → Hp → Prop} (hw : wp_X12_checks S a0 a1 Q) : Met l yX12_checks (Cond.code yX12_checks cX12_checks 6 (some .int) :: TS) { frames := 1, cells := 0, slots := 0, locals := 22 } (Pk G S [va_rf (some a0), .int a1]) (QI G Q) 0 0 G.2.2.1 := by
  refine m_met (by decide) ?_
  intro p e s m below meth c H locs C hW hS
  have C : Cx p s m ([va_rf (some a0), .int a1] : List Value).toArray meth c cX12_checks 6 RX12 (some .int) "checks" G := C
  obtain ⟨ls, hent, hL, hla⟩ := m_entry m (vs := [va_rf (some a0), .int a1]) (nn := 6) [1, 1] rfl (by decide)
  rw [hent]
  have h0 : ls[0]? = some (.val (va_rf (some a0))) := hla (0, va_rf (some a0)) (List.mem_of_getElem? (i := 0) rfl)
  have h1 : ls[1]? = some (.val (.int a1)) := hla (1, .int a1) (List.mem_of_getElem? (i := 1) rfl)
  clear hla
  generalize ([va_rf (some a0), .int a1] : List Value).toArray = args at C ⊢
  unfold wp_X12_checks at hw
  refine m_aldN C dX12_checks_0 rfl h0 ?_
  obtain ⟨hk1, hw⟩ := hw
  refine m_getR C hW rfl hk1 f_X12_54 rfl dX12_checks_1 ?_
  refine lv_iload_n C.1 C.2.1 dX12_checks_4 rfl h1 ?_
  obtain ⟨b2, ho2, hw⟩ := hw
  obtain ⟨hk3, hw⟩ := hw
  obtain ⟨hi4, hw⟩ := hw
  refine m_iald C hW ho2 hk3 hi4 dX12_checks_5 ?_
  refine lv_topi (fun x5 ex5 => ?_)
  have hw := hw x5 ex5
  refine m_istN C hL dX12_checks_6 rfl (by decide) (fun ls hL hn9 hk9 => ?_)
  have h0 := hk9 0 _ h0 (by decide) (Or.inl (by decide))
  have h1 := hk9 1 _ h1 (by decide) (Or.inr (rfl))
  have h2 := hn9
  refine lv_iconst (v := 0) C.1 C.2.1 dX12_checks_7 (by decide) ?_
  refine m_istN C hL dX12_checks_8 rfl (by decide) (fun ls hL hn9 hk9 => ?_)
  have h0 := hk9 0 _ h0 (by decide) (Or.inl (by decide))
  have h1 := hk9 1 _ h1 (by decide) (Or.inl (by decide))
  have h2 := hk9 2 _ h2 (by decide) (Or.inr (rfl))
  have h3 := hn9
  exact w_X12_checks_L9 C  FU S 0 H locs ls hW hS hL h0 h1 h2 h3 hw
def wp_X12_counts_L16 (l0 : Nat) (l1 : Int32) (Q : Int32 → Hp → Prop) : Nat → Hp → Int64 → Int32 → Prop
  | 0, _, _, _ => False
  | n + 1, S, l2, l4 => hK S l0 = 14 ∧ ∃ b6 : Nat, (hR S l0 19) = some b6 ∧ hK S b6 = 15 ∧ vp_in l1 (hN S b6) ∧ ((hI S b6 (l1 : Int32).toNatClampNeg) ≤ l4 → Q 0 (sI S l0 41 ((l2 : Int64).toInt32))) ∧ (¬ ((hI S b6 (l1 : Int32).toNatClampNeg) ≤ l4) → wp_X12_number S l0 l1 l4 (fun r11 S10 => hK S10 l0 = 14 ∧ ∃ b13 : Nat, (hR S10 l0 16) = some b13 ∧ hK S10 b13 = 15 ∧ vp_in l1 (hN S10 b13) ∧ ∃ b16 : Nat, (hR S l0 40) = some b16 ∧ hK S10 b16 = 16 ∧ vp_in l4 (hN S10 b16) ∧ ∃ b19 : Nat, (hR (sJ S10 b16 (l4 : Int32).toNatClampNeg (((((r11 : Int32).toInt64) * (100 + (((hI S10 b13 (l1 : Int32).toNatClampNeg) : Int32).toInt64))) + 99) / 100)) l0 40) = some b19 ∧ hK (sJ S10 b16 (l4 : Int32).toNatClampNeg (((((r11 : Int32).toInt64) * (100 + (((hI S10 b13 (l1 : Int32).toNatClampNeg) : Int32).toInt64))) + 99) / 100)) b19 = 16 ∧ vp_in l4 (hN (sJ S10 b16 (l4 : Int32).toNatClampNeg (((((r11 : Int32).toInt64) * (100 + (((hI S10 b13 (l1 : Int32).toNatClampNeg) : Int32).toInt64))) + 99) / 100)) b19) ∧ ∀ z22 : Int64, z22 = (l2 + (hJ (sJ S10 b16 (l4 : Int32).toNatClampNeg (((((r11 : Int32).toInt64) * (100 + (((hI S10 b13 (l1 : Int32).toNatClampNeg) : Int32).toInt64))) + 99) / 100)) b19 (l4 : Int32).toNatClampNeg)) → wp_X12_counts_L16 l0 l1 Q n (sJ S10 b16 (l4 : Int32).toNatClampNeg (((((r11 : Int32).toInt64) * (100 + (((hI S10 b13 (l1 : Int32).toNatClampNeg) : Int32).toInt64))) + 99) / 100)) z22 (l4 + 1)))
def wp_X12_counts (S : Hp) (a0 : Nat) (a1 : Int32) (Q : Int32 → Hp → Prop) : Prop := hK S a0 = 14 ∧ wp_X12_isBelow S a0 a1 (fun r3 S2 => (r3 = 0 → wp_X12_counts_L16 a0 a1 Q FU S2 0 0) ∧ (¬ (r3 = 0) → Q 21 S2))
set_option maxRecDepth 100000 in
set_option maxHeartbeats 4000000 in
theorem w_X12_counts_L16 {p : Program} {l : Launch} {e : Env} {s : State} {m : MethodId} {args : Array Value} {below : List Frame} {meth : Method} {c : Code} {G : GX} {Q : Int32 → Hp → Prop} {l0 : Nat} {l1 : Int32} (C : Cx p s m args meth c cX12_counts 5 RX12 (some .int) "counts" G) :
    ∀ (n : Nat) (S : Hp) (l2 : Int64) (l4 : Int32) (H : Heap) (locs : List Loc) (ls : Array Slot), wd G S H → va_S G.2.2.1 s.heap H locs → LV ls 5 → ls[0]? = some (.val (va_rf (some l0))) → ls[1]? = some (.val (.int l1)) → ls[2]? = some (.val (.long l2)) → ls[4]? = some (.val (.int l4)) → wp_X12_counts_L16 l0 l1 Q n S l2 l4 → W p l e ({ frames := 2, cells := 0, slots := 0, locals := 44 } : Room) s m args below meth c H locs 0 0 (MQ below (QI G Q) args s 0 0 G.2.2.1) (F0 m 16 ls []) := by
  intro n
  induction n with
  | zero =>
    intro S l2 l4 H locs ls hW hS hL h0 h1 h2 h4 hw
    exact False.elim hw
  | succ n ih =>
    intro S l2 l4 H locs ls hW hS hL h0 h1 h2 h4 hw
    unfold wp_X12_counts_L16 at hw
    refine lv_iload C.1 C.2.1 dX12_counts_16 h4 ?_
    refine m_aldN C dX12_counts_18 rfl h0 ?_
    obtain ⟨hk5, hw⟩ := hw
    refine m_getR C hW rfl hk5 f_X12_54 rfl dX12_counts_19 ?_
    refine lv_iload_n C.1 C.2.1 dX12_counts_22 rfl h1 ?_
    obtain ⟨b6, ho6, hw⟩ := hw
    obtain ⟨hk7, hw⟩ := hw
    obtain ⟨hi8, hw⟩ := hw
    refine m_iald C hW ho6 hk7 hi8 dX12_counts_23 ?_
    refine lv_icmp_ge (tgt := 78) C.1 C.2.1 dX12_counts_24 (by decide) (fun hc9 => ?_) (fun hc9 => ?_)
    · have hw := hw.1 hc9
      refine m_aldN C dX12_counts_78 rfl h0 ?_
      refine lv_lload_n C.1 C.2.1 dX12_counts_79 rfl h2 ?_
      refine lv_l2i (v := ((l2 : Int64).toInt32)) C.1 C.2.1 dX12_counts_80 rfl ?_
      refine m_putI C hW hS rfl hk5 p_X12_163 (fun z => by cases z) rfl dX12_counts_81 (fun H locs hW hS => ?_)
      refine lv_iconst (v := 0) C.1 C.2.1 dX12_counts_84 (by decide) ?_
      exact m_iret C hW hS hw dX12_counts_85
    · have hw := hw.2 hc9
      refine m_aldN C dX12_counts_27 rfl h0 ?_
      refine m_getR C hW rfl hk5 f_X12_103 rfl dX12_counts_28 ?_
      refine lv_iload C.1 C.2.1 dX12_counts_31 h4 ?_
      refine m_aldN C dX12_counts_33 rfl h0 ?_
      refine lv_iload_n C.1 C.2.1 dX12_counts_34 rfl h1 ?_
      refine lv_iload C.1 C.2.1 dX12_counts_35 h4 ?_
      refine m_rI (m_runV (As := [.int l1, .int l4]) (rest := [.int l4, va_rf (hR S l0 40)]) C hW hS hL (c_X12_number hw) v_X12_181 ⟨rfl, rfl⟩ ⟨Nat.le_of_ble_eq_true rfl, Nat.le_of_ble_eq_true rfl⟩ rfl hk5 rfl rfl (by simp only [List.map_cons, List.map_nil, va_rf_cat, List.sum_cons, List.sum_nil] <;> exact Nat.le_of_ble_eq_true rfl) dX12_counts_37 ⟨Nat.le_of_ble_eq_true rfl, Nat.le_of_ble_eq_true rfl⟩) hS (fun r11 S10 H locs hw hW hS => ?_)
      refine lv_i2l (v := ((r11 : Int32).toInt64)) C.1 C.2.1 dX12_counts_40 rfl ?_
      refine lv_ldc2 (v := 100) C.1 C.2.1 C.2.2.2.1 (C.2.2.2.2.1 _ tw_1421) dX12_counts_41 ?_
      refine m_aldN C dX12_counts_44 rfl h0 ?_
      obtain ⟨hk12, hw⟩ := hw
      refine m_getR C hW rfl hk12 f_X12_45 rfl dX12_counts_45 ?_
      refine lv_iload_n C.1 C.2.1 dX12_counts_48 rfl h1 ?_
      obtain ⟨b13, ho13, hw⟩ := hw
      obtain ⟨hk14, hw⟩ := hw
      obtain ⟨hi15, hw⟩ := hw
      refine m_iald C hW ho13 hk14 hi15 dX12_counts_49 ?_
      refine lv_i2l (v := (((hI S10 b13 (l1 : Int32).toNatClampNeg) : Int32).toInt64)) C.1 C.2.1 dX12_counts_50 rfl ?_
      refine lv_ladd C.1 C.2.1 dX12_counts_51 ?_
      refine lv_lmul C.1 C.2.1 dX12_counts_52 ?_
      refine lv_ldc2 (v := 99) C.1 C.2.1 C.2.2.2.1 (C.2.2.2.2.1 _ tw_1422) dX12_counts_53 ?_
      refine lv_ladd C.1 C.2.1 dX12_counts_56 ?_
      refine lv_ldc2 (v := 100) C.1 C.2.1 C.2.2.2.1 (C.2.2.2.2.1 _ tw_1421) dX12_counts_57 ?_
      refine lv_ldiv C.1 C.2.1 dX12_counts_60 (by decide) ?_
      obtain ⟨b16, ho16, hw⟩ := hw
      obtain ⟨hk17, hw⟩ := hw
      obtain ⟨hi18, hw⟩ := hw
      refine m_last C hW hS ho16 hk17 hi18 dX12_counts_61 (fun H locs hW hS => ?_)
      refine lv_lload_n C.1 C.2.1 dX12_counts_62 rfl h2 ?_
      refine m_aldN C dX12_counts_63 rfl h0 ?_
      refine m_getR C hW rfl hk12 f_X12_103 rfl dX12_counts_64 ?_
      refine lv_iload C.1 C.2.1 dX12_counts_67 h4 ?_
      obtain ⟨b19, ho19, hw⟩ := hw
      obtain ⟨hk20, hw⟩ := hw
      obtain ⟨hi21, hw⟩ := hw
      refine m_lald C hW ho19 hk20 hi21 dX12_counts_69 ?_
      refine lv_ladd C.1 C.2.1 dX12_counts_70 ?_
      refine lv_topl (fun z22 ez22 => ?_)
      have hw := hw z22 ez22
      refine m_lstN C hL dX12_counts_71 rfl (by decide) (fun ls hL hn9 hk9 => ?_)
      have h0 := hk9 0 _ h0 (by decide) (by decide) (Or.inl (by decide))
      have h1 := hk9 1 _ h1 (by decide) (by decide) (Or.inr (rfl))
      have h4 := hk9 4 _ h4 (by decide) (by decide) (Or.inl (by decide))
      have h2 := hn9
      refine m_iinc (v := (l4 + 1)) C hL dX12_counts_72 h4 rfl (by decide) (fun ls hL hn9 hk9 => ?_)
      have h0 := hk9 0 _ h0 (by decide) (Or.inl (by decide))
      have h1 := hk9 1 _ h1 (by decide) (Or.inl (by decide))
      have h2 := hk9 2 _ h2 (by decide) (Or.inl (by decide))
      have h4 := hn9
      refine lv_goto (tgt := 16) C.1 C.2.1 dX12_counts_75 (by decide) ?_
      exact ih (sJ S10 b16 (l4 : Int32).toNatClampNeg (((((r11 : Int32).toInt64) * (100 + (((hI S10 b13 (l1 : Int32).toNatClampNeg) : Int32).toInt64))) + 99) / 100)) z22 (l4 + 1) H locs ls hW hS hL h0 h1 h2 h4 hw
set_option maxRecDepth 100000 in
set_option maxHeartbeats 4000000 in
theorem c_X12_counts {l : Launch} {G : GX} {S : Hp} {a0 : Nat} {a1 : Int32} {Q : Int32 → Hp → Prop} (hw : wp_X12_counts S a0 a1 Q) : Met l yX12_counts (Cond.code yX12_counts cX12_counts 5 (some .int) :: TS) { frames := 2, cells := 0, slots := 0, locals := 44 } (Pk G S [va_rf (some a0), .int a1]) (QI G Q) 0 0 G.2.2.1 := by
  refine m_met (by decide) ?_
  intro p e s m below meth c H locs C hW hS
  have C : Cx p s m ([va_rf (some a0), .int a1] : List Value).toArray meth c cX12_counts 5 RX12 (some .int) "counts" G := C
  obtain ⟨ls, hent, hL, hla⟩ := m_entry m (vs := [va_rf (some a0), .int a1]) (nn := 5) [1, 1] rfl (by decide)
  rw [hent]
  have h0 : ls[0]? = some (.val (va_rf (some a0))) := hla (0, va_rf (some a0)) (List.mem_of_getElem? (i := 0) rfl)
  have h1 : ls[1]? = some (.val (.int a1)) := hla (1, .int a1) (List.mem_of_getElem? (i := 1) rfl)
  clear hla
  generalize ([va_rf (some a0), .int a1] : List Value).toArray = args at C ⊢
  unfold wp_X12_counts at hw
  refine m_aldN C dX12_counts_0 rfl h0 ?_
  refine lv_iload_n C.1 C.2.1 dX12_counts_1 rfl h1 ?_
  obtain ⟨hk1, hw⟩ := hw
  refine m_rI (m_runV (As := [.int a1]) (rest := []) C hW hS hL (c_X12_isBelow hw) v_X12_184 ⟨rfl, rfl⟩ ⟨Nat.le_of_ble_eq_true rfl, Nat.le_of_ble_eq_true rfl⟩ rfl hk1 rfl rfl (Nat.le_of_ble_eq_true rfl) dX12_counts_2 ⟨Nat.le_of_ble_eq_true rfl, Nat.le_of_ble_eq_true rfl⟩) hS (fun r3 S2 H locs hw hW hS => ?_)
  refine lv_if_eq (tgt := 11) C.1 C.2.1 dX12_counts_5 (by decide) (fun hc4 => ?_) (fun hc4 => ?_)
  · have hw := hw.1 hc4
    refine lv_lconst (v := 0) C.1 C.2.1 dX12_counts_11 (by decide) ?_
    refine m_lstN C hL dX12_counts_12 rfl (by decide) (fun ls hL hn9 hk9 => ?_)
    have h0 := hk9 0 _ h0 (by decide) (by decide) (Or.inl (by decide))
    have h1 := hk9 1 _ h1 (by decide) (by decide) (Or.inr (rfl))
    have h2 := hn9
    refine lv_iconst (v := 0) C.1 C.2.1 dX12_counts_13 (by decide) ?_
    refine m_ist C hL dX12_counts_14 (by decide) (fun ls hL hn9 hk9 => ?_)
    have h0 := hk9 0 _ h0 (by decide) (Or.inl (by decide))
    have h1 := hk9 1 _ h1 (by decide) (Or.inl (by decide))
    have h2 := hk9 2 _ h2 (by decide) (Or.inl (by decide))
    have h4 := hn9
    exact w_X12_counts_L16 C  FU S2 0 0 H locs ls hW hS hL h0 h1 h2 h4 hw
  · have hw := hw.2 hc4
    refine lv_bipush (v := 21) C.1 C.2.1 dX12_counts_8 (by decide) ?_
    exact m_iret C hW hS hw dX12_counts_10
def wp_X12_bodyOf_L7 (l0 : Nat) (l1 : Int32) (K26 : Hp → Prop) (Q : Int32 → Hp → Prop) : Nat → Hp → Int32 → Prop
  | 0, _, _ => False
  | n + 1, S, l2 => (30 ≤ l2 → K26 S) ∧ (¬ (30 ≤ l2) → hK S l0 = 14 ∧ ∃ b4 : Nat, (hR S l0 40) = some b4 ∧ hK S b4 = 16 ∧ vp_in l2 (hN S b4) ∧ wp_X12_bodyOf_L7 l0 l1 K26 Q n (sJ S b4 (l2 : Int32).toNatClampNeg 0) (l2 + 1))
def wp_X12_bodyOf (S : Hp) (a0 : Nat) (a1 : Int32) (Q : Int32 → Hp → Prop) : Prop := hK S a0 = 14 ∧ wp_X12_bodyOf_L7 a0 a1 (fun (S7 : Hp) => hK S7 a0 = 14 ∧ ∃ b9 : Nat, (hR S7 a0 15) = some b9 ∧ hK S7 b9 = 15 ∧ vp_in a1 (hN S7 b9) ∧ ((hI S7 b9 (a1 : Int32).toNatClampNeg) = 0 → Q 0 S7) ∧ (¬ ((hI S7 b9 (a1 : Int32).toNatClampNeg) = 0) → ∃ b13 : Nat, (hR S7 a0 19) = some b13 ∧ hK S7 b13 = 15 ∧ vp_in a1 (hN S7 b13) ∧ ((hI S7 b13 (a1 : Int32).toNatClampNeg) = (-1) → Q 13 S7) ∧ (¬ ((hI S7 b13 (a1 : Int32).toNatClampNeg) = (-1)) → vp_in a1 (hN S7 b9) ∧ ((hI S7 b9 (a1 : Int32).toNatClampNeg) = 1 → wp_X12_cuts S7 a0 a1 (fun r19 S18 => Q r19 S18)) ∧ (¬ ((hI S7 b9 (a1 : Int32).toNatClampNeg) = 1) → ((hI S7 b9 (a1 : Int32).toNatClampNeg) = 2 → wp_X12_mixes S7 a0 a1 (fun r22 S21 => Q r22 S21)) ∧ (¬ ((hI S7 b9 (a1 : Int32).toNatClampNeg) = 2) → ((hI S7 b9 (a1 : Int32).toNatClampNeg) = 3 → wp_X12_loads S7 a0 a1 (fun r25 S24 => Q r25 S24)) ∧ (¬ ((hI S7 b9 (a1 : Int32).toNatClampNeg) = 3) → ((hI S7 b9 (a1 : Int32).toNatClampNeg) = 4 → wp_X12_checks S7 a0 a1 (fun r28 S27 => Q r28 S27)) ∧ (¬ ((hI S7 b9 (a1 : Int32).toNatClampNeg) = 4) → wp_X12_counts S7 a0 a1 (fun r31 S30 => Q r31 S30)))))))) Q FU (sI S a0 41 0) 0
set_option maxRecDepth 100000 in
set_option maxHeartbeats 4000000 in
theorem w_X12_bodyOf_L7 {p : Program} {l : Launch} {e : Env} {s : State} {m : MethodId} {args : Array Value} {below : List Frame} {meth : Method} {c : Code} {G : GX} {Q : Int32 → Hp → Prop} {K26 : Hp → Prop} {l0 : Nat} {l1 : Int32} (C : Cx p s m args meth c cX12_bodyOf 3 RX12 (some .int) "bodyOf" G)
    (k26 : ∀ (S : Hp) (H : Heap) (locs : List Loc) (ls : Array Slot), wd G S H → va_S G.2.2.1 s.heap H locs → LV ls 3 → ls[0]? = some (.val (va_rf (some l0))) → ls[1]? = some (.val (.int l1)) → K26 S → W p l e ({ frames := 3, cells := 0, slots := 0, locals := 75 } : Room) s m args below meth c H locs 0 0 (MQ below (QI G Q) args s 0 0 G.2.2.1) (F0 m 26 ls [])) :
    ∀ (n : Nat) (S : Hp) (l2 : Int32) (H : Heap) (locs : List Loc) (ls : Array Slot), wd G S H → va_S G.2.2.1 s.heap H locs → LV ls 3 → ls[0]? = some (.val (va_rf (some l0))) → ls[1]? = some (.val (.int l1)) → ls[2]? = some (.val (.int l2)) → wp_X12_bodyOf_L7 l0 l1 K26 Q n S l2 → W p l e ({ frames := 3, cells := 0, slots := 0, locals := 75 } : Room) s m args below meth c H locs 0 0 (MQ below (QI G Q) args s 0 0 G.2.2.1) (F0 m 7 ls []) := by
  intro n
  induction n with
  | zero =>
    intro S l2 H locs ls hW hS hL h0 h1 h2 hw
    exact False.elim hw
  | succ n ih =>
    intro S l2 H locs ls hW hS hL h0 h1 h2 hw
    unfold wp_X12_bodyOf_L7 at hw
    refine lv_iload_n C.1 C.2.1 dX12_bodyOf_7 rfl h2 ?_
    refine lv_bipush (v := 30) C.1 C.2.1 dX12_bodyOf_8 (by decide) ?_
    refine lv_icmp_ge (tgt := 26) C.1 C.2.1 dX12_bodyOf_10 (by decide) (fun hc2 => ?_) (fun hc2 => ?_)
    · have hw := hw.1 hc2
      exact k26 S H locs ls hW hS hL h0 h1 hw
    · have hw := hw.2 hc2
      refine m_aldN C dX12_bodyOf_13 rfl h0 ?_
      obtain ⟨hk3, hw⟩ := hw
      refine m_getR C hW rfl hk3 f_X12_103 rfl dX12_bodyOf_14 ?_
      refine lv_iload_n C.1 C.2.1 dX12_bodyOf_17 rfl h2 ?_
      refine lv_lconst (v := 0) C.1 C.2.1 dX12_bodyOf_18 (by decide) ?_
      obtain ⟨b4, ho4, hw⟩ := hw
      obtain ⟨hk5, hw⟩ := hw
      obtain ⟨hi6, hw⟩ := hw
      refine m_last C hW hS ho4 hk5 hi6 dX12_bodyOf_19 (fun H locs hW hS => ?_)
      refine m_iinc (v := (l2 + 1)) C hL dX12_bodyOf_20 h2 rfl (by decide) (fun ls hL hn9 hk9 => ?_)
      have h0 := hk9 0 _ h0 (by decide) (Or.inl (by decide))
      have h1 := hk9 1 _ h1 (by decide) (Or.inr (rfl))
      have h2 := hn9
      refine lv_goto (tgt := 7) C.1 C.2.1 dX12_bodyOf_23 (by decide) ?_
      exact ih (sJ S b4 (l2 : Int32).toNatClampNeg 0) (l2 + 1) H locs ls hW hS hL h0 h1 h2 hw
set_option maxRecDepth 100000 in
set_option maxHeartbeats 4000000 in
theorem c_X12_bodyOf {l : Launch} {G : GX} {S : Hp} {a0 : Nat} {a1 : Int32} {Q : Int32 → Hp → Prop} (hw : wp_X12_bodyOf S a0 a1 Q) : Met l yX12_bodyOf (Cond.code yX12_bodyOf cX12_bodyOf 3 (some .int) :: TS) { frames := 3, cells := 0, slots := 0, locals := 75 } (Pk G S [va_rf (some a0), .int a1]) (QI G Q) 0 0 G.2.2.1 := by
  refine m_met (by decide) ?_
  intro p e s m below meth c H locs C hW hS
  have C : Cx p s m ([va_rf (some a0), .int a1] : List Value).toArray meth c cX12_bodyOf 3 RX12 (some .int) "bodyOf" G := C
  obtain ⟨ls, hent, hL, hla⟩ := m_entry m (vs := [va_rf (some a0), .int a1]) (nn := 3) [1, 1] rfl (by decide)
  rw [hent]
  have h0 : ls[0]? = some (.val (va_rf (some a0))) := hla (0, va_rf (some a0)) (List.mem_of_getElem? (i := 0) rfl)
  have h1 : ls[1]? = some (.val (.int a1)) := hla (1, .int a1) (List.mem_of_getElem? (i := 1) rfl)
  clear hla
  generalize ([va_rf (some a0), .int a1] : List Value).toArray = args at C ⊢
  unfold wp_X12_bodyOf at hw
  refine m_aldN C dX12_bodyOf_0 rfl h0 ?_
  refine lv_iconst (v := 0) C.1 C.2.1 dX12_bodyOf_1 (by decide) ?_
  obtain ⟨hk1, hw⟩ := hw
  refine m_putI C hW hS rfl hk1 p_X12_163 (fun z => by cases z) rfl dX12_bodyOf_2 (fun H locs hW hS => ?_)
  refine lv_iconst (v := 0) C.1 C.2.1 dX12_bodyOf_5 (by decide) ?_
  refine m_istN C hL dX12_bodyOf_6 rfl (by decide) (fun ls hL hn9 hk9 => ?_)
  have h0 := hk9 0 _ h0 (by decide) (Or.inl (by decide))
  have h1 := hk9 1 _ h1 (by decide) (Or.inr (rfl))
  have h2 := hn9
  refine w_X12_bodyOf_L7 C ?_ FU (sI S a0 41 0) 0 H locs ls hW hS hL h0 h1 h2 hw
  · intro S7 H locs ls hW hS hL h0 h1 hw
    refine m_aldN C dX12_bodyOf_26 rfl h0 ?_
    obtain ⟨hk8, hw⟩ := hw
    refine m_getR C hW rfl hk8 f_X12_42 rfl dX12_bodyOf_27 ?_
    refine lv_iload_n C.1 C.2.1 dX12_bodyOf_30 rfl h1 ?_
    obtain ⟨b9, ho9, hw⟩ := hw
    obtain ⟨hk10, hw⟩ := hw
    obtain ⟨hi11, hw⟩ := hw
    refine m_iald C hW ho9 hk10 hi11 dX12_bodyOf_31 ?_
    refine lv_if_ne (tgt := 37) C.1 C.2.1 dX12_bodyOf_32 (by decide) (fun hc12 => ?_) (fun hc12 => ?_)
    · have hw := hw.2 hc12
      refine m_aldN C dX12_bodyOf_37 rfl h0 ?_
      refine m_getR C hW rfl hk8 f_X12_54 rfl dX12_bodyOf_38 ?_
      refine lv_iload_n C.1 C.2.1 dX12_bodyOf_41 rfl h1 ?_
      obtain ⟨b13, ho13, hw⟩ := hw
      obtain ⟨hk14, hw⟩ := hw
      obtain ⟨hi15, hw⟩ := hw
      refine m_iald C hW ho13 hk14 hi15 dX12_bodyOf_42 ?_
      refine lv_iconst (v := (-1)) C.1 C.2.1 dX12_bodyOf_43 (by decide) ?_
      refine lv_icmp_ne (tgt := 50) C.1 C.2.1 dX12_bodyOf_44 (by decide) (fun hc16 => ?_) (fun hc16 => ?_)
      · have hw := hw.2 hc16
        refine m_aldN C dX12_bodyOf_50 rfl h0 ?_
        refine m_getR C hW rfl hk8 f_X12_42 rfl dX12_bodyOf_51 ?_
        refine lv_iload_n C.1 C.2.1 dX12_bodyOf_54 rfl h1 ?_
        obtain ⟨hi17, hw⟩ := hw
        refine m_iald C hW ho9 hk10 hi17 dX12_bodyOf_55 ?_
        by_cases hc20 : (hI S7 b9 (a1 : Int32).toNatClampNeg) = 1
        · have hw := hw.1 hc20
          refine lv_tableIn (tgt := 88) (off := 32) C.1 C.2.1 dX12_bodyOf_56 (by rw [hc20]; decide) (by rw [hc20]; decide) (by rw [hc20]; rfl) (by decide) ?_
          refine m_aldN C dX12_bodyOf_88 rfl h0 ?_
          refine lv_iload_n C.1 C.2.1 dX12_bodyOf_89 rfl h1 ?_
          refine m_rI (m_runV (As := [.int a1]) (rest := []) C hW hS hL (c_X12_cuts hw) v_X12_166 ⟨rfl, rfl⟩ ⟨Nat.le_of_ble_eq_true rfl, Nat.le_of_ble_eq_true rfl⟩ rfl hk8 rfl rfl (Nat.le_of_ble_eq_true rfl) dX12_bodyOf_90 ⟨Nat.le_of_ble_eq_true rfl, Nat.le_of_ble_eq_true rfl⟩) hS (fun r19 S18 H locs hw hW hS => ?_)
          exact m_iret C hW hS hw dX12_bodyOf_93
        · have hw := hw.2 hc20
          by_cases hc23 : (hI S7 b9 (a1 : Int32).toNatClampNeg) = 2
          · have hw := hw.1 hc23
            refine lv_tableIn (tgt := 94) (off := 38) C.1 C.2.1 dX12_bodyOf_56 (by rw [hc23]; decide) (by rw [hc23]; decide) (by rw [hc23]; rfl) (by decide) ?_
            refine m_aldN C dX12_bodyOf_94 rfl h0 ?_
            refine lv_iload_n C.1 C.2.1 dX12_bodyOf_95 rfl h1 ?_
            refine m_rI (m_runV (As := [.int a1]) (rest := []) C hW hS hL (c_X12_mixes hw) v_X12_169 ⟨rfl, rfl⟩ ⟨Nat.le_of_ble_eq_true rfl, Nat.le_of_ble_eq_true rfl⟩ rfl hk8 rfl rfl (Nat.le_of_ble_eq_true rfl) dX12_bodyOf_96 ⟨Nat.le_of_ble_eq_true rfl, Nat.le_of_ble_eq_true rfl⟩) hS (fun r22 S21 H locs hw hW hS => ?_)
            exact m_iret C hW hS hw dX12_bodyOf_99
          · have hw := hw.2 hc23
            by_cases hc26 : (hI S7 b9 (a1 : Int32).toNatClampNeg) = 3
            · have hw := hw.1 hc26
              refine lv_tableIn (tgt := 100) (off := 44) C.1 C.2.1 dX12_bodyOf_56 (by rw [hc26]; decide) (by rw [hc26]; decide) (by rw [hc26]; rfl) (by decide) ?_
              refine m_aldN C dX12_bodyOf_100 rfl h0 ?_
              refine lv_iload_n C.1 C.2.1 dX12_bodyOf_101 rfl h1 ?_
              refine m_rI (m_runV (As := [.int a1]) (rest := []) C hW hS hL (c_X12_loads hw) v_X12_172 ⟨rfl, rfl⟩ ⟨Nat.le_of_ble_eq_true rfl, Nat.le_of_ble_eq_true rfl⟩ rfl hk8 rfl rfl (Nat.le_of_ble_eq_true rfl) dX12_bodyOf_102 ⟨Nat.le_of_ble_eq_true rfl, Nat.le_of_ble_eq_true rfl⟩) hS (fun r25 S24 H locs hw hW hS => ?_)
              exact m_iret C hW hS hw dX12_bodyOf_105
            · have hw := hw.2 hc26
              by_cases hc29 : (hI S7 b9 (a1 : Int32).toNatClampNeg) = 4
              · have hw := hw.1 hc29
                refine lv_tableIn (tgt := 106) (off := 50) C.1 C.2.1 dX12_bodyOf_56 (by rw [hc29]; decide) (by rw [hc29]; decide) (by rw [hc29]; rfl) (by decide) ?_
                refine m_aldN C dX12_bodyOf_106 rfl h0 ?_
                refine lv_iload_n C.1 C.2.1 dX12_bodyOf_107 rfl h1 ?_
                refine m_rI (m_runV (As := [.int a1]) (rest := []) C hW hS hL (c_X12_checks hw) v_X12_175 ⟨rfl, rfl⟩ ⟨Nat.le_of_ble_eq_true rfl, Nat.le_of_ble_eq_true rfl⟩ rfl hk8 rfl rfl (Nat.le_of_ble_eq_true rfl) dX12_bodyOf_108 ⟨Nat.le_of_ble_eq_true rfl, Nat.le_of_ble_eq_true rfl⟩) hS (fun r28 S27 H locs hw hW hS => ?_)
                exact m_iret C hW hS hw dX12_bodyOf_111
              · have hw := hw.2 hc29
                refine lv_tableOut (tgt := 112) C.1 C.2.1 dX12_bodyOf_56 (tsw_out 1 4 (fun v h1 h2 => ?_)) (by decide) ?_
                · have : v = 1 ∨ v = 2 ∨ v = 3 ∨ v = 4 := by omega
                  rcases this with rfl | rfl | rfl | rfl
                  · exact lv_neT hc20 (by decide)
                  · exact lv_neT hc23 (by decide)
                  · exact lv_neT hc26 (by decide)
                  · exact lv_neT hc29 (by decide)
                · refine m_aldN C dX12_bodyOf_112 rfl h0 ?_
                  refine lv_iload_n C.1 C.2.1 dX12_bodyOf_113 rfl h1 ?_
                  refine m_rI (m_runV (As := [.int a1]) (rest := []) C hW hS hL (c_X12_counts hw) v_X12_178 ⟨rfl, rfl⟩ ⟨Nat.le_of_ble_eq_true rfl, Nat.le_of_ble_eq_true rfl⟩ rfl hk8 rfl rfl (Nat.le_of_ble_eq_true rfl) dX12_bodyOf_114 ⟨Nat.le_of_ble_eq_true rfl, Nat.le_of_ble_eq_true rfl⟩) hS (fun r31 S30 H locs hw hW hS => ?_)
                  exact m_iret C hW hS hw dX12_bodyOf_117
      · have hw := hw.1 hc16
        refine lv_bipush (v := 13) C.1 C.2.1 dX12_bodyOf_47 (by decide) ?_
        exact m_iret C hW hS hw dX12_bodyOf_49
    · have hw := hw.1 hc12
      refine lv_iconst (v := 0) C.1 C.2.1 dX12_bodyOf_35 (by decide) ?_
      exact m_iret C hW hS hw dX12_bodyOf_36
def wp_X12_tells (S : Hp) (a0 : Nat) (a1 : Int32) (a2 : Int32) (Q : Hp → Prop) : Prop := hK S a0 = 14 ∧ ∃ b2 : Nat, (hR S a0 36) = some b2 ∧ hK S b2 = 15 ∧ vp_in (hI S a0 25) (hN S b2) ∧ ∃ b5 : Nat, (hR (sI S b2 ((hI S a0 25) : Int32).toNatClampNeg (hI S a0 24)) a0 37) = some b5 ∧ hK (sI S b2 ((hI S a0 25) : Int32).toNatClampNeg (hI S a0 24)) b5 = 15 ∧ vp_in (hI (sI S b2 ((hI S a0 25) : Int32).toNatClampNeg (hI S a0 24)) a0 25) (hN (sI S b2 ((hI S a0 25) : Int32).toNatClampNeg (hI S a0 24)) b5) ∧ ∃ b8 : Nat, (hR (sI (sI S b2 ((hI S a0 25) : Int32).toNatClampNeg (hI S a0 24)) b5 ((hI (sI S b2 ((hI S a0 25) : Int32).toNatClampNeg (hI S a0 24)) a0 25) : Int32).toNatClampNeg a1) a0 38) = some b8 ∧ hK (sI (sI S b2 ((hI S a0 25) : Int32).toNatClampNeg (hI S a0 24)) b5 ((hI (sI S b2 ((hI S a0 25) : Int32).toNatClampNeg (hI S a0 24)) a0 25) : Int32).toNatClampNeg a1) b8 = 15 ∧ vp_in (hI (sI (sI S b2 ((hI S a0 25) : Int32).toNatClampNeg (hI S a0 24)) b5 ((hI (sI S b2 ((hI S a0 25) : Int32).toNatClampNeg (hI S a0 24)) a0 25) : Int32).toNatClampNeg a1) a0 25) (hN (sI (sI S b2 ((hI S a0 25) : Int32).toNatClampNeg (hI S a0 24)) b5 ((hI (sI S b2 ((hI S a0 25) : Int32).toNatClampNeg (hI S a0 24)) a0 25) : Int32).toNatClampNeg a1) b8) ∧ Q (sI (sI (sI (sI S b2 ((hI S a0 25) : Int32).toNatClampNeg (hI S a0 24)) b5 ((hI (sI S b2 ((hI S a0 25) : Int32).toNatClampNeg (hI S a0 24)) a0 25) : Int32).toNatClampNeg a1) b8 ((hI (sI (sI S b2 ((hI S a0 25) : Int32).toNatClampNeg (hI S a0 24)) b5 ((hI (sI S b2 ((hI S a0 25) : Int32).toNatClampNeg (hI S a0 24)) a0 25) : Int32).toNatClampNeg a1) a0 25) : Int32).toNatClampNeg a2) a0 25 ((hI (sI (sI (sI S b2 ((hI S a0 25) : Int32).toNatClampNeg (hI S a0 24)) b5 ((hI (sI S b2 ((hI S a0 25) : Int32).toNatClampNeg (hI S a0 24)) a0 25) : Int32).toNatClampNeg a1) b8 ((hI (sI (sI S b2 ((hI S a0 25) : Int32).toNatClampNeg (hI S a0 24)) b5 ((hI (sI S b2 ((hI S a0 25) : Int32).toNatClampNeg (hI S a0 24)) a0 25) : Int32).toNatClampNeg a1) a0 25) : Int32).toNatClampNeg a2) a0 25) + 1))
set_option maxRecDepth 100000 in
set_option maxHeartbeats 4000000 in
theorem c_X12_tells {l : Launch} {G : GX} {S : Hp} {a0 : Nat} {a1 : Int32} {a2 : Int32} {Q : Hp → Prop} (hw : wp_X12_tells S a0 a1 a2 Q) : Met l yX12_tells (Cond.code yX12_tells cX12_tells 3 none :: TS) { frames := 0, cells := 0, slots := 0, locals := 0 } (Pk G S [va_rf (some a0), .int a1, .int a2]) (QV G Q) 0 0 G.2.2.1 := by
  refine m_met (by decide) ?_
  intro p e s m below meth c H locs C hW hS
  have C : Cx p s m ([va_rf (some a0), .int a1, .int a2] : List Value).toArray meth c cX12_tells 3 RX12 none "tells" G := C
  obtain ⟨ls, hent, hL, hla⟩ := m_entry m (vs := [va_rf (some a0), .int a1, .int a2]) (nn := 3) [1, 1, 1] rfl (by decide)
  rw [hent]
  have h0 : ls[0]? = some (.val (va_rf (some a0))) := hla (0, va_rf (some a0)) (List.mem_of_getElem? (i := 0) rfl)
  have h1 : ls[1]? = some (.val (.int a1)) := hla (1, .int a1) (List.mem_of_getElem? (i := 1) rfl)
  have h2 : ls[2]? = some (.val (.int a2)) := hla (2, .int a2) (List.mem_of_getElem? (i := 2) rfl)
  clear hla
  generalize ([va_rf (some a0), .int a1, .int a2] : List Value).toArray = args at C ⊢
  unfold wp_X12_tells at hw
  refine m_aldN C dX12_tells_0 rfl h0 ?_
  obtain ⟨hk1, hw⟩ := hw
  refine m_getR C hW rfl hk1 f_X12_94 rfl dX12_tells_1 ?_
  refine m_aldN C dX12_tells_4 rfl h0 ?_
  refine m_getI C hW rfl hk1 f_X12_199 rfl dX12_tells_5 ?_
  refine m_aldN C dX12_tells_8 rfl h0 ?_
  refine m_getI C hW rfl hk1 f_X12_202 rfl dX12_tells_9 ?_
  obtain ⟨b2, ho2, hw⟩ := hw
  obtain ⟨hk3, hw⟩ := hw
  obtain ⟨hi4, hw⟩ := hw
  refine m_iast C hW hS ho2 hk3 hi4 dX12_tells_12 (fun H locs hW hS => ?_)
  refine m_aldN C dX12_tells_13 rfl h0 ?_
  refine m_getR C hW rfl hk1 f_X12_97 rfl dX12_tells_14 ?_
  refine m_aldN C dX12_tells_17 rfl h0 ?_
  refine m_getI C hW rfl hk1 f_X12_199 rfl dX12_tells_18 ?_
  refine lv_iload_n C.1 C.2.1 dX12_tells_21 rfl h1 ?_
  obtain ⟨b5, ho5, hw⟩ := hw
  obtain ⟨hk6, hw⟩ := hw
  obtain ⟨hi7, hw⟩ := hw
  refine m_iast C hW hS ho5 hk6 hi7 dX12_tells_22 (fun H locs hW hS => ?_)
  refine m_aldN C dX12_tells_23 rfl h0 ?_
  refine m_getR C hW rfl hk1 f_X12_100 rfl dX12_tells_24 ?_
  refine m_aldN C dX12_tells_27 rfl h0 ?_
  refine m_getI C hW rfl hk1 f_X12_199 rfl dX12_tells_28 ?_
  refine lv_iload_n C.1 C.2.1 dX12_tells_31 rfl h2 ?_
  obtain ⟨b8, ho8, hw⟩ := hw
  obtain ⟨hk9, hw⟩ := hw
  obtain ⟨hi10, hw⟩ := hw
  refine m_iast C hW hS ho8 hk9 hi10 dX12_tells_32 (fun H locs hW hS => ?_)
  refine m_aldN C dX12_tells_33 rfl h0 ?_
  refine lv_dup C.1 C.2.1 dX12_tells_34 (va_rf_cat _) ?_
  refine m_getI C hW rfl hk1 f_X12_199 rfl dX12_tells_35 ?_
  refine lv_iconst (v := 1) C.1 C.2.1 dX12_tells_38 (by decide) ?_
  refine lv_iadd C.1 C.2.1 dX12_tells_39 ?_
  refine m_putI C hW hS rfl hk1 p_X12_199 (fun z => by cases z) rfl dX12_tells_40 (fun H locs hW hS => ?_)
  exact m_vret C hW hS hw dX12_tells_43
def wp_X12_isHopeless_L35 (S : Hp) (l0 : Nat) (l1 : Int32) (l2 : Int32) (K76 : Int64 → Prop) (Q : Int32 → Hp → Prop) : Nat → Int64 → Int32 → Prop
  | 0, _, _ => False
  | n + 1, l3, l5 => hK S l0 = 14 ∧ ((hI S l0 4) ≤ l5 → K76 l3) ∧ (¬ ((hI S l0 4) ≤ l5) → (l5 = l1 → ∀ z22 : Int64, z22 = (l3 + 0) → wp_X12_isHopeless_L35 S l0 l1 l2 K76 Q n z22 (l5 + 1)) ∧ (¬ (l5 = l1) → ∃ b18 : Nat, (hR S l0 14) = some b18 ∧ hK S b18 = 15 ∧ vp_in ((60 * l5) + l2) (hN S b18) ∧ ∀ z21 : Int64, z21 = (l3 + (((hI S b18 (((60 * l5) + l2) : Int32).toNatClampNeg) : Int32).toInt64)) → wp_X12_isHopeless_L35 S l0 l1 l2 K76 Q n z21 (l5 + 1)))
def wp_X12_isHopeless_L18 (S : Hp) (l0 : Nat) (l1 : Int32) (Q : Int32 → Hp → Prop) : Nat → Int32 → Prop
  | 0, _ => False
  | n + 1, l2 => (60 ≤ l2 → Q 0 S) ∧ (¬ (60 ≤ l2) → hK S l0 = 14 ∧ ∃ b11 : Nat, (hR S l0 6) = some b11 ∧ hK S b11 = 15 ∧ vp_in l2 (hN S b11) ∧ ∀ z14 : Int64, z14 = (((hI S b11 (l2 : Int32).toNatClampNeg) : Int32).toInt64) → wp_X12_isHopeless_L35 S l0 l1 l2 (fun (z23 : Int64) => ∃ b24 : Nat, (hR S l0 13) = some b24 ∧ hK S b24 = 15 ∧ vp_in ((60 * l1) + l2) (hN S b24) ∧ ((((hI S b24 (((60 * l1) + l2) : Int32).toNatClampNeg) : Int32).toInt64) ≤ z23 → wp_X12_isHopeless_L18 S l0 l1 Q n (l2 + 1)) ∧ (¬ ((((hI S b24 (((60 * l1) + l2) : Int32).toNatClampNeg) : Int32).toInt64) ≤ z23) → Q 1 S)) Q FU z14 0)
def wp_X12_isHopeless (S : Hp) (a0 : Nat) (a1 : Int32) (Q : Int32 → Hp → Prop) : Prop := hK S a0 = 14 ∧ ∃ b2 : Nat, (hR S a0 7) = some b2 ∧ hK S b2 = 15 ∧ vp_in a1 (hN S b2) ∧ ∃ b5 : Nat, (hR S a0 5) = some b5 ∧ hK S b5 = 15 ∧ vp_in (hI S b2 (a1 : Int32).toNatClampNeg) (hN S b5) ∧ ((hI S b5 ((hI S b2 (a1 : Int32).toNatClampNeg) : Int32).toNatClampNeg) = 0 → Q 1 S) ∧ (¬ ((hI S b5 ((hI S b2 (a1 : Int32).toNatClampNeg) : Int32).toNatClampNeg) = 0) → wp_X12_isHopeless_L18 S a0 a1 Q FU 0)
set_option maxRecDepth 100000 in
set_option maxHeartbeats 4000000 in
theorem w_X12_isHopeless_L35 {p : Program} {l : Launch} {e : Env} {s : State} {m : MethodId} {args : Array Value} {below : List Frame} {meth : Method} {c : Code} {G : GX} {Q : Int32 → Hp → Prop} {K76 : Int64 → Prop} {l0 : Nat} {l1 : Int32} {l2 : Int32} {S : Hp} {H : Heap} {locs : List Loc} (C : Cx p s m args meth c cX12_isHopeless 6 RX12 (some .boolean) "isHopeless" G) (hW : wd G S H) (hS : va_S G.2.2.1 s.heap H locs)
    (k76 : ∀  (l3 : Int64) (ls : Array Slot), LV ls 6 → ls[0]? = some (.val (va_rf (some l0))) → ls[1]? = some (.val (.int l1)) → ls[2]? = some (.val (.int l2)) → ls[3]? = some (.val (.long l3)) → K76 l3 → W p l e ({ frames := 0, cells := 0, slots := 0, locals := 0 } : Room) s m args below meth c H locs 0 0 (MQ below (QI G Q) args s 0 0 G.2.2.1) (F0 m 76 ls [])) :
    ∀ (n : Nat) (l3 : Int64) (l5 : Int32) (ls : Array Slot), LV ls 6 → ls[0]? = some (.val (va_rf (some l0))) → ls[1]? = some (.val (.int l1)) → ls[2]? = some (.val (.int l2)) → ls[3]? = some (.val (.long l3)) → ls[5]? = some (.val (.int l5)) → wp_X12_isHopeless_L35 S l0 l1 l2 K76 Q n l3 l5 → W p l e ({ frames := 0, cells := 0, slots := 0, locals := 0 } : Room) s m args below meth c H locs 0 0 (MQ below (QI G Q) args s 0 0 G.2.2.1) (F0 m 35 ls []) := by
  intro n
  induction n with
  | zero =>
    intro l3 l5 ls hL h0 h1 h2 h3 h5 hw
    exact False.elim hw
  | succ n ih =>
    intro l3 l5 ls hL h0 h1 h2 h3 h5 hw
    unfold wp_X12_isHopeless_L35 at hw
    refine lv_iload C.1 C.2.1 dX12_isHopeless_35 h5 ?_
    refine m_aldN C dX12_isHopeless_37 rfl h0 ?_
    obtain ⟨hk15, hw⟩ := hw
    refine m_getI C hW rfl hk15 f_X12_128 rfl dX12_isHopeless_38 ?_
    refine lv_icmp_ge (tgt := 76) C.1 C.2.1 dX12_isHopeless_41 (by decide) (fun hc16 => ?_) (fun hc16 => ?_)
    · have hw := hw.1 hc16
      exact k76 l3 ls hL h0 h1 h2 h3 hw
    · have hw := hw.2 hc16
      refine lv_lload_n C.1 C.2.1 dX12_isHopeless_44 rfl h3 ?_
      refine lv_iload C.1 C.2.1 dX12_isHopeless_45 h5 ?_
      refine lv_iload_n C.1 C.2.1 dX12_isHopeless_47 rfl h1 ?_
      refine lv_icmp_ne (tgt := 55) C.1 C.2.1 dX12_isHopeless_48 (by decide) (fun hc17 => ?_) (fun hc17 => ?_)
      · have hw := hw.2 hc17
        refine m_aldN C dX12_isHopeless_55 rfl h0 ?_
        refine m_getR C hW rfl hk15 f_X12_39 rfl dX12_isHopeless_56 ?_
        refine lv_bipush (v := 60) C.1 C.2.1 dX12_isHopeless_59 (by decide) ?_
        refine lv_iload C.1 C.2.1 dX12_isHopeless_61 h5 ?_
        refine lv_imul C.1 C.2.1 dX12_isHopeless_63 ?_
        refine lv_iload_n C.1 C.2.1 dX12_isHopeless_64 rfl h2 ?_
        refine lv_iadd C.1 C.2.1 dX12_isHopeless_65 ?_
        obtain ⟨b18, ho18, hw⟩ := hw
        obtain ⟨hk19, hw⟩ := hw
        obtain ⟨hi20, hw⟩ := hw
        refine m_iald C hW ho18 hk19 hi20 dX12_isHopeless_66 ?_
        refine lv_i2l (v := (((hI S b18 (((60 * l5) + l2) : Int32).toNatClampNeg) : Int32).toInt64)) C.1 C.2.1 dX12_isHopeless_67 rfl ?_
        refine lv_ladd C.1 C.2.1 dX12_isHopeless_68 ?_
        refine lv_topl (fun z21 ez21 => ?_)
        have hw := hw z21 ez21
        refine m_lstN C hL dX12_isHopeless_69 rfl (by decide) (fun ls hL hn9 hk9 => ?_)
        have h0 := hk9 0 _ h0 (by decide) (by decide) (Or.inl (by decide))
        have h1 := hk9 1 _ h1 (by decide) (by decide) (Or.inl (by decide))
        have h2 := hk9 2 _ h2 (by decide) (by decide) (Or.inr (rfl))
        have h5 := hk9 5 _ h5 (by decide) (by decide) (Or.inl (by decide))
        have h3 := hn9
        refine m_iinc (v := (l5 + 1)) C hL dX12_isHopeless_70 h5 rfl (by decide) (fun ls hL hn9 hk9 => ?_)
        have h0 := hk9 0 _ h0 (by decide) (Or.inl (by decide))
        have h1 := hk9 1 _ h1 (by decide) (Or.inl (by decide))
        have h2 := hk9 2 _ h2 (by decide) (Or.inl (by decide))
        have h3 := hk9 3 _ h3 (by decide) (Or.inl (by decide))
        have h5 := hn9
        refine lv_goto (tgt := 35) C.1 C.2.1 dX12_isHopeless_73 (by decide) ?_
        exact ih z21 (l5 + 1) ls hL h0 h1 h2 h3 h5 hw
      · have hw := hw.1 hc17
        refine lv_lconst (v := 0) C.1 C.2.1 dX12_isHopeless_51 (by decide) ?_
        refine lv_goto (tgt := 68) C.1 C.2.1 dX12_isHopeless_52 (by decide) ?_
        refine lv_ladd C.1 C.2.1 dX12_isHopeless_68 ?_
        refine lv_topl (fun z22 ez22 => ?_)
        have hw := hw z22 ez22
        refine m_lstN C hL dX12_isHopeless_69 rfl (by decide) (fun ls hL hn9 hk9 => ?_)
        have h0 := hk9 0 _ h0 (by decide) (by decide) (Or.inl (by decide))
        have h1 := hk9 1 _ h1 (by decide) (by decide) (Or.inl (by decide))
        have h2 := hk9 2 _ h2 (by decide) (by decide) (Or.inr (rfl))
        have h5 := hk9 5 _ h5 (by decide) (by decide) (Or.inl (by decide))
        have h3 := hn9
        refine m_iinc (v := (l5 + 1)) C hL dX12_isHopeless_70 h5 rfl (by decide) (fun ls hL hn9 hk9 => ?_)
        have h0 := hk9 0 _ h0 (by decide) (Or.inl (by decide))
        have h1 := hk9 1 _ h1 (by decide) (Or.inl (by decide))
        have h2 := hk9 2 _ h2 (by decide) (Or.inl (by decide))
        have h3 := hk9 3 _ h3 (by decide) (Or.inl (by decide))
        have h5 := hn9
        refine lv_goto (tgt := 35) C.1 C.2.1 dX12_isHopeless_73 (by decide) ?_
        exact ih z22 (l5 + 1) ls hL h0 h1 h2 h3 h5 hw
set_option maxRecDepth 100000 in
set_option maxHeartbeats 4000000 in
theorem w_X12_isHopeless_L18 {p : Program} {l : Launch} {e : Env} {s : State} {m : MethodId} {args : Array Value} {below : List Frame} {meth : Method} {c : Code} {G : GX} {Q : Int32 → Hp → Prop} {l0 : Nat} {l1 : Int32} {S : Hp} {H : Heap} {locs : List Loc} (C : Cx p s m args meth c cX12_isHopeless 6 RX12 (some .boolean) "isHopeless" G) (hW : wd G S H) (hS : va_S G.2.2.1 s.heap H locs) :
    ∀ (n : Nat) (l2 : Int32) (ls : Array Slot), LV ls 6 → ls[0]? = some (.val (va_rf (some l0))) → ls[1]? = some (.val (.int l1)) → ls[2]? = some (.val (.int l2)) → wp_X12_isHopeless_L18 S l0 l1 Q n l2 → W p l e ({ frames := 0, cells := 0, slots := 0, locals := 0 } : Room) s m args below meth c H locs 0 0 (MQ below (QI G Q) args s 0 0 G.2.2.1) (F0 m 18 ls []) := by
  intro n
  induction n with
  | zero =>
    intro l2 ls hL h0 h1 h2 hw
    exact False.elim hw
  | succ n ih =>
    intro l2 ls hL h0 h1 h2 hw
    unfold wp_X12_isHopeless_L18 at hw
    refine lv_iload_n C.1 C.2.1 dX12_isHopeless_18 rfl h2 ?_
    refine lv_bipush (v := 60) C.1 C.2.1 dX12_isHopeless_19 (by decide) ?_
    refine lv_icmp_ge (tgt := 101) C.1 C.2.1 dX12_isHopeless_21 (by decide) (fun hc9 => ?_) (fun hc9 => ?_)
    · have hw := hw.1 hc9
      refine lv_iconst (v := 0) C.1 C.2.1 dX12_isHopeless_101 (by decide) ?_
      exact m_zret C hW hS (by decide) hw dX12_isHopeless_102
    · have hw := hw.2 hc9
      refine m_aldN C dX12_isHopeless_24 rfl h0 ?_
      obtain ⟨hk10, hw⟩ := hw
      refine m_getR C hW rfl hk10 f_X12_13 rfl dX12_isHopeless_25 ?_
      refine lv_iload_n C.1 C.2.1 dX12_isHopeless_28 rfl h2 ?_
      obtain ⟨b11, ho11, hw⟩ := hw
      obtain ⟨hk12, hw⟩ := hw
      obtain ⟨hi13, hw⟩ := hw
      refine m_iald C hW ho11 hk12 hi13 dX12_isHopeless_29 ?_
      refine lv_i2l (v := (((hI S b11 (l2 : Int32).toNatClampNeg) : Int32).toInt64)) C.1 C.2.1 dX12_isHopeless_30 rfl ?_
      refine lv_topl (fun z14 ez14 => ?_)
      have hw := hw z14 ez14
      refine m_lstN C hL dX12_isHopeless_31 rfl (by decide) (fun ls hL hn9 hk9 => ?_)
      have h0 := hk9 0 _ h0 (by decide) (by decide) (Or.inl (by decide))
      have h1 := hk9 1 _ h1 (by decide) (by decide) (Or.inl (by decide))
      have h2 := hk9 2 _ h2 (by decide) (by decide) (Or.inr (rfl))
      have h3 := hn9
      refine lv_iconst (v := 0) C.1 C.2.1 dX12_isHopeless_32 (by decide) ?_
      refine m_ist C hL dX12_isHopeless_33 (by decide) (fun ls hL hn9 hk9 => ?_)
      have h0 := hk9 0 _ h0 (by decide) (Or.inl (by decide))
      have h1 := hk9 1 _ h1 (by decide) (Or.inl (by decide))
      have h2 := hk9 2 _ h2 (by decide) (Or.inl (by decide))
      have h3 := hk9 3 _ h3 (by decide) (Or.inl (by decide))
      have h5 := hn9
      refine w_X12_isHopeless_L35 C hW hS ?_ FU z14 0 ls hL h0 h1 h2 h3 h5 hw
      · intro z23 ls hL h0 h1 h2 h3 hw
        refine m_aldN C dX12_isHopeless_76 rfl h0 ?_
        refine m_getR C hW rfl hk10 f_X12_36 rfl dX12_isHopeless_77 ?_
        refine lv_bipush (v := 60) C.1 C.2.1 dX12_isHopeless_80 (by decide) ?_
        refine lv_iload_n C.1 C.2.1 dX12_isHopeless_82 rfl h1 ?_
        refine lv_imul C.1 C.2.1 dX12_isHopeless_83 ?_
        refine lv_iload_n C.1 C.2.1 dX12_isHopeless_84 rfl h2 ?_
        refine lv_iadd C.1 C.2.1 dX12_isHopeless_85 ?_
        obtain ⟨b24, ho24, hw⟩ := hw
        obtain ⟨hk25, hw⟩ := hw
        obtain ⟨hi26, hw⟩ := hw
        refine m_iald C hW ho24 hk25 hi26 dX12_isHopeless_86 ?_
        refine lv_i2l (v := (((hI S b24 (((60 * l1) + l2) : Int32).toNatClampNeg) : Int32).toInt64)) C.1 C.2.1 dX12_isHopeless_87 rfl ?_
        refine lv_lload_n C.1 C.2.1 dX12_isHopeless_88 rfl h3 ?_
        refine W.lcmp C.1 C.2.1 dX12_isHopeless_89 ?_
        refine lv_if_le (tgt := 95) C.1 C.2.1 dX12_isHopeless_90 (by decide) (fun hc27 => ?_) (fun hc27 => ?_)
        · have hw := hw.1 ((q_le _ _).mp hc27)
          refine m_iinc (v := (l2 + 1)) C hL dX12_isHopeless_95 h2 rfl (by decide) (fun ls hL hn9 hk9 => ?_)
          have h0 := hk9 0 _ h0 (by decide) (Or.inl (by decide))
          have h1 := hk9 1 _ h1 (by decide) (Or.inr (rfl))
          have h2 := hn9
          refine lv_goto (tgt := 18) C.1 C.2.1 dX12_isHopeless_98 (by decide) ?_
          exact ih (l2 + 1) ls hL h0 h1 h2 hw
        · have hw := hw.2 (fun z => hc27 ((q_le _ _).mpr z))
          refine lv_iconst (v := 1) C.1 C.2.1 dX12_isHopeless_93 (by decide) ?_
          exact m_zret C hW hS (by decide) hw dX12_isHopeless_94
set_option maxRecDepth 100000 in
set_option maxHeartbeats 4000000 in
theorem c_X12_isHopeless {l : Launch} {G : GX} {S : Hp} {a0 : Nat} {a1 : Int32} {Q : Int32 → Hp → Prop} (hw : wp_X12_isHopeless S a0 a1 Q) : Met l yX12_isHopeless (Cond.code yX12_isHopeless cX12_isHopeless 6 (some .boolean) :: TS) { frames := 0, cells := 0, slots := 0, locals := 0 } (Pk G S [va_rf (some a0), .int a1]) (QI G Q) 0 0 G.2.2.1 := by
  refine m_met (by decide) ?_
  intro p e s m below meth c H locs C hW hS
  have C : Cx p s m ([va_rf (some a0), .int a1] : List Value).toArray meth c cX12_isHopeless 6 RX12 (some .boolean) "isHopeless" G := C
  obtain ⟨ls, hent, hL, hla⟩ := m_entry m (vs := [va_rf (some a0), .int a1]) (nn := 6) [1, 1] rfl (by decide)
  rw [hent]
  have h0 : ls[0]? = some (.val (va_rf (some a0))) := hla (0, va_rf (some a0)) (List.mem_of_getElem? (i := 0) rfl)
  have h1 : ls[1]? = some (.val (.int a1)) := hla (1, .int a1) (List.mem_of_getElem? (i := 1) rfl)
  clear hla
  generalize ([va_rf (some a0), .int a1] : List Value).toArray = args at C ⊢
  unfold wp_X12_isHopeless at hw
  refine m_aldN C dX12_isHopeless_0 rfl h0 ?_
  obtain ⟨hk1, hw⟩ := hw
  refine m_getR C hW rfl hk1 f_X12_9 rfl dX12_isHopeless_1 ?_
  refine m_aldN C dX12_isHopeless_4 rfl h0 ?_
  refine m_getR C hW rfl hk1 f_X12_16 rfl dX12_isHopeless_5 ?_
  refine lv_iload_n C.1 C.2.1 dX12_isHopeless_8 rfl h1 ?_
  obtain ⟨b2, ho2, hw⟩ := hw
  obtain ⟨hk3, hw⟩ := hw
  obtain ⟨hi4, hw⟩ := hw
  refine m_iald C hW ho2 hk3 hi4 dX12_isHopeless_9 ?_
  obtain ⟨b5, ho5, hw⟩ := hw
  obtain ⟨hk6, hw⟩ := hw
  obtain ⟨hi7, hw⟩ := hw
  refine m_iald C hW ho5 hk6 hi7 dX12_isHopeless_10 ?_
  refine lv_if_ne (tgt := 16) C.1 C.2.1 dX12_isHopeless_11 (by decide) (fun hc8 => ?_) (fun hc8 => ?_)
  · have hw := hw.2 hc8
    refine lv_iconst (v := 0) C.1 C.2.1 dX12_isHopeless_16 (by decide) ?_
    refine m_istN C hL dX12_isHopeless_17 rfl (by decide) (fun ls hL hn9 hk9 => ?_)
    have h0 := hk9 0 _ h0 (by decide) (Or.inl (by decide))
    have h1 := hk9 1 _ h1 (by decide) (Or.inr (rfl))
    have h2 := hn9
    exact w_X12_isHopeless_L18 C hW hS  FU 0 ls hL h0 h1 h2 hw
  · have hw := hw.1 hc8
    refine lv_iconst (v := 1) C.1 C.2.1 dX12_isHopeless_14 (by decide) ?_
    exact m_zret C hW hS (by decide) hw dX12_isHopeless_15
def wp_X12_begins_L17 (l0 : Nat) (K36 : Hp → Prop) (Q : Hp → Prop) : Nat → Hp → Int32 → Prop
  | 0, _, _ => False
  | n + 1, S, l1 => (32 ≤ l1 → K36 S) ∧ (¬ (32 ≤ l1) → hK S l0 = 14 ∧ ∃ b4 : Nat, (hR S l0 32) = some b4 ∧ hK S b4 = 15 ∧ vp_in l1 (hN S b4) ∧ wp_X12_begins_L17 l0 K36 Q n (sI S b4 (l1 : Int32).toNatClampNeg (-1)) (l1 + 1))
def wp_X12_begins_L38 (l0 : Nat) (K64 : Hp → Prop) (Q : Hp → Prop) : Nat → Hp → Int32 → Prop
  | 0, _, _ => False
  | n + 1, S, l1 => (40 ≤ l1 → K64 S) ∧ (¬ (40 ≤ l1) → hK S l0 = 14 ∧ ∃ b10 : Nat, (hR S l0 33) = some b10 ∧ hK S b10 = 15 ∧ vp_in l1 (hN S b10) ∧ ∃ b13 : Nat, (hR (sI S b10 (l1 : Int32).toNatClampNeg (-1)) l0 34) = some b13 ∧ hK (sI S b10 (l1 : Int32).toNatClampNeg (-1)) b13 = 15 ∧ vp_in l1 (hN (sI S b10 (l1 : Int32).toNatClampNeg (-1)) b13) ∧ wp_X12_begins_L38 l0 K64 Q n (sI (sI S b10 (l1 : Int32).toNatClampNeg (-1)) b13 (l1 : Int32).toNatClampNeg (-1)) (l1 + 1))
def wp_X12_begins_L66 (l0 : Nat) (K91 : Hp → Prop) (Q : Hp → Prop) : Nat → Hp → Int32 → Prop
  | 0, _, _ => False
  | n + 1, S, l1 => (60 ≤ l1 → K91 S) ∧ (¬ (60 ≤ l1) → hK S l0 = 14 ∧ ∃ b19 : Nat, (hR S l0 6) = some b19 ∧ hK S b19 = 15 ∧ vp_in l1 (hN S b19) ∧ ∃ b22 : Nat, (hR S l0 35) = some b22 ∧ hK S b22 = 16 ∧ vp_in l1 (hN S b22) ∧ wp_X12_begins_L66 l0 K91 Q n (sJ S b22 (l1 : Int32).toNatClampNeg (((hI S b19 (l1 : Int32).toNatClampNeg) : Int32).toInt64)) (l1 + 1))
def wp_X12_begins_L93 (l0 : Nat) (K149 : Hp → Prop) (Q : Hp → Prop) : Nat → Hp → Int32 → Prop
  | 0, _, _ => False
  | n + 1, S, l1 => hK S l0 = 14 ∧ ((hI S l0 4) ≤ l1 → K149 S) ∧ (¬ ((hI S l0 4) ≤ l1) → ∃ b28 : Nat, (hR S l0 26) = some b28 ∧ hK S b28 = 15 ∧ vp_in l1 (hN S b28) ∧ ∃ b31 : Nat, (hR (sI S b28 (l1 : Int32).toNatClampNeg 0) l0 27) = some b31 ∧ hK (sI S b28 (l1 : Int32).toNatClampNeg 0) b31 = 15 ∧ vp_in l1 (hN (sI S b28 (l1 : Int32).toNatClampNeg 0) b31) ∧ ∃ b34 : Nat, (hR (sI (sI S b28 (l1 : Int32).toNatClampNeg 0) b31 (l1 : Int32).toNatClampNeg (-1)) l0 28) = some b34 ∧ hK (sI (sI S b28 (l1 : Int32).toNatClampNeg 0) b31 (l1 : Int32).toNatClampNeg (-1)) b34 = 15 ∧ vp_in l1 (hN (sI (sI S b28 (l1 : Int32).toNatClampNeg 0) b31 (l1 : Int32).toNatClampNeg (-1)) b34) ∧ ∃ b37 : Nat, (hR (sI (sI (sI S b28 (l1 : Int32).toNatClampNeg 0) b31 (l1 : Int32).toNatClampNeg (-1)) b34 (l1 : Int32).toNatClampNeg (-1)) l0 29) = some b37 ∧ hK (sI (sI (sI S b28 (l1 : Int32).toNatClampNeg 0) b31 (l1 : Int32).toNatClampNeg (-1)) b34 (l1 : Int32).toNatClampNeg (-1)) b37 = 15 ∧ vp_in l1 (hN (sI (sI (sI S b28 (l1 : Int32).toNatClampNeg 0) b31 (l1 : Int32).toNatClampNeg (-1)) b34 (l1 : Int32).toNatClampNeg (-1)) b37) ∧ ∃ b40 : Nat, (hR (sI (sI (sI (sI S b28 (l1 : Int32).toNatClampNeg 0) b31 (l1 : Int32).toNatClampNeg (-1)) b34 (l1 : Int32).toNatClampNeg (-1)) b37 (l1 : Int32).toNatClampNeg (-1)) l0 30) = some b40 ∧ hK (sI (sI (sI (sI S b28 (l1 : Int32).toNatClampNeg 0) b31 (l1 : Int32).toNatClampNeg (-1)) b34 (l1 : Int32).toNatClampNeg (-1)) b37 (l1 : Int32).toNatClampNeg (-1)) b40 = 15 ∧ vp_in l1 (hN (sI (sI (sI (sI S b28 (l1 : Int32).toNatClampNeg 0) b31 (l1 : Int32).toNatClampNeg (-1)) b34 (l1 : Int32).toNatClampNeg (-1)) b37 (l1 : Int32).toNatClampNeg (-1)) b40) ∧ ∃ b43 : Nat, (hR (sI (sI (sI (sI (sI S b28 (l1 : Int32).toNatClampNeg 0) b31 (l1 : Int32).toNatClampNeg (-1)) b34 (l1 : Int32).toNatClampNeg (-1)) b37 (l1 : Int32).toNatClampNeg (-1)) b40 (l1 : Int32).toNatClampNeg 0) l0 31) = some b43 ∧ hK (sI (sI (sI (sI (sI S b28 (l1 : Int32).toNatClampNeg 0) b31 (l1 : Int32).toNatClampNeg (-1)) b34 (l1 : Int32).toNatClampNeg (-1)) b37 (l1 : Int32).toNatClampNeg (-1)) b40 (l1 : Int32).toNatClampNeg 0) b43 = 15 ∧ vp_in l1 (hN (sI (sI (sI (sI (sI S b28 (l1 : Int32).toNatClampNeg 0) b31 (l1 : Int32).toNatClampNeg (-1)) b34 (l1 : Int32).toNatClampNeg (-1)) b37 (l1 : Int32).toNatClampNeg (-1)) b40 (l1 : Int32).toNatClampNeg 0) b43) ∧ wp_X12_begins_L93 l0 K149 Q n (sI (sI (sI (sI (sI (sI S b28 (l1 : Int32).toNatClampNeg 0) b31 (l1 : Int32).toNatClampNeg (-1)) b34 (l1 : Int32).toNatClampNeg (-1)) b37 (l1 : Int32).toNatClampNeg (-1)) b40 (l1 : Int32).toNatClampNeg 0) b43 (l1 : Int32).toNatClampNeg 0) (l1 + 1))
def wp_X12_begins_L151 (l0 : Nat) (K176 : Hp → Prop) (Q : Hp → Prop) : Nat → Hp → Int32 → Prop
  | 0, _, _ => False
  | n + 1, S, l1 => hK S l0 = 14 ∧ ((hI S l0 4) ≤ l1 → K176 S) ∧ (¬ ((hI S l0 4) ≤ l1) → wp_X12_isHopeless S l0 l1 (fun r50 S49 => ∃ b51 : Nat, (hR S l0 44) = some b51 ∧ hK S49 b51 = 17 ∧ vp_in l1 (hN S49 b51) ∧ (r50 = 0 ∨ r50 = 1) ∧ wp_X12_begins_L151 l0 K176 Q n (sI S49 b51 (l1 : Int32).toNatClampNeg r50) (l1 + 1)))
def wp_X12_begins_L204 (l0 : Nat) (l1 : Int32) (K258 : Hp → Prop) (Q : Hp → Prop) : Nat → Hp → Int32 → Prop
  | 0, _, _ => False
  | n + 1, S, l2 => hK S l0 = 14 ∧ ((hI S l0 4) ≤ l2 → K258 S) ∧ (¬ ((hI S l0 4) ≤ l2) → ∃ b69 : Nat, (hR S l0 26) = some b69 ∧ hK S b69 = 15 ∧ vp_in l1 (hN S b69) ∧ ((hI S b69 (l1 : Int32).toNatClampNeg) = 0 → ∃ b73 : Nat, (hR S l0 11) = some b73 ∧ hK S b73 = 17 ∧ vp_in ((200 * l1) + l2) (hN S b73) ∧ ((hI S b73 (((200 * l1) + l2) : Int32).toNatClampNeg) = 0 → wp_X12_begins_L204 l0 l1 K258 Q n S (l2 + 1)) ∧ (¬ ((hI S b73 (((200 * l1) + l2) : Int32).toNatClampNeg) = 0) → ∃ b77 : Nat, (hR S l0 44) = some b77 ∧ hK S b77 = 17 ∧ vp_in l2 (hN S b77) ∧ ((hI S b77 (l2 : Int32).toNatClampNeg) = 0 → wp_X12_begins_L204 l0 l1 K258 Q n S (l2 + 1)) ∧ (¬ ((hI S b77 (l2 : Int32).toNatClampNeg) = 0) → vp_in l1 (hN S b69) ∧ wp_X12_begins_L204 l0 l1 K258 Q n (sI S b69 (l1 : Int32).toNatClampNeg 5) (l2 + 1)))) ∧ (¬ ((hI S b69 (l1 : Int32).toNatClampNeg) = 0) → K258 S))
def wp_X12_begins_L178 (l0 : Nat) (K264 : Hp → Prop) (Q : Hp → Prop) : Nat → Hp → Int32 → Prop
  | 0, _, _ => False
  | n + 1, S, l1 => hK S l0 = 14 ∧ ((hI S l0 4) ≤ l1 → K264 S) ∧ (¬ ((hI S l0 4) ≤ l1) → ∃ b58 : Nat, (hR S l0 44) = some b58 ∧ hK S b58 = 17 ∧ vp_in l1 (hN S b58) ∧ ∃ J62 : Hp → Prop, J62 = (fun (S66 : Hp) => wp_X12_begins_L204 l0 l1 (fun (S82 : Hp) => wp_X12_begins_L178 l0 K264 Q n S82 (l1 + 1)) Q FU S66 0) ∧ ((hI S b58 (l1 : Int32).toNatClampNeg) = 0 → J62 S) ∧ (¬ ((hI S b58 (l1 : Int32).toNatClampNeg) = 0) → ∃ b63 : Nat, (hR S l0 26) = some b63 ∧ hK S b63 = 15 ∧ vp_in l1 (hN S b63) ∧ J62 (sI S b63 (l1 : Int32).toNatClampNeg 5)))
def wp_X12_begins_L266 (l0 : Nat) (Q : Hp → Prop) : Nat → Hp → Int32 → Prop
  | 0, _, _ => False
  | n + 1, S, l1 => hK S l0 = 14 ∧ ((hI S l0 4) ≤ l1 → Q S) ∧ (¬ ((hI S l0 4) ≤ l1) → ∃ b86 : Nat, (hR S l0 26) = some b86 ∧ hK S b86 = 15 ∧ vp_in l1 (hN S b86) ∧ ((hI S b86 (l1 : Int32).toNatClampNeg) = 5 → wp_X12_tells S l0 l1 6 (fun S90 => wp_X12_begins_L266 l0 Q n S90 (l1 + 1))) ∧ (¬ ((hI S b86 (l1 : Int32).toNatClampNeg) = 5) → wp_X12_begins_L266 l0 Q n S (l1 + 1)))
def wp_X12_begins (S : Hp) (a0 : Nat) (Q : Hp → Prop) : Prop := hK S a0 = 14 ∧ wp_X12_begins_L17 a0 (fun (S7 : Hp) => wp_X12_begins_L38 a0 (fun (S16 : Hp) => wp_X12_begins_L66 a0 (fun (S25 : Hp) => wp_X12_begins_L93 a0 (fun (S46 : Hp) => wp_X12_begins_L151 a0 (fun (S55 : Hp) => wp_X12_begins_L178 a0 (fun (S83 : Hp) => wp_X12_begins_L266 a0 Q FU S83 0) Q FU S55 0) Q FU S46 0) Q FU S25 0) Q FU S16 0) Q FU S7 0) Q FU (sI (sI (sI S a0 25 0) a0 24 0) a0 39 0) 0
set_option maxRecDepth 100000 in
set_option maxHeartbeats 4000000 in
theorem w_X12_begins_L17 {p : Program} {l : Launch} {e : Env} {s : State} {m : MethodId} {args : Array Value} {below : List Frame} {meth : Method} {c : Code} {G : GX} {Q : Hp → Prop} {K36 : Hp → Prop} {l0 : Nat} (C : Cx p s m args meth c cX12_begins 3 RX12 none "begins" G)
    (k36 : ∀ (S : Hp) (H : Heap) (locs : List Loc) (ls : Array Slot), wd G S H → va_S G.2.2.1 s.heap H locs → LV ls 3 → ls[0]? = some (.val (va_rf (some l0))) → K36 S → W p l e ({ frames := 1, cells := 0, slots := 0, locals := 25 } : Room) s m args below meth c H locs 0 0 (MQ below (QV G Q) args s 0 0 G.2.2.1) (F0 m 36 ls [])) :
    ∀ (n : Nat) (S : Hp) (l1 : Int32) (H : Heap) (locs : List Loc) (ls : Array Slot), wd G S H → va_S G.2.2.1 s.heap H locs → LV ls 3 → ls[0]? = some (.val (va_rf (some l0))) → ls[1]? = some (.val (.int l1)) → wp_X12_begins_L17 l0 K36 Q n S l1 → W p l e ({ frames := 1, cells := 0, slots := 0, locals := 25 } : Room) s m args below meth c H locs 0 0 (MQ below (QV G Q) args s 0 0 G.2.2.1) (F0 m 17 ls []) := by
  intro n
  induction n with
  | zero =>
    intro S l1 H locs ls hW hS hL h0 h1 hw
    exact False.elim hw
  | succ n ih =>
    intro S l1 H locs ls hW hS hL h0 h1 hw
    unfold wp_X12_begins_L17 at hw
    refine lv_iload_n C.1 C.2.1 dX12_begins_17 rfl h1 ?_
    refine lv_bipush (v := 32) C.1 C.2.1 dX12_begins_18 (by decide) ?_
    refine lv_icmp_ge (tgt := 36) C.1 C.2.1 dX12_begins_20 (by decide) (fun hc2 => ?_) (fun hc2 => ?_)
    · have hw := hw.1 hc2
      exact k36 S H locs ls hW hS hL h0 hw
    · have hw := hw.2 hc2
      refine m_aldN C dX12_begins_23 rfl h0 ?_
      obtain ⟨hk3, hw⟩ := hw
      refine m_getR C hW rfl hk3 f_X12_81 rfl dX12_begins_24 ?_
      refine lv_iload_n C.1 C.2.1 dX12_begins_27 rfl h1 ?_
      refine lv_iconst (v := (-1)) C.1 C.2.1 dX12_begins_28 (by decide) ?_
      obtain ⟨b4, ho4, hw⟩ := hw
      obtain ⟨hk5, hw⟩ := hw
      obtain ⟨hi6, hw⟩ := hw
      refine m_iast C hW hS ho4 hk5 hi6 dX12_begins_29 (fun H locs hW hS => ?_)
      refine m_iinc (v := (l1 + 1)) C hL dX12_begins_30 h1 rfl (by decide) (fun ls hL hn9 hk9 => ?_)
      have h0 := hk9 0 _ h0 (by decide) (Or.inr (va_rf_cat _))
      have h1 := hn9
      refine lv_goto (tgt := 17) C.1 C.2.1 dX12_begins_33 (by decide) ?_
      exact ih (sI S b4 (l1 : Int32).toNatClampNeg (-1)) (l1 + 1) H locs ls hW hS hL h0 h1 hw
set_option maxRecDepth 100000 in
set_option maxHeartbeats 4000000 in
theorem w_X12_begins_L38 {p : Program} {l : Launch} {e : Env} {s : State} {m : MethodId} {args : Array Value} {below : List Frame} {meth : Method} {c : Code} {G : GX} {Q : Hp → Prop} {K64 : Hp → Prop} {l0 : Nat} (C : Cx p s m args meth c cX12_begins 3 RX12 none "begins" G)
    (k64 : ∀ (S : Hp) (H : Heap) (locs : List Loc) (ls : Array Slot), wd G S H → va_S G.2.2.1 s.heap H locs → LV ls 3 → ls[0]? = some (.val (va_rf (some l0))) → K64 S → W p l e ({ frames := 1, cells := 0, slots := 0, locals := 25 } : Room) s m args below meth c H locs 0 0 (MQ below (QV G Q) args s 0 0 G.2.2.1) (F0 m 64 ls [])) :
    ∀ (n : Nat) (S : Hp) (l1 : Int32) (H : Heap) (locs : List Loc) (ls : Array Slot), wd G S H → va_S G.2.2.1 s.heap H locs → LV ls 3 → ls[0]? = some (.val (va_rf (some l0))) → ls[1]? = some (.val (.int l1)) → wp_X12_begins_L38 l0 K64 Q n S l1 → W p l e ({ frames := 1, cells := 0, slots := 0, locals := 25 } : Room) s m args below meth c H locs 0 0 (MQ below (QV G Q) args s 0 0 G.2.2.1) (F0 m 38 ls []) := by
  intro n
  induction n with
  | zero =>
    intro S l1 H locs ls hW hS hL h0 h1 hw
    exact False.elim hw
  | succ n ih =>
    intro S l1 H locs ls hW hS hL h0 h1 hw
    unfold wp_X12_begins_L38 at hw
    refine lv_iload_n C.1 C.2.1 dX12_begins_38 rfl h1 ?_
    refine lv_bipush (v := 40) C.1 C.2.1 dX12_begins_39 (by decide) ?_
    refine lv_icmp_ge (tgt := 64) C.1 C.2.1 dX12_begins_41 (by decide) (fun hc8 => ?_) (fun hc8 => ?_)
    · have hw := hw.1 hc8
      exact k64 S H locs ls hW hS hL h0 hw
    · have hw := hw.2 hc8
      refine m_aldN C dX12_begins_44 rfl h0 ?_
      obtain ⟨hk9, hw⟩ := hw
      refine m_getR C hW rfl hk9 f_X12_84 rfl dX12_begins_45 ?_
      refine lv_iload_n C.1 C.2.1 dX12_begins_48 rfl h1 ?_
      refine lv_iconst (v := (-1)) C.1 C.2.1 dX12_begins_49 (by decide) ?_
      obtain ⟨b10, ho10, hw⟩ := hw
      obtain ⟨hk11, hw⟩ := hw
      obtain ⟨hi12, hw⟩ := hw
      refine m_iast C hW hS ho10 hk11 hi12 dX12_begins_50 (fun H locs hW hS => ?_)
      refine m_aldN C dX12_begins_51 rfl h0 ?_
      refine m_getR C hW rfl hk9 f_X12_87 rfl dX12_begins_52 ?_
      refine lv_iload_n C.1 C.2.1 dX12_begins_55 rfl h1 ?_
      refine lv_iconst (v := (-1)) C.1 C.2.1 dX12_begins_56 (by decide) ?_
      obtain ⟨b13, ho13, hw⟩ := hw
      obtain ⟨hk14, hw⟩ := hw
      obtain ⟨hi15, hw⟩ := hw
      refine m_iast C hW hS ho13 hk14 hi15 dX12_begins_57 (fun H locs hW hS => ?_)
      refine m_iinc (v := (l1 + 1)) C hL dX12_begins_58 h1 rfl (by decide) (fun ls hL hn9 hk9 => ?_)
      have h0 := hk9 0 _ h0 (by decide) (Or.inr (va_rf_cat _))
      have h1 := hn9
      refine lv_goto (tgt := 38) C.1 C.2.1 dX12_begins_61 (by decide) ?_
      exact ih (sI (sI S b10 (l1 : Int32).toNatClampNeg (-1)) b13 (l1 : Int32).toNatClampNeg (-1)) (l1 + 1) H locs ls hW hS hL h0 h1 hw
set_option maxRecDepth 100000 in
set_option maxHeartbeats 4000000 in
theorem w_X12_begins_L66 {p : Program} {l : Launch} {e : Env} {s : State} {m : MethodId} {args : Array Value} {below : List Frame} {meth : Method} {c : Code} {G : GX} {Q : Hp → Prop} {K91 : Hp → Prop} {l0 : Nat} (C : Cx p s m args meth c cX12_begins 3 RX12 none "begins" G)
    (k91 : ∀ (S : Hp) (H : Heap) (locs : List Loc) (ls : Array Slot), wd G S H → va_S G.2.2.1 s.heap H locs → LV ls 3 → ls[0]? = some (.val (va_rf (some l0))) → K91 S → W p l e ({ frames := 1, cells := 0, slots := 0, locals := 25 } : Room) s m args below meth c H locs 0 0 (MQ below (QV G Q) args s 0 0 G.2.2.1) (F0 m 91 ls [])) :
    ∀ (n : Nat) (S : Hp) (l1 : Int32) (H : Heap) (locs : List Loc) (ls : Array Slot), wd G S H → va_S G.2.2.1 s.heap H locs → LV ls 3 → ls[0]? = some (.val (va_rf (some l0))) → ls[1]? = some (.val (.int l1)) → wp_X12_begins_L66 l0 K91 Q n S l1 → W p l e ({ frames := 1, cells := 0, slots := 0, locals := 25 } : Room) s m args below meth c H locs 0 0 (MQ below (QV G Q) args s 0 0 G.2.2.1) (F0 m 66 ls []) := by
  intro n
  induction n with
  | zero =>
    intro S l1 H locs ls hW hS hL h0 h1 hw
    exact False.elim hw
  | succ n ih =>
    intro S l1 H locs ls hW hS hL h0 h1 hw
    unfold wp_X12_begins_L66 at hw
    refine lv_iload_n C.1 C.2.1 dX12_begins_66 rfl h1 ?_
    refine lv_bipush (v := 60) C.1 C.2.1 dX12_begins_67 (by decide) ?_
    refine lv_icmp_ge (tgt := 91) C.1 C.2.1 dX12_begins_69 (by decide) (fun hc17 => ?_) (fun hc17 => ?_)
    · have hw := hw.1 hc17
      exact k91 S H locs ls hW hS hL h0 hw
    · have hw := hw.2 hc17
      refine m_aldN C dX12_begins_72 rfl h0 ?_
      obtain ⟨hk18, hw⟩ := hw
      refine m_getR C hW rfl hk18 f_X12_90 rfl dX12_begins_73 ?_
      refine lv_iload_n C.1 C.2.1 dX12_begins_76 rfl h1 ?_
      refine m_aldN C dX12_begins_77 rfl h0 ?_
      refine m_getR C hW rfl hk18 f_X12_13 rfl dX12_begins_78 ?_
      refine lv_iload_n C.1 C.2.1 dX12_begins_81 rfl h1 ?_
      obtain ⟨b19, ho19, hw⟩ := hw
      obtain ⟨hk20, hw⟩ := hw
      obtain ⟨hi21, hw⟩ := hw
      refine m_iald C hW ho19 hk20 hi21 dX12_begins_82 ?_
      refine lv_i2l (v := (((hI S b19 (l1 : Int32).toNatClampNeg) : Int32).toInt64)) C.1 C.2.1 dX12_begins_83 rfl ?_
      obtain ⟨b22, ho22, hw⟩ := hw
      obtain ⟨hk23, hw⟩ := hw
      obtain ⟨hi24, hw⟩ := hw
      refine m_last C hW hS ho22 hk23 hi24 dX12_begins_84 (fun H locs hW hS => ?_)
      refine m_iinc (v := (l1 + 1)) C hL dX12_begins_85 h1 rfl (by decide) (fun ls hL hn9 hk9 => ?_)
      have h0 := hk9 0 _ h0 (by decide) (Or.inr (va_rf_cat _))
      have h1 := hn9
      refine lv_goto (tgt := 66) C.1 C.2.1 dX12_begins_88 (by decide) ?_
      exact ih (sJ S b22 (l1 : Int32).toNatClampNeg (((hI S b19 (l1 : Int32).toNatClampNeg) : Int32).toInt64)) (l1 + 1) H locs ls hW hS hL h0 h1 hw
set_option maxRecDepth 100000 in
set_option maxHeartbeats 4000000 in
theorem w_X12_begins_L93 {p : Program} {l : Launch} {e : Env} {s : State} {m : MethodId} {args : Array Value} {below : List Frame} {meth : Method} {c : Code} {G : GX} {Q : Hp → Prop} {K149 : Hp → Prop} {l0 : Nat} (C : Cx p s m args meth c cX12_begins 3 RX12 none "begins" G)
    (k149 : ∀ (S : Hp) (H : Heap) (locs : List Loc) (ls : Array Slot), wd G S H → va_S G.2.2.1 s.heap H locs → LV ls 3 → ls[0]? = some (.val (va_rf (some l0))) → K149 S → W p l e ({ frames := 1, cells := 0, slots := 0, locals := 25 } : Room) s m args below meth c H locs 0 0 (MQ below (QV G Q) args s 0 0 G.2.2.1) (F0 m 149 ls [])) :
    ∀ (n : Nat) (S : Hp) (l1 : Int32) (H : Heap) (locs : List Loc) (ls : Array Slot), wd G S H → va_S G.2.2.1 s.heap H locs → LV ls 3 → ls[0]? = some (.val (va_rf (some l0))) → ls[1]? = some (.val (.int l1)) → wp_X12_begins_L93 l0 K149 Q n S l1 → W p l e ({ frames := 1, cells := 0, slots := 0, locals := 25 } : Room) s m args below meth c H locs 0 0 (MQ below (QV G Q) args s 0 0 G.2.2.1) (F0 m 93 ls []) := by
  intro n
  induction n with
  | zero =>
    intro S l1 H locs ls hW hS hL h0 h1 hw
    exact False.elim hw
  | succ n ih =>
    intro S l1 H locs ls hW hS hL h0 h1 hw
    unfold wp_X12_begins_L93 at hw
    refine lv_iload_n C.1 C.2.1 dX12_begins_93 rfl h1 ?_
    refine m_aldN C dX12_begins_94 rfl h0 ?_
    obtain ⟨hk26, hw⟩ := hw
    refine m_getI C hW rfl hk26 f_X12_128 rfl dX12_begins_95 ?_
    refine lv_icmp_ge (tgt := 149) C.1 C.2.1 dX12_begins_98 (by decide) (fun hc27 => ?_) (fun hc27 => ?_)
    · have hw := hw.1 hc27
      exact k149 S H locs ls hW hS hL h0 hw
    · have hw := hw.2 hc27
      refine m_aldN C dX12_begins_101 rfl h0 ?_
      refine m_getR C hW rfl hk26 f_X12_63 rfl dX12_begins_102 ?_
      refine lv_iload_n C.1 C.2.1 dX12_begins_105 rfl h1 ?_
      refine lv_iconst (v := 0) C.1 C.2.1 dX12_begins_106 (by decide) ?_
      obtain ⟨b28, ho28, hw⟩ := hw
      obtain ⟨hk29, hw⟩ := hw
      obtain ⟨hi30, hw⟩ := hw
      refine m_iast C hW hS ho28 hk29 hi30 dX12_begins_107 (fun H locs hW hS => ?_)
      refine m_aldN C dX12_begins_108 rfl h0 ?_
      refine m_getR C hW rfl hk26 f_X12_66 rfl dX12_begins_109 ?_
      refine lv_iload_n C.1 C.2.1 dX12_begins_112 rfl h1 ?_
      refine lv_iconst (v := (-1)) C.1 C.2.1 dX12_begins_113 (by decide) ?_
      obtain ⟨b31, ho31, hw⟩ := hw
      obtain ⟨hk32, hw⟩ := hw
      obtain ⟨hi33, hw⟩ := hw
      refine m_iast C hW hS ho31 hk32 hi33 dX12_begins_114 (fun H locs hW hS => ?_)
      refine m_aldN C dX12_begins_115 rfl h0 ?_
      refine m_getR C hW rfl hk26 f_X12_69 rfl dX12_begins_116 ?_
      refine lv_iload_n C.1 C.2.1 dX12_begins_119 rfl h1 ?_
      refine lv_iconst (v := (-1)) C.1 C.2.1 dX12_begins_120 (by decide) ?_
      obtain ⟨b34, ho34, hw⟩ := hw
      obtain ⟨hk35, hw⟩ := hw
      obtain ⟨hi36, hw⟩ := hw
      refine m_iast C hW hS ho34 hk35 hi36 dX12_begins_121 (fun H locs hW hS => ?_)
      refine m_aldN C dX12_begins_122 rfl h0 ?_
      refine m_getR C hW rfl hk26 f_X12_72 rfl dX12_begins_123 ?_
      refine lv_iload_n C.1 C.2.1 dX12_begins_126 rfl h1 ?_
      refine lv_iconst (v := (-1)) C.1 C.2.1 dX12_begins_127 (by decide) ?_
      obtain ⟨b37, ho37, hw⟩ := hw
      obtain ⟨hk38, hw⟩ := hw
      obtain ⟨hi39, hw⟩ := hw
      refine m_iast C hW hS ho37 hk38 hi39 dX12_begins_128 (fun H locs hW hS => ?_)
      refine m_aldN C dX12_begins_129 rfl h0 ?_
      refine m_getR C hW rfl hk26 f_X12_75 rfl dX12_begins_130 ?_
      refine lv_iload_n C.1 C.2.1 dX12_begins_133 rfl h1 ?_
      refine lv_iconst (v := 0) C.1 C.2.1 dX12_begins_134 (by decide) ?_
      obtain ⟨b40, ho40, hw⟩ := hw
      obtain ⟨hk41, hw⟩ := hw
      obtain ⟨hi42, hw⟩ := hw
      refine m_iast C hW hS ho40 hk41 hi42 dX12_begins_135 (fun H locs hW hS => ?_)
      refine m_aldN C dX12_begins_136 rfl h0 ?_
      refine m_getR C hW rfl hk26 f_X12_78 rfl dX12_begins_137 ?_
      refine lv_iload_n C.1 C.2.1 dX12_begins_140 rfl h1 ?_
      refine lv_iconst (v := 0) C.1 C.2.1 dX12_begins_141 (by decide) ?_
      obtain ⟨b43, ho43, hw⟩ := hw
      obtain ⟨hk44, hw⟩ := hw
      obtain ⟨hi45, hw⟩ := hw
      refine m_iast C hW hS ho43 hk44 hi45 dX12_begins_142 (fun H locs hW hS => ?_)
      refine m_iinc (v := (l1 + 1)) C hL dX12_begins_143 h1 rfl (by decide) (fun ls hL hn9 hk9 => ?_)
      have h0 := hk9 0 _ h0 (by decide) (Or.inr (va_rf_cat _))
      have h1 := hn9
      refine lv_goto (tgt := 93) C.1 C.2.1 dX12_begins_146 (by decide) ?_
      exact ih (sI (sI (sI (sI (sI (sI S b28 (l1 : Int32).toNatClampNeg 0) b31 (l1 : Int32).toNatClampNeg (-1)) b34 (l1 : Int32).toNatClampNeg (-1)) b37 (l1 : Int32).toNatClampNeg (-1)) b40 (l1 : Int32).toNatClampNeg 0) b43 (l1 : Int32).toNatClampNeg 0) (l1 + 1) H locs ls hW hS hL h0 h1 hw
set_option maxRecDepth 100000 in
set_option maxHeartbeats 4000000 in
theorem w_X12_begins_L151 {p : Program} {l : Launch} {e : Env} {s : State} {m : MethodId} {args : Array Value} {below : List Frame} {meth : Method} {c : Code} {G : GX} {Q : Hp → Prop} {K176 : Hp → Prop} {l0 : Nat} (C : Cx p s m args meth c cX12_begins 3 RX12 none "begins" G)
    (k176 : ∀ (S : Hp) (H : Heap) (locs : List Loc) (ls : Array Slot), wd G S H → va_S G.2.2.1 s.heap H locs → LV ls 3 → ls[0]? = some (.val (va_rf (some l0))) → K176 S → W p l e ({ frames := 1, cells := 0, slots := 0, locals := 25 } : Room) s m args below meth c H locs 0 0 (MQ below (QV G Q) args s 0 0 G.2.2.1) (F0 m 176 ls [])) :
    ∀ (n : Nat) (S : Hp) (l1 : Int32) (H : Heap) (locs : List Loc) (ls : Array Slot), wd G S H → va_S G.2.2.1 s.heap H locs → LV ls 3 → ls[0]? = some (.val (va_rf (some l0))) → ls[1]? = some (.val (.int l1)) → wp_X12_begins_L151 l0 K176 Q n S l1 → W p l e ({ frames := 1, cells := 0, slots := 0, locals := 25 } : Room) s m args below meth c H locs 0 0 (MQ below (QV G Q) args s 0 0 G.2.2.1) (F0 m 151 ls []) := by
  intro n
  induction n with
  | zero =>
    intro S l1 H locs ls hW hS hL h0 h1 hw
    exact False.elim hw
  | succ n ih =>
    intro S l1 H locs ls hW hS hL h0 h1 hw
    unfold wp_X12_begins_L151 at hw
    refine lv_iload_n C.1 C.2.1 dX12_begins_151 rfl h1 ?_
    refine m_aldN C dX12_begins_152 rfl h0 ?_
    obtain ⟨hk47, hw⟩ := hw
    refine m_getI C hW rfl hk47 f_X12_128 rfl dX12_begins_153 ?_
    refine lv_icmp_ge (tgt := 176) C.1 C.2.1 dX12_begins_156 (by decide) (fun hc48 => ?_) (fun hc48 => ?_)
    · have hw := hw.1 hc48
      exact k176 S H locs ls hW hS hL h0 hw
    · have hw := hw.2 hc48
      refine m_aldN C dX12_begins_159 rfl h0 ?_
      refine m_getR C hW rfl hk47 f_X12_112 rfl dX12_begins_160 ?_
      refine lv_iload_n C.1 C.2.1 dX12_begins_163 rfl h1 ?_
      refine m_aldN C dX12_begins_164 rfl h0 ?_
      refine lv_iload_n C.1 C.2.1 dX12_begins_165 rfl h1 ?_
      refine m_rI (m_runV (As := [.int l1]) (rest := [.int l1, va_rf (hR S l0 44)]) C hW hS hL (c_X12_isHopeless hw) v_X12_208 ⟨rfl, rfl⟩ ⟨Nat.le_of_ble_eq_true rfl, Nat.le_of_ble_eq_true rfl⟩ rfl hk47 rfl rfl (by simp only [List.map_cons, List.map_nil, va_rf_cat, List.sum_cons, List.sum_nil] <;> exact Nat.le_of_ble_eq_true rfl) dX12_begins_166 ⟨Nat.le_of_ble_eq_true rfl, Nat.le_of_ble_eq_true rfl⟩) hS (fun r50 S49 H locs hw hW hS => ?_)
      obtain ⟨b51, ho51, hw⟩ := hw
      obtain ⟨hk52, hw⟩ := hw
      obtain ⟨hi53, hw⟩ := hw
      obtain ⟨hz54, hw⟩ := hw
      refine m_zast C hW hS ho51 hk52 hi53 hz54 dX12_begins_169 (fun H locs hW hS => ?_)
      refine m_iinc (v := (l1 + 1)) C hL dX12_begins_170 h1 rfl (by decide) (fun ls hL hn9 hk9 => ?_)
      have h0 := hk9 0 _ h0 (by decide) (Or.inr (va_rf_cat _))
      have h1 := hn9
      refine lv_goto (tgt := 151) C.1 C.2.1 dX12_begins_173 (by decide) ?_
      exact ih (sI S49 b51 (l1 : Int32).toNatClampNeg r50) (l1 + 1) H locs ls hW hS hL h0 h1 hw
set_option maxRecDepth 100000 in
set_option maxHeartbeats 4000000 in
theorem w_X12_begins_L204 {p : Program} {l : Launch} {e : Env} {s : State} {m : MethodId} {args : Array Value} {below : List Frame} {meth : Method} {c : Code} {G : GX} {Q : Hp → Prop} {K258 : Hp → Prop} {l0 : Nat} {l1 : Int32} (C : Cx p s m args meth c cX12_begins 3 RX12 none "begins" G)
    (k258 : ∀ (S : Hp) (H : Heap) (locs : List Loc) (ls : Array Slot), wd G S H → va_S G.2.2.1 s.heap H locs → LV ls 3 → ls[0]? = some (.val (va_rf (some l0))) → ls[1]? = some (.val (.int l1)) → K258 S → W p l e ({ frames := 1, cells := 0, slots := 0, locals := 25 } : Room) s m args below meth c H locs 0 0 (MQ below (QV G Q) args s 0 0 G.2.2.1) (F0 m 258 ls [])) :
    ∀ (n : Nat) (S : Hp) (l2 : Int32) (H : Heap) (locs : List Loc) (ls : Array Slot), wd G S H → va_S G.2.2.1 s.heap H locs → LV ls 3 → ls[0]? = some (.val (va_rf (some l0))) → ls[1]? = some (.val (.int l1)) → ls[2]? = some (.val (.int l2)) → wp_X12_begins_L204 l0 l1 K258 Q n S l2 → W p l e ({ frames := 1, cells := 0, slots := 0, locals := 25 } : Room) s m args below meth c H locs 0 0 (MQ below (QV G Q) args s 0 0 G.2.2.1) (F0 m 204 ls []) := by
  intro n
  induction n with
  | zero =>
    intro S l2 H locs ls hW hS hL h0 h1 h2 hw
    exact False.elim hw
  | succ n ih =>
    intro S l2 H locs ls hW hS hL h0 h1 h2 hw
    unfold wp_X12_begins_L204 at hw
    refine lv_iload_n C.1 C.2.1 dX12_begins_204 rfl h2 ?_
    refine m_aldN C dX12_begins_205 rfl h0 ?_
    obtain ⟨hk67, hw⟩ := hw
    refine m_getI C hW rfl hk67 f_X12_128 rfl dX12_begins_206 ?_
    refine lv_icmp_ge (tgt := 258) C.1 C.2.1 dX12_begins_209 (by decide) (fun hc68 => ?_) (fun hc68 => ?_)
    · have hw := hw.1 hc68
      exact k258 S H locs ls hW hS hL h0 h1 hw
    · have hw := hw.2 hc68
      refine m_aldN C dX12_begins_212 rfl h0 ?_
      refine m_getR C hW rfl hk67 f_X12_63 rfl dX12_begins_213 ?_
      refine lv_iload_n C.1 C.2.1 dX12_begins_216 rfl h1 ?_
      obtain ⟨b69, ho69, hw⟩ := hw
      obtain ⟨hk70, hw⟩ := hw
      obtain ⟨hi71, hw⟩ := hw
      refine m_iald C hW ho69 hk70 hi71 dX12_begins_217 ?_
      refine lv_if_ne (tgt := 258) C.1 C.2.1 dX12_begins_218 (by decide) (fun hc72 => ?_) (fun hc72 => ?_)
      · have hw := hw.2 hc72
        exact k258 S H locs ls hW hS hL h0 h1 hw
      · have hw := hw.1 hc72
        refine m_aldN C dX12_begins_221 rfl h0 ?_
        refine m_getR C hW rfl hk67 f_X12_30 rfl dX12_begins_222 ?_
        refine lv_sipush (v := 200) C.1 C.2.1 dX12_begins_225 (by decide) ?_
        refine lv_iload_n C.1 C.2.1 dX12_begins_228 rfl h1 ?_
        refine lv_imul C.1 C.2.1 dX12_begins_229 ?_
        refine lv_iload_n C.1 C.2.1 dX12_begins_230 rfl h2 ?_
        refine lv_iadd C.1 C.2.1 dX12_begins_231 ?_
        obtain ⟨b73, ho73, hw⟩ := hw
        obtain ⟨hk74, hw⟩ := hw
        obtain ⟨hi75, hw⟩ := hw
        refine m_zald C hW ho73 hk74 hi75 dX12_begins_232 ?_
        refine lv_if_eq (tgt := 252) C.1 C.2.1 dX12_begins_233 (by decide) (fun hc76 => ?_) (fun hc76 => ?_)
        · have hw := hw.1 hc76
          refine m_iinc (v := (l2 + 1)) C hL dX12_begins_252 h2 rfl (by decide) (fun ls hL hn9 hk9 => ?_)
          have h0 := hk9 0 _ h0 (by decide) (Or.inl (by decide))
          have h1 := hk9 1 _ h1 (by decide) (Or.inr (rfl))
          have h2 := hn9
          refine lv_goto (tgt := 204) C.1 C.2.1 dX12_begins_255 (by decide) ?_
          exact ih S (l2 + 1) H locs ls hW hS hL h0 h1 h2 hw
        · have hw := hw.2 hc76
          refine m_aldN C dX12_begins_236 rfl h0 ?_
          refine m_getR C hW rfl hk67 f_X12_112 rfl dX12_begins_237 ?_
          refine lv_iload_n C.1 C.2.1 dX12_begins_240 rfl h2 ?_
          obtain ⟨b77, ho77, hw⟩ := hw
          obtain ⟨hk78, hw⟩ := hw
          obtain ⟨hi79, hw⟩ := hw
          refine m_zald C hW ho77 hk78 hi79 dX12_begins_241 ?_
          refine lv_if_eq (tgt := 252) C.1 C.2.1 dX12_begins_242 (by decide) (fun hc80 => ?_) (fun hc80 => ?_)
          · have hw := hw.1 hc80
            refine m_iinc (v := (l2 + 1)) C hL dX12_begins_252 h2 rfl (by decide) (fun ls hL hn9 hk9 => ?_)
            have h0 := hk9 0 _ h0 (by decide) (Or.inl (by decide))
            have h1 := hk9 1 _ h1 (by decide) (Or.inr (rfl))
            have h2 := hn9
            refine lv_goto (tgt := 204) C.1 C.2.1 dX12_begins_255 (by decide) ?_
            exact ih S (l2 + 1) H locs ls hW hS hL h0 h1 h2 hw
          · have hw := hw.2 hc80
            refine m_aldN C dX12_begins_245 rfl h0 ?_
            refine m_getR C hW rfl hk67 f_X12_63 rfl dX12_begins_246 ?_
            refine lv_iload_n C.1 C.2.1 dX12_begins_249 rfl h1 ?_
            refine lv_iconst (v := 5) C.1 C.2.1 dX12_begins_250 (by decide) ?_
            obtain ⟨hi81, hw⟩ := hw
            refine m_iast C hW hS ho69 hk70 hi81 dX12_begins_251 (fun H locs hW hS => ?_)
            refine m_iinc (v := (l2 + 1)) C hL dX12_begins_252 h2 rfl (by decide) (fun ls hL hn9 hk9 => ?_)
            have h0 := hk9 0 _ h0 (by decide) (Or.inl (by decide))
            have h1 := hk9 1 _ h1 (by decide) (Or.inr (rfl))
            have h2 := hn9
            refine lv_goto (tgt := 204) C.1 C.2.1 dX12_begins_255 (by decide) ?_
            exact ih (sI S b69 (l1 : Int32).toNatClampNeg 5) (l2 + 1) H locs ls hW hS hL h0 h1 h2 hw
set_option maxRecDepth 100000 in
set_option maxHeartbeats 4000000 in
theorem w_X12_begins_L178 {p : Program} {l : Launch} {e : Env} {s : State} {m : MethodId} {args : Array Value} {below : List Frame} {meth : Method} {c : Code} {G : GX} {Q : Hp → Prop} {K264 : Hp → Prop} {l0 : Nat} (C : Cx p s m args meth c cX12_begins 3 RX12 none "begins" G)
    (k264 : ∀ (S : Hp) (H : Heap) (locs : List Loc) (ls : Array Slot), wd G S H → va_S G.2.2.1 s.heap H locs → LV ls 3 → ls[0]? = some (.val (va_rf (some l0))) → K264 S → W p l e ({ frames := 1, cells := 0, slots := 0, locals := 25 } : Room) s m args below meth c H locs 0 0 (MQ below (QV G Q) args s 0 0 G.2.2.1) (F0 m 264 ls [])) :
    ∀ (n : Nat) (S : Hp) (l1 : Int32) (H : Heap) (locs : List Loc) (ls : Array Slot), wd G S H → va_S G.2.2.1 s.heap H locs → LV ls 3 → ls[0]? = some (.val (va_rf (some l0))) → ls[1]? = some (.val (.int l1)) → wp_X12_begins_L178 l0 K264 Q n S l1 → W p l e ({ frames := 1, cells := 0, slots := 0, locals := 25 } : Room) s m args below meth c H locs 0 0 (MQ below (QV G Q) args s 0 0 G.2.2.1) (F0 m 178 ls []) := by
  intro n
  induction n with
  | zero =>
    intro S l1 H locs ls hW hS hL h0 h1 hw
    exact False.elim hw
  | succ n ih =>
    intro S l1 H locs ls hW hS hL h0 h1 hw
    unfold wp_X12_begins_L178 at hw
    refine lv_iload_n C.1 C.2.1 dX12_begins_178 rfl h1 ?_
    refine m_aldN C dX12_begins_179 rfl h0 ?_
    obtain ⟨hk56, hw⟩ := hw
    refine m_getI C hW rfl hk56 f_X12_128 rfl dX12_begins_180 ?_
    refine lv_icmp_ge (tgt := 264) C.1 C.2.1 dX12_begins_183 (by decide) (fun hc57 => ?_) (fun hc57 => ?_)
    · have hw := hw.1 hc57
      exact k264 S H locs ls hW hS hL h0 hw
    · have hw := hw.2 hc57
      refine m_aldN C dX12_begins_186 rfl h0 ?_
      refine m_getR C hW rfl hk56 f_X12_112 rfl dX12_begins_187 ?_
      refine lv_iload_n C.1 C.2.1 dX12_begins_190 rfl h1 ?_
      obtain ⟨b58, ho58, hw⟩ := hw
      obtain ⟨hk59, hw⟩ := hw
      obtain ⟨hi60, hw⟩ := hw
      refine m_zald C hW ho58 hk59 hi60 dX12_begins_191 ?_
      obtain ⟨J62, eJ62, hw⟩ := hw
      have wJ62 : ∀ (S66 : Hp) (H : Heap) (locs : List Loc) (ls : Array Slot), wd G S66 H → va_S G.2.2.1 s.heap H locs → LV ls 3 → ls[0]? = some (.val (va_rf (some l0))) → ls[1]? = some (.val (.int l1)) → J62 S66 → W p l e ({ frames := 1, cells := 0, slots := 0, locals := 25 } : Room) s m args below meth c H locs 0 0 (MQ below (QV G Q) args s 0 0 G.2.2.1) (F0 m 202 ls []) := by
        intro S66 H locs ls hW hS hL h0 h1 hw
        rw [eJ62] at hw
        refine lv_iconst (v := 0) C.1 C.2.1 dX12_begins_202 (by decide) ?_
        refine m_istN C hL dX12_begins_203 rfl (by decide) (fun ls hL hn9 hk9 => ?_)
        have h0 := hk9 0 _ h0 (by decide) (Or.inl (by decide))
        have h1 := hk9 1 _ h1 (by decide) (Or.inr (rfl))
        have h2 := hn9
        refine w_X12_begins_L204 C ?_ FU S66 0 H locs ls hW hS hL h0 h1 h2 hw
        · intro S82 H locs ls hW hS hL h0 h1 hw
          refine m_iinc (v := (l1 + 1)) C hL dX12_begins_258 h1 rfl (by decide) (fun ls hL hn9 hk9 => ?_)
          have h0 := hk9 0 _ h0 (by decide) (Or.inr (va_rf_cat _))
          have h1 := hn9
          refine lv_goto (tgt := 178) C.1 C.2.1 dX12_begins_261 (by decide) ?_
          exact ih S82 (l1 + 1) H locs ls hW hS hL h0 h1 hw
      refine lv_if_eq (tgt := 202) C.1 C.2.1 dX12_begins_192 (by decide) (fun hc61 => ?_) (fun hc61 => ?_)
      · have hw := hw.1 hc61
        exact wJ62 S H locs ls hW hS hL h0 h1 hw
      · have hw := hw.2 hc61
        refine m_aldN C dX12_begins_195 rfl h0 ?_
        refine m_getR C hW rfl hk56 f_X12_63 rfl dX12_begins_196 ?_
        refine lv_iload_n C.1 C.2.1 dX12_begins_199 rfl h1 ?_
        refine lv_iconst (v := 5) C.1 C.2.1 dX12_begins_200 (by decide) ?_
        obtain ⟨b63, ho63, hw⟩ := hw
        obtain ⟨hk64, hw⟩ := hw
        obtain ⟨hi65, hw⟩ := hw
        refine m_iast C hW hS ho63 hk64 hi65 dX12_begins_201 (fun H locs hW hS => ?_)
        exact wJ62 (sI S b63 (l1 : Int32).toNatClampNeg 5) H locs ls hW hS hL h0 h1 hw
set_option maxRecDepth 100000 in
set_option maxHeartbeats 4000000 in
theorem w_X12_begins_L266 {p : Program} {l : Launch} {e : Env} {s : State} {m : MethodId} {args : Array Value} {below : List Frame} {meth : Method} {c : Code} {G : GX} {Q : Hp → Prop} {l0 : Nat} (C : Cx p s m args meth c cX12_begins 3 RX12 none "begins" G) :
    ∀ (n : Nat) (S : Hp) (l1 : Int32) (H : Heap) (locs : List Loc) (ls : Array Slot), wd G S H → va_S G.2.2.1 s.heap H locs → LV ls 3 → ls[0]? = some (.val (va_rf (some l0))) → ls[1]? = some (.val (.int l1)) → wp_X12_begins_L266 l0 Q n S l1 → W p l e ({ frames := 1, cells := 0, slots := 0, locals := 25 } : Room) s m args below meth c H locs 0 0 (MQ below (QV G Q) args s 0 0 G.2.2.1) (F0 m 266 ls []) := by
  intro n
  induction n with
  | zero =>
    intro S l1 H locs ls hW hS hL h0 h1 hw
    exact False.elim hw
  | succ n ih =>
    intro S l1 H locs ls hW hS hL h0 h1 hw
    unfold wp_X12_begins_L266 at hw
    refine lv_iload_n C.1 C.2.1 dX12_begins_266 rfl h1 ?_
    refine m_aldN C dX12_begins_267 rfl h0 ?_
    obtain ⟨hk84, hw⟩ := hw
    refine m_getI C hW rfl hk84 f_X12_128 rfl dX12_begins_268 ?_
    refine lv_icmp_ge (tgt := 297) C.1 C.2.1 dX12_begins_271 (by decide) (fun hc85 => ?_) (fun hc85 => ?_)
    · have hw := hw.1 hc85
      exact m_vret C hW hS hw dX12_begins_297
    · have hw := hw.2 hc85
      refine m_aldN C dX12_begins_274 rfl h0 ?_
      refine m_getR C hW rfl hk84 f_X12_63 rfl dX12_begins_275 ?_
      refine lv_iload_n C.1 C.2.1 dX12_begins_278 rfl h1 ?_
      obtain ⟨b86, ho86, hw⟩ := hw
      obtain ⟨hk87, hw⟩ := hw
      obtain ⟨hi88, hw⟩ := hw
      refine m_iald C hW ho86 hk87 hi88 dX12_begins_279 ?_
      refine lv_iconst (v := 5) C.1 C.2.1 dX12_begins_280 (by decide) ?_
      refine lv_icmp_ne (tgt := 291) C.1 C.2.1 dX12_begins_281 (by decide) (fun hc89 => ?_) (fun hc89 => ?_)
      · have hw := hw.2 hc89
        refine m_iinc (v := (l1 + 1)) C hL dX12_begins_291 h1 rfl (by decide) (fun ls hL hn9 hk9 => ?_)
        have h0 := hk9 0 _ h0 (by decide) (Or.inr (va_rf_cat _))
        have h1 := hn9
        refine lv_goto (tgt := 266) C.1 C.2.1 dX12_begins_294 (by decide) ?_
        exact ih S (l1 + 1) H locs ls hW hS hL h0 h1 hw
      · have hw := hw.1 hc89
        refine m_aldN C dX12_begins_284 rfl h0 ?_
        refine lv_iload_n C.1 C.2.1 dX12_begins_285 rfl h1 ?_
        refine lv_bipush (v := 6) C.1 C.2.1 dX12_begins_286 (by decide) ?_
        refine m_rV (m_runV (As := [.int l1, .int 6]) (rest := []) C hW hS hL (c_X12_tells hw) v_X12_211 ⟨rfl, rfl⟩ ⟨Nat.le_of_ble_eq_true rfl, Nat.le_of_ble_eq_true rfl⟩ rfl hk84 rfl rfl (Nat.le_of_ble_eq_true rfl) dX12_begins_288 ⟨Nat.le_of_ble_eq_true rfl, Nat.le_of_ble_eq_true rfl⟩) hS (fun S90 H locs hw hW hS => ?_)
        refine m_iinc (v := (l1 + 1)) C hL dX12_begins_291 h1 rfl (by decide) (fun ls hL hn9 hk9 => ?_)
        have h0 := hk9 0 _ h0 (by decide) (Or.inr (va_rf_cat _))
        have h1 := hn9
        refine lv_goto (tgt := 266) C.1 C.2.1 dX12_begins_294 (by decide) ?_
        exact ih S90 (l1 + 1) H locs ls hW hS hL h0 h1 hw
set_option maxRecDepth 100000 in
set_option maxHeartbeats 4000000 in
theorem c_X12_begins {l : Launch} {G : GX} {S : Hp} {a0 : Nat} {Q : Hp → Prop} (hw : wp_X12_begins S a0 Q) : Met l yX12_begins (Cond.code yX12_begins cX12_begins 3 none :: TS) { frames := 1, cells := 0, slots := 0, locals := 25 } (Pk G S [va_rf (some a0)]) (QV G Q) 0 0 G.2.2.1 := by
  refine m_met (by decide) ?_
  intro p e s m below meth c H locs C hW hS
  have C : Cx p s m ([va_rf (some a0)] : List Value).toArray meth c cX12_begins 3 RX12 none "begins" G := C
  obtain ⟨ls, hent, hL, hla⟩ := m_entry m (vs := [va_rf (some a0)]) (nn := 3) [1] rfl (by decide)
  rw [hent]
  have h0 : ls[0]? = some (.val (va_rf (some a0))) := hla (0, va_rf (some a0)) (List.mem_of_getElem? (i := 0) rfl)
  clear hla
  generalize ([va_rf (some a0)] : List Value).toArray = args at C ⊢
  unfold wp_X12_begins at hw
  refine m_aldN C dX12_begins_0 rfl h0 ?_
  refine lv_iconst (v := 0) C.1 C.2.1 dX12_begins_1 (by decide) ?_
  obtain ⟨hk1, hw⟩ := hw
  refine m_putI C hW hS rfl hk1 p_X12_199 (fun z => by cases z) rfl dX12_begins_2 (fun H locs hW hS => ?_)
  refine m_aldN C dX12_begins_5 rfl h0 ?_
  refine lv_iconst (v := 0) C.1 C.2.1 dX12_begins_6 (by decide) ?_
  refine m_putI C hW hS rfl hk1 p_X12_202 (fun z => by cases z) rfl dX12_begins_7 (fun H locs hW hS => ?_)
  refine m_aldN C dX12_begins_10 rfl h0 ?_
  refine lv_iconst (v := 0) C.1 C.2.1 dX12_begins_11 (by decide) ?_
  refine m_putI C hW hS rfl hk1 p_X12_205 (fun z => by cases z) rfl dX12_begins_12 (fun H locs hW hS => ?_)
  refine lv_iconst (v := 0) C.1 C.2.1 dX12_begins_15 (by decide) ?_
  refine m_istN C hL dX12_begins_16 rfl (by decide) (fun ls hL hn9 hk9 => ?_)
  have h0 := hk9 0 _ h0 (by decide) (Or.inr (va_rf_cat _))
  have h1 := hn9
  refine w_X12_begins_L17 C ?_ FU (sI (sI (sI S a0 25 0) a0 24 0) a0 39 0) 0 H locs ls hW hS hL h0 h1 hw
  · intro S7 H locs ls hW hS hL h0 hw
    refine lv_iconst (v := 0) C.1 C.2.1 dX12_begins_36 (by decide) ?_
    refine m_istN C hL dX12_begins_37 rfl (by decide) (fun ls hL hn9 hk9 => ?_)
    have h0 := hk9 0 _ h0 (by decide) (Or.inr (va_rf_cat _))
    have h1 := hn9
    refine w_X12_begins_L38 C ?_ FU S7 0 H locs ls hW hS hL h0 h1 hw
    · intro S16 H locs ls hW hS hL h0 hw
      refine lv_iconst (v := 0) C.1 C.2.1 dX12_begins_64 (by decide) ?_
      refine m_istN C hL dX12_begins_65 rfl (by decide) (fun ls hL hn9 hk9 => ?_)
      have h0 := hk9 0 _ h0 (by decide) (Or.inr (va_rf_cat _))
      have h1 := hn9
      refine w_X12_begins_L66 C ?_ FU S16 0 H locs ls hW hS hL h0 h1 hw
      · intro S25 H locs ls hW hS hL h0 hw
        refine lv_iconst (v := 0) C.1 C.2.1 dX12_begins_91 (by decide) ?_
        refine m_istN C hL dX12_begins_92 rfl (by decide) (fun ls hL hn9 hk9 => ?_)
        have h0 := hk9 0 _ h0 (by decide) (Or.inr (va_rf_cat _))
        have h1 := hn9
        refine w_X12_begins_L93 C ?_ FU S25 0 H locs ls hW hS hL h0 h1 hw
        · intro S46 H locs ls hW hS hL h0 hw
          refine lv_iconst (v := 0) C.1 C.2.1 dX12_begins_149 (by decide) ?_
          refine m_istN C hL dX12_begins_150 rfl (by decide) (fun ls hL hn9 hk9 => ?_)
          have h0 := hk9 0 _ h0 (by decide) (Or.inr (va_rf_cat _))
          have h1 := hn9
          refine w_X12_begins_L151 C ?_ FU S46 0 H locs ls hW hS hL h0 h1 hw
          · intro S55 H locs ls hW hS hL h0 hw
            refine lv_iconst (v := 0) C.1 C.2.1 dX12_begins_176 (by decide) ?_
            refine m_istN C hL dX12_begins_177 rfl (by decide) (fun ls hL hn9 hk9 => ?_)
            have h0 := hk9 0 _ h0 (by decide) (Or.inr (va_rf_cat _))
            have h1 := hn9
            refine w_X12_begins_L178 C ?_ FU S55 0 H locs ls hW hS hL h0 h1 hw
            · intro S83 H locs ls hW hS hL h0 hw
              refine lv_iconst (v := 0) C.1 C.2.1 dX12_begins_264 (by decide) ?_
              refine m_istN C hL dX12_begins_265 rfl (by decide) (fun ls hL hn9 hk9 => ?_)
              have h0 := hk9 0 _ h0 (by decide) (Or.inr (va_rf_cat _))
              have h1 := hn9
              exact w_X12_begins_L266 C  FU S83 0 H locs ls hW hS hL h0 h1 hw
def wp_X12_endOf (S : Hp) (a0 : Nat) (a1 : Int32) (Q : Int32 → Hp → Prop) : Prop := hK S a0 = 14 ∧ ∃ b2 : Nat, (hR S a0 27) = some b2 ∧ hK S b2 = 15 ∧ vp_in a1 (hN S b2) ∧ ∃ b5 : Nat, (hR S a0 20) = some b5 ∧ hK S b5 = 15 ∧ vp_in a1 (hN S b5) ∧ ((hI S b5 (a1 : Int32).toNatClampNeg) ≤ 0 → ∃ b9 : Nat, (hR S a0 8) = some b9 ∧ hK S b9 = 15 ∧ vp_in a1 (hN S b9) ∧ Q ((hI S b2 (a1 : Int32).toNatClampNeg) + (hI S b9 (a1 : Int32).toNatClampNeg)) S) ∧ (¬ ((hI S b5 (a1 : Int32).toNatClampNeg) ≤ 0) → vp_in a1 (hN S b5) ∧ Q ((hI S b2 (a1 : Int32).toNatClampNeg) + (hI S b5 (a1 : Int32).toNatClampNeg)) S)
set_option maxRecDepth 100000 in
set_option maxHeartbeats 4000000 in
theorem c_X12_endOf {l : Launch} {G : GX} {S : Hp} {a0 : Nat} {a1 : Int32} {Q : Int32 → Hp → Prop} (hw : wp_X12_endOf S a0 a1 Q) : Met l yX12_endOf (Cond.code yX12_endOf cX12_endOf 2 (some .int) :: TS) { frames := 0, cells := 0, slots := 0, locals := 0 } (Pk G S [va_rf (some a0), .int a1]) (QI G Q) 0 0 G.2.2.1 := by
  refine m_met (by decide) ?_
  intro p e s m below meth c H locs C hW hS
  have C : Cx p s m ([va_rf (some a0), .int a1] : List Value).toArray meth c cX12_endOf 2 RX12 (some .int) "endOf" G := C
  obtain ⟨ls, hent, hL, hla⟩ := m_entry m (vs := [va_rf (some a0), .int a1]) (nn := 2) [1, 1] rfl (by decide)
  rw [hent]
  have h0 : ls[0]? = some (.val (va_rf (some a0))) := hla (0, va_rf (some a0)) (List.mem_of_getElem? (i := 0) rfl)
  have h1 : ls[1]? = some (.val (.int a1)) := hla (1, .int a1) (List.mem_of_getElem? (i := 1) rfl)
  clear hla
  generalize ([va_rf (some a0), .int a1] : List Value).toArray = args at C ⊢
  unfold wp_X12_endOf at hw
  refine m_aldN C dX12_endOf_0 rfl h0 ?_
  obtain ⟨hk1, hw⟩ := hw
  refine m_getR C hW rfl hk1 f_X12_66 rfl dX12_endOf_1 ?_
  refine lv_iload_n C.1 C.2.1 dX12_endOf_4 rfl h1 ?_
  obtain ⟨b2, ho2, hw⟩ := hw
  obtain ⟨hk3, hw⟩ := hw
  obtain ⟨hi4, hw⟩ := hw
  refine m_iald C hW ho2 hk3 hi4 dX12_endOf_5 ?_
  refine m_aldN C dX12_endOf_6 rfl h0 ?_
  refine m_getR C hW rfl hk1 f_X12_57 rfl dX12_endOf_7 ?_
  refine lv_iload_n C.1 C.2.1 dX12_endOf_10 rfl h1 ?_
  obtain ⟨b5, ho5, hw⟩ := hw
  obtain ⟨hk6, hw⟩ := hw
  obtain ⟨hi7, hw⟩ := hw
  refine m_iald C hW ho5 hk6 hi7 dX12_endOf_11 ?_
  refine lv_if_le (tgt := 24) C.1 C.2.1 dX12_endOf_12 (by decide) (fun hc8 => ?_) (fun hc8 => ?_)
  · have hw := hw.1 hc8
    refine m_aldN C dX12_endOf_24 rfl h0 ?_
    refine m_getR C hW rfl hk1 f_X12_19 rfl dX12_endOf_25 ?_
    refine lv_iload_n C.1 C.2.1 dX12_endOf_28 rfl h1 ?_
    obtain ⟨b9, ho9, hw⟩ := hw
    obtain ⟨hk10, hw⟩ := hw
    obtain ⟨hi11, hw⟩ := hw
    refine m_iald C hW ho9 hk10 hi11 dX12_endOf_29 ?_
    refine lv_iadd C.1 C.2.1 dX12_endOf_30 ?_
    exact m_iret C hW hS hw dX12_endOf_31
  · have hw := hw.2 hc8
    refine m_aldN C dX12_endOf_15 rfl h0 ?_
    refine m_getR C hW rfl hk1 f_X12_57 rfl dX12_endOf_16 ?_
    refine lv_iload_n C.1 C.2.1 dX12_endOf_19 rfl h1 ?_
    obtain ⟨hi12, hw⟩ := hw
    refine m_iald C hW ho5 hk6 hi12 dX12_endOf_20 ?_
    refine lv_goto (tgt := 30) C.1 C.2.1 dX12_endOf_21 (by decide) ?_
    refine lv_iadd C.1 C.2.1 dX12_endOf_30 ?_
    exact m_iret C hW hS hw dX12_endOf_31
