def wp_X3_minuteOf (S : Hp) (a0 : Nat) (a1 : Int32) (Q : Int32 → Hp → Prop) : Prop := (a1 < 0 → Q (-1) S) ∧ (¬ (a1 < 0) → hK S a0 = 5 ∧ (a1 < (hI S a0 1) → ∃ b4 : Nat, (hR S a0 0) = some b4 ∧ hK S b4 = 16 ∧ vp_in a1 (hN S b4) ∧ Q ((((hJ S b4 (a1 : Int32).toNatClampNeg) >>> ((11 : Int32).toInt64 &&& 63)) : Int64).toInt32) S) ∧ (¬ (a1 < (hI S a0 1)) → Q (-1) S))
set_option maxRecDepth 100000 in
set_option maxHeartbeats 4000000 in
theorem c_X3_minuteOf {l : Launch} {G : GX} {S : Hp} {a0 : Nat} {a1 : Int32} {Q : Int32 → Hp → Prop} (hw : wp_X3_minuteOf S a0 a1 Q) : Met l yX3_minuteOf (Cond.code yX3_minuteOf cX3_minuteOf 2 (some .int) :: TS) { frames := 0, cells := 0, slots := 0, locals := 0 } (Pk G S [va_rf (some a0), .int a1]) (QI G Q) 0 0 G.2.2.1 := by
  refine m_met (by decide) ?_
  intro p e s m below meth c H locs C hW hS
  have C : Cx p s m ([va_rf (some a0), .int a1] : List Value).toArray meth c cX3_minuteOf 2 RX3 (some .int) "minuteOf" G := C
  obtain ⟨ls, hent, hL, hla⟩ := m_entry m (vs := [va_rf (some a0), .int a1]) (nn := 2) [1, 1] rfl (by decide)
  rw [hent]
  have h0 : ls[0]? = some (.val (va_rf (some a0))) := hla (0, va_rf (some a0)) (List.mem_of_getElem? (i := 0) rfl)
  have h1 : ls[1]? = some (.val (.int a1)) := hla (1, .int a1) (List.mem_of_getElem? (i := 1) rfl)
  clear hla
  generalize ([va_rf (some a0), .int a1] : List Value).toArray = args at C ⊢
  unfold wp_X3_minuteOf at hw
  refine lv_iload_n C.1 C.2.1 dX3_minuteOf_0 rfl h1 ?_
  refine lv_if_lt (tgt := 12) C.1 C.2.1 dX3_minuteOf_1 (by decide) (fun hc1 => ?_) (fun hc1 => ?_)
  · have hw := hw.1 hc1
    refine lv_iconst (v := (-1)) C.1 C.2.1 dX3_minuteOf_12 (by decide) ?_
    refine lv_goto (tgt := 26) C.1 C.2.1 dX3_minuteOf_13 (by decide) ?_
    exact m_iret C hW hS hw dX3_minuteOf_26
  · have hw := hw.2 hc1
    refine lv_iload_n C.1 C.2.1 dX3_minuteOf_4 rfl h1 ?_
    refine m_aldN C dX3_minuteOf_5 rfl h0 ?_
    obtain ⟨hk2, hw⟩ := hw
    refine m_getI C hW rfl hk2 f_X3_15 rfl dX3_minuteOf_6 ?_
    refine lv_icmp_lt (tgt := 16) C.1 C.2.1 dX3_minuteOf_9 (by decide) (fun hc3 => ?_) (fun hc3 => ?_)
    · have hw := hw.1 hc3
      refine m_aldN C dX3_minuteOf_16 rfl h0 ?_
      refine m_getR C hW rfl hk2 f_X3_11 rfl dX3_minuteOf_17 ?_
      refine lv_iload_n C.1 C.2.1 dX3_minuteOf_20 rfl h1 ?_
      obtain ⟨b4, ho4, hw⟩ := hw
      obtain ⟨hk5, hw⟩ := hw
      obtain ⟨hi6, hw⟩ := hw
      refine m_lald C hW ho4 hk5 hi6 dX3_minuteOf_21 ?_
      refine lv_bipush (v := 11) C.1 C.2.1 dX3_minuteOf_22 (by decide) ?_
      refine lv_lshr (v := ((hJ S b4 (a1 : Int32).toNatClampNeg) >>> ((11 : Int32).toInt64 &&& 63))) C.1 C.2.1 dX3_minuteOf_24 rfl ?_
      refine lv_l2i (v := ((((hJ S b4 (a1 : Int32).toNatClampNeg) >>> ((11 : Int32).toInt64 &&& 63)) : Int64).toInt32)) C.1 C.2.1 dX3_minuteOf_25 rfl ?_
      exact m_iret C hW hS hw dX3_minuteOf_26
    · have hw := hw.2 hc3
      refine lv_iconst (v := (-1)) C.1 C.2.1 dX3_minuteOf_12 (by decide) ?_
      refine lv_goto (tgt := 26) C.1 C.2.1 dX3_minuteOf_13 (by decide) ?_
      exact m_iret C hW hS hw dX3_minuteOf_26
def wp_X3_kindOf (S : Hp) (a0 : Nat) (a1 : Int32) (Q : Int32 → Hp → Prop) : Prop := (a1 < 0 → Q (-1) S) ∧ (¬ (a1 < 0) → hK S a0 = 5 ∧ (a1 < (hI S a0 1) → ∃ b4 : Nat, (hR S a0 0) = some b4 ∧ hK S b4 = 16 ∧ vp_in a1 (hN S b4) ∧ Q (((((hJ S b4 (a1 : Int32).toNatClampNeg) >>> ((8 : Int32).toInt64 &&& 63)) : Int64).toInt32) &&& 7) S) ∧ (¬ (a1 < (hI S a0 1)) → Q (-1) S))
set_option maxRecDepth 100000 in
set_option maxHeartbeats 4000000 in
theorem c_X3_kindOf {l : Launch} {G : GX} {S : Hp} {a0 : Nat} {a1 : Int32} {Q : Int32 → Hp → Prop} (hw : wp_X3_kindOf S a0 a1 Q) : Met l yX3_kindOf (Cond.code yX3_kindOf cX3_kindOf 2 (some .int) :: TS) { frames := 0, cells := 0, slots := 0, locals := 0 } (Pk G S [va_rf (some a0), .int a1]) (QI G Q) 0 0 G.2.2.1 := by
  refine m_met (by decide) ?_
  intro p e s m below meth c H locs C hW hS
  have C : Cx p s m ([va_rf (some a0), .int a1] : List Value).toArray meth c cX3_kindOf 2 RX3 (some .int) "kindOf" G := C
  obtain ⟨ls, hent, hL, hla⟩ := m_entry m (vs := [va_rf (some a0), .int a1]) (nn := 2) [1, 1] rfl (by decide)
  rw [hent]
  have h0 : ls[0]? = some (.val (va_rf (some a0))) := hla (0, va_rf (some a0)) (List.mem_of_getElem? (i := 0) rfl)
  have h1 : ls[1]? = some (.val (.int a1)) := hla (1, .int a1) (List.mem_of_getElem? (i := 1) rfl)
  clear hla
  generalize ([va_rf (some a0), .int a1] : List Value).toArray = args at C ⊢
  unfold wp_X3_kindOf at hw
  refine lv_iload_n C.1 C.2.1 dX3_kindOf_0 rfl h1 ?_
  refine lv_if_lt (tgt := 12) C.1 C.2.1 dX3_kindOf_1 (by decide) (fun hc1 => ?_) (fun hc1 => ?_)
  · have hw := hw.1 hc1
    refine lv_iconst (v := (-1)) C.1 C.2.1 dX3_kindOf_12 (by decide) ?_
    refine lv_goto (tgt := 29) C.1 C.2.1 dX3_kindOf_13 (by decide) ?_
    exact m_iret C hW hS hw dX3_kindOf_29
  · have hw := hw.2 hc1
    refine lv_iload_n C.1 C.2.1 dX3_kindOf_4 rfl h1 ?_
    refine m_aldN C dX3_kindOf_5 rfl h0 ?_
    obtain ⟨hk2, hw⟩ := hw
    refine m_getI C hW rfl hk2 f_X3_15 rfl dX3_kindOf_6 ?_
    refine lv_icmp_lt (tgt := 16) C.1 C.2.1 dX3_kindOf_9 (by decide) (fun hc3 => ?_) (fun hc3 => ?_)
    · have hw := hw.1 hc3
      refine m_aldN C dX3_kindOf_16 rfl h0 ?_
      refine m_getR C hW rfl hk2 f_X3_11 rfl dX3_kindOf_17 ?_
      refine lv_iload_n C.1 C.2.1 dX3_kindOf_20 rfl h1 ?_
      obtain ⟨b4, ho4, hw⟩ := hw
      obtain ⟨hk5, hw⟩ := hw
      obtain ⟨hi6, hw⟩ := hw
      refine m_lald C hW ho4 hk5 hi6 dX3_kindOf_21 ?_
      refine lv_bipush (v := 8) C.1 C.2.1 dX3_kindOf_22 (by decide) ?_
      refine lv_lshr (v := ((hJ S b4 (a1 : Int32).toNatClampNeg) >>> ((8 : Int32).toInt64 &&& 63))) C.1 C.2.1 dX3_kindOf_24 rfl ?_
      refine lv_l2i (v := ((((hJ S b4 (a1 : Int32).toNatClampNeg) >>> ((8 : Int32).toInt64 &&& 63)) : Int64).toInt32)) C.1 C.2.1 dX3_kindOf_25 rfl ?_
      refine lv_bipush (v := 7) C.1 C.2.1 dX3_kindOf_26 (by decide) ?_
      refine lv_iand C.1 C.2.1 dX3_kindOf_28 ?_
      exact m_iret C hW hS hw dX3_kindOf_29
    · have hw := hw.2 hc3
      refine lv_iconst (v := (-1)) C.1 C.2.1 dX3_kindOf_12 (by decide) ?_
      refine lv_goto (tgt := 29) C.1 C.2.1 dX3_kindOf_13 (by decide) ?_
      exact m_iret C hW hS hw dX3_kindOf_29
def wp_X3_jobOf (S : Hp) (a0 : Nat) (a1 : Int32) (Q : Int32 → Hp → Prop) : Prop := (a1 < 0 → Q (-1) S) ∧ (¬ (a1 < 0) → hK S a0 = 5 ∧ (a1 < (hI S a0 1) → ∃ b4 : Nat, (hR S a0 0) = some b4 ∧ hK S b4 = 16 ∧ vp_in a1 (hN S b4) ∧ Q ((((hJ S b4 (a1 : Int32).toNatClampNeg) : Int64).toInt32) &&& 255) S) ∧ (¬ (a1 < (hI S a0 1)) → Q (-1) S))
set_option maxRecDepth 100000 in
set_option maxHeartbeats 4000000 in
theorem c_X3_jobOf {l : Launch} {G : GX} {S : Hp} {a0 : Nat} {a1 : Int32} {Q : Int32 → Hp → Prop} (hw : wp_X3_jobOf S a0 a1 Q) : Met l yX3_jobOf (Cond.code yX3_jobOf cX3_jobOf 2 (some .int) :: TS) { frames := 0, cells := 0, slots := 0, locals := 0 } (Pk G S [va_rf (some a0), .int a1]) (QI G Q) 0 0 G.2.2.1 := by
  refine m_met (by decide) ?_
  intro p e s m below meth c H locs C hW hS
  have C : Cx p s m ([va_rf (some a0), .int a1] : List Value).toArray meth c cX3_jobOf 2 RX3 (some .int) "jobOf" G := C
  obtain ⟨ls, hent, hL, hla⟩ := m_entry m (vs := [va_rf (some a0), .int a1]) (nn := 2) [1, 1] rfl (by decide)
  rw [hent]
  have h0 : ls[0]? = some (.val (va_rf (some a0))) := hla (0, va_rf (some a0)) (List.mem_of_getElem? (i := 0) rfl)
  have h1 : ls[1]? = some (.val (.int a1)) := hla (1, .int a1) (List.mem_of_getElem? (i := 1) rfl)
  clear hla
  generalize ([va_rf (some a0), .int a1] : List Value).toArray = args at C ⊢
  unfold wp_X3_jobOf at hw
  refine lv_iload_n C.1 C.2.1 dX3_jobOf_0 rfl h1 ?_
  refine lv_if_lt (tgt := 12) C.1 C.2.1 dX3_jobOf_1 (by decide) (fun hc1 => ?_) (fun hc1 => ?_)
  · have hw := hw.1 hc1
    refine lv_iconst (v := (-1)) C.1 C.2.1 dX3_jobOf_12 (by decide) ?_
    refine lv_goto (tgt := 27) C.1 C.2.1 dX3_jobOf_13 (by decide) ?_
    exact m_iret C hW hS hw dX3_jobOf_27
  · have hw := hw.2 hc1
    refine lv_iload_n C.1 C.2.1 dX3_jobOf_4 rfl h1 ?_
    refine m_aldN C dX3_jobOf_5 rfl h0 ?_
    obtain ⟨hk2, hw⟩ := hw
    refine m_getI C hW rfl hk2 f_X3_15 rfl dX3_jobOf_6 ?_
    refine lv_icmp_lt (tgt := 16) C.1 C.2.1 dX3_jobOf_9 (by decide) (fun hc3 => ?_) (fun hc3 => ?_)
    · have hw := hw.1 hc3
      refine m_aldN C dX3_jobOf_16 rfl h0 ?_
      refine m_getR C hW rfl hk2 f_X3_11 rfl dX3_jobOf_17 ?_
      refine lv_iload_n C.1 C.2.1 dX3_jobOf_20 rfl h1 ?_
      obtain ⟨b4, ho4, hw⟩ := hw
      obtain ⟨hk5, hw⟩ := hw
      obtain ⟨hi6, hw⟩ := hw
      refine m_lald C hW ho4 hk5 hi6 dX3_jobOf_21 ?_
      refine lv_l2i (v := (((hJ S b4 (a1 : Int32).toNatClampNeg) : Int64).toInt32)) C.1 C.2.1 dX3_jobOf_22 rfl ?_
      refine lv_sipush (v := 255) C.1 C.2.1 dX3_jobOf_23 (by decide) ?_
      refine lv_iand C.1 C.2.1 dX3_jobOf_26 ?_
      exact m_iret C hW hS hw dX3_jobOf_27
    · have hw := hw.2 hc3
      refine lv_iconst (v := (-1)) C.1 C.2.1 dX3_jobOf_12 (by decide) ?_
      refine lv_goto (tgt := 27) C.1 C.2.1 dX3_jobOf_13 (by decide) ?_
      exact m_iret C hW hS hw dX3_jobOf_27
def wp_Jxa1e45_init_da8c8 (S : Hp) (a0 : Nat) (Q : Hp → Prop) : Prop := Q S
set_option maxRecDepth 100000 in
set_option maxHeartbeats 4000000 in
theorem c_Jxa1e45_init_da8c8 {l : Launch} {G : GX} {S : Hp} {a0 : Nat} {Q : Hp → Prop} (hw : wp_Jxa1e45_init_da8c8 S a0 Q) : Met l yJxa1e45_init_da8c8 (Cond.code yJxa1e45_init_da8c8 cJxa1e45_init_da8c8 1 none :: TS) { frames := 1, cells := 0, slots := 0, locals := 20 } (Pk G S [va_rf (some a0)]) (QV G Q) 0 0 G.2.2.1 := by
  refine m_met (by decide) ?_
  intro p e s m below meth c H locs C hW hS
  have C : Cx p s m ([va_rf (some a0)] : List Value).toArray meth c cJxa1e45_init_da8c8 1 RJxa1e45 none "<init>" G := C
  obtain ⟨ls, hent, hL, hla⟩ := m_entry m (vs := [va_rf (some a0)]) (nn := 1) [1] rfl (by decide)
  rw [hent]
  have h0 : ls[0]? = some (.val (va_rf (some a0))) := hla (0, va_rf (some a0)) (List.mem_of_getElem? (i := 0) rfl)
  clear hla
  generalize ([va_rf (some a0)] : List Value).toArray = args at C ⊢
  unfold wp_Jxa1e45_init_da8c8 at hw
  refine m_aldN C dJxa1e45_init_da8c8_0 rfl h0 ?_
  refine m_obj C tw_343 tw_33 tw_34 hL.1 ⟨Nat.le_of_ble_eq_true rfl, Nat.le_of_ble_eq_true rfl⟩ (Nat.le_of_ble_eq_true rfl) rfl dJxa1e45_init_da8c8_1 ?_
  exact m_vret C hW hS hw dJxa1e45_init_da8c8_4
def wp_Jxc12de_init_da8c8 (S : Hp) (a0 : Nat) (Q : Hp → Prop) : Prop := wp_Jxa1e45_init_da8c8 S a0 (fun S1 => hK S1 a0 = 1 ∧ Q (sI S1 a0 0 0))
set_option maxRecDepth 100000 in
set_option maxHeartbeats 4000000 in
theorem c_Jxc12de_init_da8c8 {l : Launch} {G : GX} {S : Hp} {a0 : Nat} {Q : Hp → Prop} (hw : wp_Jxc12de_init_da8c8 S a0 Q) : Met l yJxc12de_init_da8c8 (Cond.code yJxc12de_init_da8c8 cJxc12de_init_da8c8 1 none :: TS) { frames := 2, cells := 0, slots := 0, locals := 40 } (Pk G S [va_rf (some a0)]) (QV G Q) 0 0 G.2.2.1 := by
  refine m_met (by decide) ?_
  intro p e s m below meth c H locs C hW hS
  have C : Cx p s m ([va_rf (some a0)] : List Value).toArray meth c cJxc12de_init_da8c8 1 RJxc12de none "<init>" G := C
  obtain ⟨ls, hent, hL, hla⟩ := m_entry m (vs := [va_rf (some a0)]) (nn := 1) [1] rfl (by decide)
  rw [hent]
  have h0 : ls[0]? = some (.val (va_rf (some a0))) := hla (0, va_rf (some a0)) (List.mem_of_getElem? (i := 0) rfl)
  clear hla
  generalize ([va_rf (some a0)] : List Value).toArray = args at C ⊢
  unfold wp_Jxc12de_init_da8c8 at hw
  refine m_aldN C dJxc12de_init_da8c8_0 rfl h0 ?_
  refine m_rV (m_runI (As := []) (rest := []) C hW hS hL (c_Jxa1e45_init_da8c8 hw) i_Jxc12de_1 ⟨rfl, rfl⟩ ⟨Nat.le_of_ble_eq_true rfl, Nat.le_of_ble_eq_true rfl⟩ rfl rfl rfl (Nat.le_of_ble_eq_true rfl) dJxc12de_init_da8c8_1 ⟨Nat.le_of_ble_eq_true rfl, Nat.le_of_ble_eq_true rfl⟩) hS (fun S1 H locs hw hW hS => ?_)
  refine m_aldN C dJxc12de_init_da8c8_4 rfl h0 ?_
  refine lv_iconst (v := 0) C.1 C.2.1 dJxc12de_init_da8c8_5 (by decide) ?_
  obtain ⟨hk2, hw⟩ := hw
  refine m_putI C hW hS rfl hk2 p_Jxc12de_7 (fun z => by cases z) rfl dJxc12de_init_da8c8_6 (fun H locs hW hS => ?_)
  exact m_vret C hW hS hw dJxc12de_init_da8c8_9
def wp_Jx4a65c_init_da8c8 (S : Hp) (a0 : Nat) (Q : Hp → Prop) : Prop := wp_Jxc12de_init_da8c8 S a0 (fun S1 => ∀ b2 : Nat, b2 = hT S1 → hK S1 a0 = 1 ∧ Q (sR S1 a0 1 (some (hT S1))))
set_option maxRecDepth 100000 in
set_option maxHeartbeats 4000000 in
theorem c_Jx4a65c_init_da8c8 {l : Launch} {G : GX} {S : Hp} {a0 : Nat} {Q : Hp → Prop} (hw : wp_Jx4a65c_init_da8c8 S a0 Q) : Met l yJx4a65c_init_da8c8 (Cond.code yJx4a65c_init_da8c8 cJx4a65c_init_da8c8 1 none :: TS) { frames := 3, cells := 0, slots := 0, locals := 60 } (Pk G S [va_rf (some a0)]) (QV G Q) 0 0 G.2.2.1 := by
  refine m_met (by decide) ?_
  intro p e s m below meth c H locs C hW hS
  have C : Cx p s m ([va_rf (some a0)] : List Value).toArray meth c cJx4a65c_init_da8c8 1 RJx4a65c none "<init>" G := C
  obtain ⟨ls, hent, hL, hla⟩ := m_entry m (vs := [va_rf (some a0)]) (nn := 1) [1] rfl (by decide)
  rw [hent]
  have h0 : ls[0]? = some (.val (va_rf (some a0))) := hla (0, va_rf (some a0)) (List.mem_of_getElem? (i := 0) rfl)
  clear hla
  generalize ([va_rf (some a0)] : List Value).toArray = args at C ⊢
  unfold wp_Jx4a65c_init_da8c8 at hw
  refine m_aldN C dJx4a65c_init_da8c8_0 rfl h0 ?_
  refine m_rV (m_runI (As := []) (rest := []) C hW hS hL (c_Jxc12de_init_da8c8 hw) i_Jx4a65c_1 ⟨rfl, rfl⟩ ⟨Nat.le_of_ble_eq_true rfl, Nat.le_of_ble_eq_true rfl⟩ rfl rfl rfl (Nat.le_of_ble_eq_true rfl) dJx4a65c_init_da8c8_1 ⟨Nat.le_of_ble_eq_true rfl, Nat.le_of_ble_eq_true rfl⟩) hS (fun S1 H locs hw hW hS => ?_)
  refine m_aldN C dJx4a65c_init_da8c8_4 rfl h0 ?_
  refine va_gets C.1 C.2.1 C.2.2.2.2.2.2.2.2.2.1.1 hS C.2.2.2.1 (C.2.2.2.2.1 _ tw_344) (fun _ h9 => h9) dJx4a65c_init_da8c8_5 ?_
  have hT9 : hT S1 = G.2.2.2 := hW.1
  rw [← hT9]
  refine W.eq (g2 := F0 m 8 ls (va_rf (some (hT S1)) :: _)) rfl ?_
  have hw := hw _ rfl
  obtain ⟨hk3, hw⟩ := hw
  refine m_putR C hW hS rfl hk3 p_Jx4a65c_9 (fun z => by cases z) rfl dJx4a65c_init_da8c8_8 (fun H locs hW hS => ?_)
  exact m_vret C hW hS hw dJx4a65c_init_da8c8_11
def wp_X5_init (S : Hp) (a0 : Nat) (Q : Hp → Prop) : Prop := ∀ q1 : Nat, hK S q1 = 0 → hK (sN S q1 16 4) a0 = 7 ∧ Q (sR (sN S q1 16 4) a0 0 (some q1))
set_option maxRecDepth 100000 in
set_option maxHeartbeats 4000000 in
theorem c_X5_init {l : Launch} {G : GX} {S : Hp} {a0 : Nat} {Q : Hp → Prop} (hw : wp_X5_init S a0 Q) : Met l yX5_init (Cond.code yX5_init cX5_init 1 none :: TS) { frames := 1, cells := 1, slots := 4, locals := 20 } (Pk G S [va_rf (some a0)]) (QV G Q) 1 4 G.2.2.1 := by
  refine m_met (by decide) ?_
  intro p e s m below meth c H locs C hW hS
  have C : Cx p s m ([va_rf (some a0)] : List Value).toArray meth c cX5_init 1 RX5 none "<init>" G := C
  obtain ⟨ls, hent, hL, hla⟩ := m_entry m (vs := [va_rf (some a0)]) (nn := 1) [1] rfl (by decide)
  rw [hent]
  have h0 : ls[0]? = some (.val (va_rf (some a0))) := hla (0, va_rf (some a0)) (List.mem_of_getElem? (i := 0) rfl)
  clear hla
  generalize ([va_rf (some a0)] : List Value).toArray = args at C ⊢
  unfold wp_X5_init at hw
  refine m_aldN C dX5_init_0 rfl h0 ?_
  refine m_obj C tw_153 tw_33 tw_34 hL.1 ⟨Nat.le_of_ble_eq_true rfl, Nat.le_of_ble_eq_true rfl⟩ (Nat.le_of_ble_eq_true rfl) rfl dX5_init_1 ?_
  refine m_aldN C dX5_init_4 rfl h0 ?_
  refine lv_iconst (v := 4) C.1 C.2.1 dX5_init_5 (by decide) ?_
  refine m_newa (N := 4) C hW hS (Or.inr (Or.inl ⟨rfl, rfl⟩)) tw_87 (by decide) (by decide) (by decide) (Nat.le_of_ble_eq_true rfl) (Nat.le_of_ble_eq_true rfl) dX5_init_6 (fun q1 H hq1 hW hS => ?_)
  have hw := hw q1 hq1
  obtain ⟨hk2, hw⟩ := hw
  refine m_putR C hW hS rfl hk2 p_X5_11 (fun _ => rfl) rfl dX5_init_8 (fun H locs hW hS => ?_)
  exact m_vret C hW hS hw dX5_init_11
def wp_X7_init (S : Hp) (a0 : Nat) (Q : Hp → Prop) : Prop := hK S a0 = 9 ∧ ∀ q2 : Nat, hK (sI S a0 0 0) q2 = 0 → hK (sN (sI S a0 0 0) q2 15 30) a0 = 9 ∧ Q (sR (sN (sI S a0 0 0) q2 15 30) a0 3 (some q2))
set_option maxRecDepth 100000 in
set_option maxHeartbeats 4000000 in
theorem c_X7_init {l : Launch} {G : GX} {S : Hp} {a0 : Nat} {Q : Hp → Prop} (hw : wp_X7_init S a0 Q) : Met l yX7_init (Cond.code yX7_init cX7_init 1 none :: TS) { frames := 1, cells := 1, slots := 30, locals := 20 } (Pk G S [va_rf (some a0)]) (QV G Q) 1 30 G.2.2.1 := by
  refine m_met (by decide) ?_
  intro p e s m below meth c H locs C hW hS
  have C : Cx p s m ([va_rf (some a0)] : List Value).toArray meth c cX7_init 1 RX7 none "<init>" G := C
  obtain ⟨ls, hent, hL, hla⟩ := m_entry m (vs := [va_rf (some a0)]) (nn := 1) [1] rfl (by decide)
  rw [hent]
  have h0 : ls[0]? = some (.val (va_rf (some a0))) := hla (0, va_rf (some a0)) (List.mem_of_getElem? (i := 0) rfl)
  clear hla
  generalize ([va_rf (some a0)] : List Value).toArray = args at C ⊢
  unfold wp_X7_init at hw
  refine m_aldN C dX7_init_0 rfl h0 ?_
  refine m_obj C tw_384 tw_33 tw_34 hL.1 ⟨Nat.le_of_ble_eq_true rfl, Nat.le_of_ble_eq_true rfl⟩ (Nat.le_of_ble_eq_true rfl) rfl dX7_init_1 ?_
  refine m_aldN C dX7_init_4 rfl h0 ?_
  refine lv_iconst (v := 0) C.1 C.2.1 dX7_init_5 (by decide) ?_
  obtain ⟨hk1, hw⟩ := hw
  refine m_putI C hW hS rfl hk1 p_X7_11 (fun z => by cases z) rfl dX7_init_6 (fun H locs hW hS => ?_)
  refine m_aldN C dX7_init_9 rfl h0 ?_
  refine lv_bipush (v := 30) C.1 C.2.1 dX7_init_10 (by decide) ?_
  refine m_newa (N := 30) C hW hS (Or.inl ⟨rfl, rfl⟩) tw_122 (by decide) (by decide) (by decide) (Nat.le_of_ble_eq_true rfl) (Nat.le_of_ble_eq_true rfl) dX7_init_12 (fun q2 H hq2 hW hS => ?_)
  have hw := hw q2 hq2
  obtain ⟨hk3, hw⟩ := hw
  refine m_putR C hW hS rfl hk3 p_X7_15 (fun _ => rfl) rfl dX7_init_14 (fun H locs hW hS => ?_)
  exact m_vret C hW hS hw dX7_init_17
def wp_X10_wipe (S : Hp) (a0 : Nat) (Q : Hp → Prop) : Prop := hK S a0 = 12 ∧ Q (sI (sI (sI (sI (sI (sI (sI (sI S a0 0 0) a0 1 (-1)) a0 2 (-1)) a0 3 (-1)) a0 4 0) a0 5 0) a0 6 0) a0 7 0)
set_option maxRecDepth 100000 in
set_option maxHeartbeats 4000000 in
theorem c_X10_wipe {l : Launch} {G : GX} {S : Hp} {a0 : Nat} {Q : Hp → Prop} (hw : wp_X10_wipe S a0 Q) : Met l yX10_wipe (Cond.code yX10_wipe cX10_wipe 1 none :: TS) { frames := 0, cells := 0, slots := 0, locals := 0 } (Pk G S [va_rf (some a0)]) (QV G Q) 0 0 G.2.2.1 := by
  refine m_met (by decide) ?_
  intro p e s m below meth c H locs C hW hS
  have C : Cx p s m ([va_rf (some a0)] : List Value).toArray meth c cX10_wipe 1 RX10 none "wipe" G := C
  obtain ⟨ls, hent, hL, hla⟩ := m_entry m (vs := [va_rf (some a0)]) (nn := 1) [1] rfl (by decide)
  rw [hent]
  have h0 : ls[0]? = some (.val (va_rf (some a0))) := hla (0, va_rf (some a0)) (List.mem_of_getElem? (i := 0) rfl)
  clear hla
  generalize ([va_rf (some a0)] : List Value).toArray = args at C ⊢
  unfold wp_X10_wipe at hw
  refine m_aldN C dX10_wipe_0 rfl h0 ?_
  refine lv_iconst (v := 0) C.1 C.2.1 dX10_wipe_1 (by decide) ?_
  obtain ⟨hk1, hw⟩ := hw
  refine m_putI C hW hS rfl hk1 p_X10_14 (fun z => by cases z) rfl dX10_wipe_2 (fun H locs hW hS => ?_)
  refine m_aldN C dX10_wipe_5 rfl h0 ?_
  refine lv_iconst (v := (-1)) C.1 C.2.1 dX10_wipe_6 (by decide) ?_
  refine m_putI C hW hS rfl hk1 p_X10_18 (fun z => by cases z) rfl dX10_wipe_7 (fun H locs hW hS => ?_)
  refine m_aldN C dX10_wipe_10 rfl h0 ?_
  refine lv_iconst (v := (-1)) C.1 C.2.1 dX10_wipe_11 (by decide) ?_
  refine m_putI C hW hS rfl hk1 p_X10_21 (fun z => by cases z) rfl dX10_wipe_12 (fun H locs hW hS => ?_)
  refine m_aldN C dX10_wipe_15 rfl h0 ?_
  refine lv_iconst (v := (-1)) C.1 C.2.1 dX10_wipe_16 (by decide) ?_
  refine m_putI C hW hS rfl hk1 p_X10_24 (fun z => by cases z) rfl dX10_wipe_17 (fun H locs hW hS => ?_)
  refine m_aldN C dX10_wipe_20 rfl h0 ?_
  refine lv_iconst (v := 0) C.1 C.2.1 dX10_wipe_21 (by decide) ?_
  refine m_putI C hW hS rfl hk1 p_X10_27 (fun z => by cases z) rfl dX10_wipe_22 (fun H locs hW hS => ?_)
  refine m_aldN C dX10_wipe_25 rfl h0 ?_
  refine lv_iconst (v := 0) C.1 C.2.1 dX10_wipe_26 (by decide) ?_
  refine m_putI C hW hS rfl hk1 p_X10_30 (fun z => by cases z) rfl dX10_wipe_27 (fun H locs hW hS => ?_)
  refine m_aldN C dX10_wipe_30 rfl h0 ?_
  refine lv_iconst (v := 0) C.1 C.2.1 dX10_wipe_31 (by decide) ?_
  refine m_putI C hW hS rfl hk1 p_X10_33 (fun z => by cases z) rfl dX10_wipe_32 (fun H locs hW hS => ?_)
  refine m_aldN C dX10_wipe_35 rfl h0 ?_
  refine lv_iconst (v := 0) C.1 C.2.1 dX10_wipe_36 (by decide) ?_
  refine m_putI C hW hS rfl hk1 p_X10_36 (fun z => by cases z) rfl dX10_wipe_37 (fun H locs hW hS => ?_)
  exact m_vret C hW hS hw dX10_wipe_40
def wp_X10_init (S : Hp) (a0 : Nat) (Q : Hp → Prop) : Prop := hK S a0 = 12 ∧ wp_X10_wipe S a0 (fun S2 => Q S2)
set_option maxRecDepth 100000 in
set_option maxHeartbeats 4000000 in
theorem c_X10_init {l : Launch} {G : GX} {S : Hp} {a0 : Nat} {Q : Hp → Prop} (hw : wp_X10_init S a0 Q) : Met l yX10_init (Cond.code yX10_init cX10_init 1 none :: TS) { frames := 1, cells := 0, slots := 0, locals := 20 } (Pk G S [va_rf (some a0)]) (QV G Q) 0 0 G.2.2.1 := by
  refine m_met (by decide) ?_
  intro p e s m below meth c H locs C hW hS
  have C : Cx p s m ([va_rf (some a0)] : List Value).toArray meth c cX10_init 1 RX10 none "<init>" G := C
  obtain ⟨ls, hent, hL, hla⟩ := m_entry m (vs := [va_rf (some a0)]) (nn := 1) [1] rfl (by decide)
  rw [hent]
  have h0 : ls[0]? = some (.val (va_rf (some a0))) := hla (0, va_rf (some a0)) (List.mem_of_getElem? (i := 0) rfl)
  clear hla
  generalize ([va_rf (some a0)] : List Value).toArray = args at C ⊢
  unfold wp_X10_init at hw
  refine m_aldN C dX10_init_0 rfl h0 ?_
  refine m_obj C tw_417 tw_33 tw_34 hL.1 ⟨Nat.le_of_ble_eq_true rfl, Nat.le_of_ble_eq_true rfl⟩ (Nat.le_of_ble_eq_true rfl) rfl dX10_init_1 ?_
  refine m_aldN C dX10_init_4 rfl h0 ?_
  obtain ⟨hk1, hw⟩ := hw
  refine m_rV (m_runV (As := []) (rest := []) C hW hS hL (c_X10_wipe hw) v_X10_9 ⟨rfl, rfl⟩ ⟨Nat.le_of_ble_eq_true rfl, Nat.le_of_ble_eq_true rfl⟩ rfl hk1 rfl rfl (Nat.le_of_ble_eq_true rfl) dX10_init_5 ⟨Nat.le_of_ble_eq_true rfl, Nat.le_of_ble_eq_true rfl⟩) hS (fun S2 H locs hw hW hS => ?_)
  exact m_vret C hW hS hw dX10_init_8
def wp_X4_init (S : Hp) (a0 : Nat) (a1 : Int32) (a2 : Option Nat) (a3 : Int32) (a4 : Int32) (Q : Hp → Prop) : Prop := ∀ q1 : Nat, hK S q1 = 0 → wp_Jx4a65c_init_da8c8 (sN S q1 1 0) q1 (fun S2 => hK S2 a0 = 6 ∧ ∀ q4 : Nat, hK (sR S2 a0 4 (some q1)) q4 = 0 → wp_Jx4a65c_init_da8c8 (sN (sR S2 a0 4 (some q1)) q4 1 0) q4 (fun S5 => hK S5 a0 = 6 ∧ ∀ q7 : Nat, hK (sR S5 a0 5 (some q4)) q7 = 0 → wp_X5_init (sN (sR S5 a0 5 (some q4)) q7 7 0) q7 (fun S8 => hK S8 a0 = 6 ∧ ∀ q10 : Nat, hK (sR S8 a0 6 (some q7)) q10 = 0 → wp_X0_init (sN (sR S8 a0 6 (some q7)) q10 2 0) q10 (fun S11 => hK S11 a0 = 6 ∧ ∀ q13 : Nat, hK (sR S11 a0 8 (some q10)) q13 = 0 → wp_X0_init (sN (sR S11 a0 8 (some q10)) q13 2 0) q13 (fun S14 => hK S14 a0 = 6 ∧ ∀ q16 : Nat, hK (sR S14 a0 9 (some q13)) q16 = 0 → wp_X7_init (sN (sR S14 a0 9 (some q13)) q16 9 0) q16 (fun S17 => hK S17 a0 = 6 ∧ ∀ q19 : Nat, hK (sR S17 a0 10 (some q16)) q19 = 0 → wp_X10_init (sN (sR S17 a0 10 (some q16)) q19 12 0) q19 (fun S20 => hK S20 a0 = 6 ∧ Q (sI (sI (sR (sI (sR S20 a0 15 (some q19)) a0 0 a1) a0 1 a2) a0 2 a3) a0 3 a4))))))))
set_option maxRecDepth 100000 in
set_option maxHeartbeats 4000000 in
theorem c_X4_init {l : Launch} {G : GX} {S : Hp} {a0 : Nat} {a1 : Int32} {a2 : Option Nat} {a3 : Int32} {a4 : Int32} {Q : Hp → Prop} (hw : wp_X4_init S a0 a1 a2 a3 a4 Q) : Met l yX4_init (Cond.code yX4_init cX4_init 5 none :: TS) { frames := 4, cells := 13, slots := 300, locals := 80 } (Pk G S [va_rf (some a0), .int a1, va_rf a2, .int a3, .int a4]) (QV G Q) 13 300 G.2.2.1 := by
  refine m_met (by decide) ?_
  intro p e s m below meth c H locs C hW hS
  have C : Cx p s m ([va_rf (some a0), .int a1, va_rf a2, .int a3, .int a4] : List Value).toArray meth c cX4_init 5 RX4 none "<init>" G := C
  obtain ⟨ls, hent, hL, hla⟩ := m_entry m (vs := [va_rf (some a0), .int a1, va_rf a2, .int a3, .int a4]) (nn := 5) [1, 1, 1, 1, 1] (by simp only [List.map_cons, List.map_nil, va_rf_cat] <;> rfl) (by decide)
  rw [hent]
  have h0 : ls[0]? = some (.val (va_rf (some a0))) := hla (0, va_rf (some a0)) (List.mem_of_getElem? (i := 0) rfl)
  have h1 : ls[1]? = some (.val (.int a1)) := hla (1, .int a1) (List.mem_of_getElem? (i := 1) rfl)
  have h2 : ls[2]? = some (.val (va_rf a2)) := hla (2, va_rf a2) (List.mem_of_getElem? (i := 2) rfl)
  have h3 : ls[3]? = some (.val (.int a3)) := hla (3, .int a3) (List.mem_of_getElem? (i := 3) rfl)
  have h4 : ls[4]? = some (.val (.int a4)) := hla (4, .int a4) (List.mem_of_getElem? (i := 4) rfl)
  clear hla
  generalize ([va_rf (some a0), .int a1, va_rf a2, .int a3, .int a4] : List Value).toArray = args at C ⊢
  unfold wp_X4_init at hw
  refine m_aldN C dX4_init_0 rfl h0 ?_
  refine m_obj C tw_331 tw_33 tw_34 hL.1 ⟨Nat.le_of_ble_eq_true rfl, Nat.le_of_ble_eq_true rfl⟩ (Nat.le_of_ble_eq_true rfl) rfl dX4_init_1 ?_
  refine m_aldN C dX4_init_4 rfl h0 ?_
  refine m_new C hW hS n_X4_7 (Nat.le_of_ble_eq_true rfl) (Nat.le_of_ble_eq_true rfl) dX4_init_5 (fun q1 H hq1 hW hS => ?_)
  have hw := hw q1 hq1
  refine lv_dup C.1 C.2.1 dX4_init_8 (va_rf_cat _) ?_
  refine m_rV (m_runI (As := []) (rest := [va_rf (some q1), va_rf (some a0)]) C hW hS hL (c_Jx4a65c_init_da8c8 hw) i_X4_9 ⟨rfl, rfl⟩ ⟨Nat.le_of_ble_eq_true rfl, Nat.le_of_ble_eq_true rfl⟩ rfl rfl rfl (by simp only [List.map_cons, List.map_nil, va_rf_cat, List.sum_cons, List.sum_nil] <;> exact Nat.le_of_ble_eq_true rfl) dX4_init_9 ⟨Nat.le_of_ble_eq_true rfl, Nat.le_of_ble_eq_true rfl⟩) hS (fun S2 H locs hw hW hS => ?_)
  obtain ⟨hk3, hw⟩ := hw
  refine m_putR C hW hS rfl hk3 p_X4_10 (fun _ => rfl) rfl dX4_init_12 (fun H locs hW hS => ?_)
  refine m_aldN C dX4_init_15 rfl h0 ?_
  refine m_new C hW hS n_X4_7 (Nat.le_of_ble_eq_true rfl) (Nat.le_of_ble_eq_true rfl) dX4_init_16 (fun q4 H hq4 hW hS => ?_)
  have hw := hw q4 hq4
  refine lv_dup C.1 C.2.1 dX4_init_19 (va_rf_cat _) ?_
  refine m_rV (m_runI (As := []) (rest := [va_rf (some q4), va_rf (some a0)]) C hW hS hL (c_Jx4a65c_init_da8c8 hw) i_X4_9 ⟨rfl, rfl⟩ ⟨Nat.le_of_ble_eq_true rfl, Nat.le_of_ble_eq_true rfl⟩ rfl rfl rfl (by simp only [List.map_cons, List.map_nil, va_rf_cat, List.sum_cons, List.sum_nil] <;> exact Nat.le_of_ble_eq_true rfl) dX4_init_20 ⟨Nat.le_of_ble_eq_true rfl, Nat.le_of_ble_eq_true rfl⟩) hS (fun S5 H locs hw hW hS => ?_)
  obtain ⟨hk6, hw⟩ := hw
  refine m_putR C hW hS rfl hk6 p_X4_16 (fun _ => rfl) rfl dX4_init_23 (fun H locs hW hS => ?_)
  refine m_aldN C dX4_init_26 rfl h0 ?_
  refine m_new C hW hS n_X4_19 (Nat.le_of_ble_eq_true rfl) (Nat.le_of_ble_eq_true rfl) dX4_init_27 (fun q7 H hq7 hW hS => ?_)
  have hw := hw q7 hq7
  refine lv_dup C.1 C.2.1 dX4_init_30 (va_rf_cat _) ?_
  refine m_rV (m_runI (As := []) (rest := [va_rf (some q7), va_rf (some a0)]) C hW hS hL (c_X5_init hw) i_X4_21 ⟨rfl, rfl⟩ ⟨Nat.le_of_ble_eq_true rfl, Nat.le_of_ble_eq_true rfl⟩ rfl rfl rfl (by simp only [List.map_cons, List.map_nil, va_rf_cat, List.sum_cons, List.sum_nil] <;> exact Nat.le_of_ble_eq_true rfl) dX4_init_31 ⟨Nat.le_of_ble_eq_true rfl, Nat.le_of_ble_eq_true rfl⟩) hS (fun S8 H locs hw hW hS => ?_)
  obtain ⟨hk9, hw⟩ := hw
  refine m_putR C hW hS rfl hk9 p_X4_22 (fun _ => rfl) rfl dX4_init_34 (fun H locs hW hS => ?_)
  refine m_aldN C dX4_init_37 rfl h0 ?_
  refine m_new C hW hS n_X4_26 (Nat.le_of_ble_eq_true rfl) (Nat.le_of_ble_eq_true rfl) dX4_init_38 (fun q10 H hq10 hW hS => ?_)
  have hw := hw q10 hq10
  refine lv_dup C.1 C.2.1 dX4_init_41 (va_rf_cat _) ?_
  refine m_rV (m_runI (As := []) (rest := [va_rf (some q10), va_rf (some a0)]) C hW hS hL (c_X0_init hw) i_X4_28 ⟨rfl, rfl⟩ ⟨Nat.le_of_ble_eq_true rfl, Nat.le_of_ble_eq_true rfl⟩ rfl rfl rfl (by simp only [List.map_cons, List.map_nil, va_rf_cat, List.sum_cons, List.sum_nil] <;> exact Nat.le_of_ble_eq_true rfl) dX4_init_42 ⟨Nat.le_of_ble_eq_true rfl, Nat.le_of_ble_eq_true rfl⟩) hS (fun S11 H locs hw hW hS => ?_)
  obtain ⟨hk12, hw⟩ := hw
  refine m_putR C hW hS rfl hk12 p_X4_29 (fun _ => rfl) rfl dX4_init_45 (fun H locs hW hS => ?_)
  refine m_aldN C dX4_init_48 rfl h0 ?_
  refine m_new C hW hS n_X4_26 (Nat.le_of_ble_eq_true rfl) (Nat.le_of_ble_eq_true rfl) dX4_init_49 (fun q13 H hq13 hW hS => ?_)
  have hw := hw q13 hq13
  refine lv_dup C.1 C.2.1 dX4_init_52 (va_rf_cat _) ?_
  refine m_rV (m_runI (As := []) (rest := [va_rf (some q13), va_rf (some a0)]) C hW hS hL (c_X0_init hw) i_X4_28 ⟨rfl, rfl⟩ ⟨Nat.le_of_ble_eq_true rfl, Nat.le_of_ble_eq_true rfl⟩ rfl rfl rfl (by simp only [List.map_cons, List.map_nil, va_rf_cat, List.sum_cons, List.sum_nil] <;> exact Nat.le_of_ble_eq_true rfl) dX4_init_53 ⟨Nat.le_of_ble_eq_true rfl, Nat.le_of_ble_eq_true rfl⟩) hS (fun S14 H locs hw hW hS => ?_)
  obtain ⟨hk15, hw⟩ := hw
  refine m_putR C hW hS rfl hk15 p_X4_33 (fun _ => rfl) rfl dX4_init_56 (fun H locs hW hS => ?_)
  refine m_aldN C dX4_init_59 rfl h0 ?_
  refine m_new C hW hS n_X4_36 (Nat.le_of_ble_eq_true rfl) (Nat.le_of_ble_eq_true rfl) dX4_init_60 (fun q16 H hq16 hW hS => ?_)
  have hw := hw q16 hq16
  refine lv_dup C.1 C.2.1 dX4_init_63 (va_rf_cat _) ?_
  refine m_rV (m_runI (As := []) (rest := [va_rf (some q16), va_rf (some a0)]) C hW hS hL (c_X7_init hw) i_X4_38 ⟨rfl, rfl⟩ ⟨Nat.le_of_ble_eq_true rfl, Nat.le_of_ble_eq_true rfl⟩ rfl rfl rfl (by simp only [List.map_cons, List.map_nil, va_rf_cat, List.sum_cons, List.sum_nil] <;> exact Nat.le_of_ble_eq_true rfl) dX4_init_64 ⟨Nat.le_of_ble_eq_true rfl, Nat.le_of_ble_eq_true rfl⟩) hS (fun S17 H locs hw hW hS => ?_)
  obtain ⟨hk18, hw⟩ := hw
  refine m_putR C hW hS rfl hk18 p_X4_39 (fun _ => rfl) rfl dX4_init_67 (fun H locs hW hS => ?_)
  refine m_aldN C dX4_init_70 rfl h0 ?_
  refine m_new C hW hS n_X4_43 (Nat.le_of_ble_eq_true rfl) (Nat.le_of_ble_eq_true rfl) dX4_init_71 (fun q19 H hq19 hW hS => ?_)
  have hw := hw q19 hq19
  refine lv_dup C.1 C.2.1 dX4_init_74 (va_rf_cat _) ?_
  refine m_rV (m_runI (As := []) (rest := [va_rf (some q19), va_rf (some a0)]) C hW hS hL (c_X10_init hw) i_X4_45 ⟨rfl, rfl⟩ ⟨Nat.le_of_ble_eq_true rfl, Nat.le_of_ble_eq_true rfl⟩ rfl rfl rfl (by simp only [List.map_cons, List.map_nil, va_rf_cat, List.sum_cons, List.sum_nil] <;> exact Nat.le_of_ble_eq_true rfl) dX4_init_75 ⟨Nat.le_of_ble_eq_true rfl, Nat.le_of_ble_eq_true rfl⟩) hS (fun S20 H locs hw hW hS => ?_)
  obtain ⟨hk21, hw⟩ := hw
  refine m_putR C hW hS rfl hk21 p_X4_46 (fun _ => rfl) rfl dX4_init_78 (fun H locs hW hS => ?_)
  refine m_aldN C dX4_init_81 rfl h0 ?_
  refine lv_iload_n C.1 C.2.1 dX4_init_82 rfl h1 ?_
  refine m_putI C hW hS rfl hk21 p_X4_50 (fun _ => rfl) rfl dX4_init_83 (fun H locs hW hS => ?_)
  refine m_aldN C dX4_init_86 rfl h0 ?_
  refine m_aldN C dX4_init_87 rfl h2 ?_
  refine m_putR C hW hS rfl hk21 p_X4_54 (fun _ => rfl) rfl dX4_init_88 (fun H locs hW hS => ?_)
  refine m_aldN C dX4_init_91 rfl h0 ?_
  refine lv_iload_n C.1 C.2.1 dX4_init_92 rfl h3 ?_
  refine m_putI C hW hS rfl hk21 p_X4_58 (fun _ => rfl) rfl dX4_init_93 (fun H locs hW hS => ?_)
  refine m_aldN C dX4_init_96 rfl h0 ?_
  refine lv_iload C.1 C.2.1 dX4_init_97 h4 ?_
  refine m_putI C hW hS rfl hk21 p_X4_61 (fun _ => rfl) rfl dX4_init_99 (fun H locs hW hS => ?_)
  exact m_vret C hW hS hw dX4_init_102
def wp_X4_hasPlan (S : Hp) (a0 : Nat) (Q : Int32 → Hp → Prop) : Prop := hK S a0 = 6 ∧ ((hI S a0 11) ≤ 0 → Q 0 S) ∧ (¬ ((hI S a0 11) ≤ 0) → Q 1 S)
set_option maxRecDepth 100000 in
set_option maxHeartbeats 4000000 in
theorem c_X4_hasPlan {l : Launch} {G : GX} {S : Hp} {a0 : Nat} {Q : Int32 → Hp → Prop} (hw : wp_X4_hasPlan S a0 Q) : Met l yX4_hasPlan (Cond.code yX4_hasPlan cX4_hasPlan 1 (some .boolean) :: TS) { frames := 0, cells := 0, slots := 0, locals := 0 } (Pk G S [va_rf (some a0)]) (QI G Q) 0 0 G.2.2.1 := by
  refine m_met (by decide) ?_
  intro p e s m below meth c H locs C hW hS
  have C : Cx p s m ([va_rf (some a0)] : List Value).toArray meth c cX4_hasPlan 1 RX4 (some .boolean) "hasPlan" G := C
  obtain ⟨ls, hent, hL, hla⟩ := m_entry m (vs := [va_rf (some a0)]) (nn := 1) [1] rfl (by decide)
  rw [hent]
  have h0 : ls[0]? = some (.val (va_rf (some a0))) := hla (0, va_rf (some a0)) (List.mem_of_getElem? (i := 0) rfl)
  clear hla
  generalize ([va_rf (some a0)] : List Value).toArray = args at C ⊢
  unfold wp_X4_hasPlan at hw
  refine m_aldN C dX4_hasPlan_0 rfl h0 ?_
  obtain ⟨hk1, hw⟩ := hw
  refine m_getI C hW rfl hk1 f_X4_64 rfl dX4_hasPlan_1 ?_
  refine lv_if_le (tgt := 11) C.1 C.2.1 dX4_hasPlan_4 (by decide) (fun hc2 => ?_) (fun hc2 => ?_)
  · have hw := hw.1 hc2
    refine lv_iconst (v := 0) C.1 C.2.1 dX4_hasPlan_11 (by decide) ?_
    exact m_zret C hW hS (by decide) hw dX4_hasPlan_12
  · have hw := hw.2 hc2
    refine lv_iconst (v := 1) C.1 C.2.1 dX4_hasPlan_7 (by decide) ?_
    refine lv_goto (tgt := 12) C.1 C.2.1 dX4_hasPlan_8 (by decide) ?_
    exact m_zret C hW hS (by decide) hw dX4_hasPlan_12
def wp_X4_endMinute (S : Hp) (a0 : Nat) (Q : Int32 → Hp → Prop) : Prop := hK S a0 = 6 ∧ ∃ b2 : Nat, (hR S a0 15) = some b2 ∧ hK S b2 = 12 ∧ wp_X4_hasPlan S a0 (fun r5 S4 => (r5 = 0 → hK S4 a0 = 6 ∧ Q ((hI S b2 1) + (hI S4 a0 2)) S4) ∧ (¬ (r5 = 0) → hK S4 a0 = 6 ∧ Q ((hI S b2 1) + (hI S4 a0 11)) S4))
set_option maxRecDepth 100000 in
set_option maxHeartbeats 4000000 in
theorem c_X4_endMinute {l : Launch} {G : GX} {S : Hp} {a0 : Nat} {Q : Int32 → Hp → Prop} (hw : wp_X4_endMinute S a0 Q) : Met l yX4_endMinute (Cond.code yX4_endMinute cX4_endMinute 1 (some .int) :: TS) { frames := 1, cells := 0, slots := 0, locals := 20 } (Pk G S [va_rf (some a0)]) (QI G Q) 0 0 G.2.2.1 := by
  refine m_met (by decide) ?_
  intro p e s m below meth c H locs C hW hS
  have C : Cx p s m ([va_rf (some a0)] : List Value).toArray meth c cX4_endMinute 1 RX4 (some .int) "endMinute" G := C
  obtain ⟨ls, hent, hL, hla⟩ := m_entry m (vs := [va_rf (some a0)]) (nn := 1) [1] rfl (by decide)
  rw [hent]
  have h0 : ls[0]? = some (.val (va_rf (some a0))) := hla (0, va_rf (some a0)) (List.mem_of_getElem? (i := 0) rfl)
  clear hla
  generalize ([va_rf (some a0)] : List Value).toArray = args at C ⊢
  unfold wp_X4_endMinute at hw
  refine m_aldN C dX4_endMinute_0 rfl h0 ?_
  obtain ⟨hk1, hw⟩ := hw
  refine m_getR C hW rfl hk1 f_X4_46 rfl dX4_endMinute_1 ?_
  obtain ⟨b2, ho2, hw⟩ := hw
  obtain ⟨hk3, hw⟩ := hw
  refine m_getI C hW ho2 hk3 f_X4_67 rfl dX4_endMinute_4 ?_
  refine m_aldN C dX4_endMinute_7 rfl h0 ?_
  refine m_rI (m_runV (As := []) (rest := [.int (hI S b2 1)]) C hW hS hL (c_X4_hasPlan hw) v_X4_70 ⟨rfl, rfl⟩ ⟨Nat.le_of_ble_eq_true rfl, Nat.le_of_ble_eq_true rfl⟩ rfl hk1 rfl rfl (Nat.le_of_ble_eq_true rfl) dX4_endMinute_8 ⟨Nat.le_of_ble_eq_true rfl, Nat.le_of_ble_eq_true rfl⟩) hS (fun r5 S4 H locs hw hW hS => ?_)
  refine lv_if_eq (tgt := 21) C.1 C.2.1 dX4_endMinute_11 (by decide) (fun hc6 => ?_) (fun hc6 => ?_)
  · have hw := hw.1 hc6
    refine m_aldN C dX4_endMinute_21 rfl h0 ?_
    obtain ⟨hk7, hw⟩ := hw
    refine m_getI C hW rfl hk7 f_X4_58 rfl dX4_endMinute_22 ?_
    refine lv_iadd C.1 C.2.1 dX4_endMinute_25 ?_
    exact m_iret C hW hS hw dX4_endMinute_26
  · have hw := hw.2 hc6
    refine m_aldN C dX4_endMinute_14 rfl h0 ?_
    obtain ⟨hk8, hw⟩ := hw
    refine m_getI C hW rfl hk8 f_X4_64 rfl dX4_endMinute_15 ?_
    refine lv_goto (tgt := 25) C.1 C.2.1 dX4_endMinute_18 (by decide) ?_
    refine lv_iadd C.1 C.2.1 dX4_endMinute_25 ?_
    exact m_iret C hW hS hw dX4_endMinute_26
def wp_Jx4a65c_size_8abf5 (S : Hp) (a0 : Nat) (Q : Int32 → Hp → Prop) : Prop := hK S a0 = 1 ∧ Q (hI S a0 2) S
set_option maxRecDepth 100000 in
set_option maxHeartbeats 4000000 in
theorem c_Jx4a65c_size_8abf5 {l : Launch} {G : GX} {S : Hp} {a0 : Nat} {Q : Int32 → Hp → Prop} (hw : wp_Jx4a65c_size_8abf5 S a0 Q) : Met l yJx4a65c_size_8abf5 (Cond.code yJx4a65c_size_8abf5 cJx4a65c_size_8abf5 1 (some .int) :: TS) { frames := 0, cells := 0, slots := 0, locals := 0 } (Pk G S [va_rf (some a0)]) (QI G Q) 0 0 G.2.2.1 := by
  refine m_met (by decide) ?_
  intro p e s m below meth c H locs C hW hS
  have C : Cx p s m ([va_rf (some a0)] : List Value).toArray meth c cJx4a65c_size_8abf5 1 RJx4a65c (some .int) "size" G := C
  obtain ⟨ls, hent, hL, hla⟩ := m_entry m (vs := [va_rf (some a0)]) (nn := 1) [1] rfl (by decide)
  rw [hent]
  have h0 : ls[0]? = some (.val (va_rf (some a0))) := hla (0, va_rf (some a0)) (List.mem_of_getElem? (i := 0) rfl)
  clear hla
  generalize ([va_rf (some a0)] : List Value).toArray = args at C ⊢
  unfold wp_Jx4a65c_size_8abf5 at hw
  refine m_aldN C dJx4a65c_size_8abf5_0 rfl h0 ?_
  obtain ⟨hk1, hw⟩ := hw
  refine m_getI C hW rfl hk1 f_Jx4a65c_48 rfl dJx4a65c_size_8abf5_1 ?_
  exact m_iret C hW hS hw dJx4a65c_size_8abf5_4
def wp_J3_checkIndex_8e157 (S : Hp) (a0 : Int32) (a1 : Int32) (a2 : Option Nat) (Q : Int32 → Hp → Prop) : Prop := (a0 < 0 → False) ∧ (¬ (a0 < 0) → (a0 < a1 → Q a0 S) ∧ (¬ (a0 < a1) → False))
set_option maxRecDepth 100000 in
set_option maxHeartbeats 4000000 in
theorem c_J3_checkIndex_8e157 {l : Launch} {G : GX} {S : Hp} {a0 : Int32} {a1 : Int32} {a2 : Option Nat} {Q : Int32 → Hp → Prop} (hw : wp_J3_checkIndex_8e157 S a0 a1 a2 Q) : Met l yJ3_checkIndex_8e157 (Cond.code yJ3_checkIndex_8e157 cJ3_checkIndex_8e157 3 (some .int) :: TS) { frames := 0, cells := 0, slots := 0, locals := 0 } (Pk G S [.int a0, .int a1, va_rf a2]) (QI G Q) 0 0 G.2.2.1 := by
  refine m_met (by decide) ?_
  intro p e s m below meth c H locs C hW hS
  have C : Cx p s m ([.int a0, .int a1, va_rf a2] : List Value).toArray meth c cJ3_checkIndex_8e157 3 RJ3 (some .int) "checkIndex" G := C
  obtain ⟨ls, hent, hL, hla⟩ := m_entry m (vs := [.int a0, .int a1, va_rf a2]) (nn := 3) [1, 1, 1] (by simp only [List.map_cons, List.map_nil, va_rf_cat] <;> rfl) (by decide)
  rw [hent]
  have h0 : ls[0]? = some (.val (.int a0)) := hla (0, .int a0) (List.mem_of_getElem? (i := 0) rfl)
  have h1 : ls[1]? = some (.val (.int a1)) := hla (1, .int a1) (List.mem_of_getElem? (i := 1) rfl)
  have h2 : ls[2]? = some (.val (va_rf a2)) := hla (2, va_rf a2) (List.mem_of_getElem? (i := 2) rfl)
  clear hla
  generalize ([.int a0, .int a1, va_rf a2] : List Value).toArray = args at C ⊢
  unfold wp_J3_checkIndex_8e157 at hw
  refine lv_iload_n C.1 C.2.1 dJ3_checkIndex_8e157_0 rfl h0 ?_
  refine lv_if_lt (tgt := 9) C.1 C.2.1 dJ3_checkIndex_8e157_1 (by decide) (fun hc1 => ?_) (fun hc1 => ?_)
  · have hw := hw.1 hc1
    refine m_aldN C dJ3_checkIndex_8e157_9 rfl h2 ?_
    refine lv_iload_n C.1 C.2.1 dJ3_checkIndex_8e157_10 rfl h0 ?_
    refine lv_iload_n C.1 C.2.1 dJ3_checkIndex_8e157_11 rfl h1 ?_
    exact False.elim hw
  · have hw := hw.2 hc1
    refine lv_iload_n C.1 C.2.1 dJ3_checkIndex_8e157_4 rfl h0 ?_
    refine lv_iload_n C.1 C.2.1 dJ3_checkIndex_8e157_5 rfl h1 ?_
    refine lv_icmp_lt (tgt := 16) C.1 C.2.1 dJ3_checkIndex_8e157_6 (by decide) (fun hc2 => ?_) (fun hc2 => ?_)
    · have hw := hw.1 hc2
      refine lv_iload_n C.1 C.2.1 dJ3_checkIndex_8e157_16 rfl h0 ?_
      exact m_iret C hW hS hw dJ3_checkIndex_8e157_17
    · have hw := hw.2 hc2
      refine m_aldN C dJ3_checkIndex_8e157_9 rfl h2 ?_
      refine lv_iload_n C.1 C.2.1 dJ3_checkIndex_8e157_10 rfl h0 ?_
      refine lv_iload_n C.1 C.2.1 dJ3_checkIndex_8e157_11 rfl h1 ?_
      exact False.elim hw
def wp_J15_checkIndex_7cf53 (S : Hp) (a0 : Int32) (a1 : Int32) (Q : Int32 → Hp → Prop) : Prop := wp_J3_checkIndex_8e157 S a0 a1 none (fun r2 S1 => Q r2 S1)
set_option maxRecDepth 100000 in
set_option maxHeartbeats 4000000 in
theorem c_J15_checkIndex_7cf53 {l : Launch} {G : GX} {S : Hp} {a0 : Int32} {a1 : Int32} {Q : Int32 → Hp → Prop} (hw : wp_J15_checkIndex_7cf53 S a0 a1 Q) : Met l yJ15_checkIndex_7cf53 (Cond.code yJ15_checkIndex_7cf53 cJ15_checkIndex_7cf53 2 (some .int) :: TS) { frames := 1, cells := 0, slots := 0, locals := 22 } (Pk G S [.int a0, .int a1]) (QI G Q) 0 0 G.2.2.1 := by
  refine m_met (by decide) ?_
  intro p e s m below meth c H locs C hW hS
  have C : Cx p s m ([.int a0, .int a1] : List Value).toArray meth c cJ15_checkIndex_7cf53 2 RJ15 (some .int) "checkIndex" G := C
  obtain ⟨ls, hent, hL, hla⟩ := m_entry m (vs := [.int a0, .int a1]) (nn := 2) [1, 1] rfl (by decide)
  rw [hent]
  have h0 : ls[0]? = some (.val (.int a0)) := hla (0, .int a0) (List.mem_of_getElem? (i := 0) rfl)
  have h1 : ls[1]? = some (.val (.int a1)) := hla (1, .int a1) (List.mem_of_getElem? (i := 1) rfl)
  clear hla
  generalize ([.int a0, .int a1] : List Value).toArray = args at C ⊢
  unfold wp_J15_checkIndex_7cf53 at hw
  refine lv_iload_n C.1 C.2.1 dJ15_checkIndex_7cf53_0 rfl h0 ?_
  refine lv_iload_n C.1 C.2.1 dJ15_checkIndex_7cf53_1 rfl h1 ?_
  refine lv_null C.1 C.2.1 dJ15_checkIndex_7cf53_2 ?_
  refine W.eq (g2 := F0 m 3 ls ([va_rf none, .int a1, .int a0])) rfl ?_
  refine m_rI (m_runS (As := [.int a0, .int a1, va_rf none]) (rest := []) C hW hS hL (c_J3_checkIndex_8e157 hw) s_J15_105 ⟨rfl, rfl⟩ ⟨Nat.le_of_ble_eq_true rfl, Nat.le_of_ble_eq_true rfl⟩ rfl rfl (Nat.le_of_ble_eq_true rfl) dJ15_checkIndex_7cf53_3 ⟨Nat.le_of_ble_eq_true rfl, Nat.le_of_ble_eq_true rfl⟩) hS (fun r2 S1 H locs hw hW hS => ?_)
  exact m_iret C hW hS hw dJ15_checkIndex_7cf53_6
def wp_Jx4a65c_elementData_915e3 (S : Hp) (a0 : Nat) (a1 : Int32) (Q : Option Nat → Hp → Prop) : Prop := hK S a0 = 1 ∧ ∃ b2 : Nat, (hR S a0 1) = some b2 ∧ hK S b2 = 20 ∧ vp_in a1 (hN S b2) ∧ Q (hR S b2 (a1 : Int32).toNatClampNeg) S
set_option maxRecDepth 100000 in
set_option maxHeartbeats 4000000 in
theorem c_Jx4a65c_elementData_915e3 {l : Launch} {G : GX} {S : Hp} {a0 : Nat} {a1 : Int32} {Q : Option Nat → Hp → Prop} (hw : wp_Jx4a65c_elementData_915e3 S a0 a1 Q) : Met l yJx4a65c_elementData_915e3 (Cond.code yJx4a65c_elementData_915e3 cJx4a65c_elementData_915e3 2 (some (.object "java/lang/Object")) :: TS) { frames := 0, cells := 0, slots := 0, locals := 0 } (Pk G S [va_rf (some a0), .int a1]) (QR G Q) 0 0 G.2.2.1 := by
  refine m_met (by decide) ?_
  intro p e s m below meth c H locs C hW hS
  have C : Cx p s m ([va_rf (some a0), .int a1] : List Value).toArray meth c cJx4a65c_elementData_915e3 2 RJx4a65c (some (.object "java/lang/Object")) "elementData" G := C
  obtain ⟨ls, hent, hL, hla⟩ := m_entry m (vs := [va_rf (some a0), .int a1]) (nn := 2) [1, 1] rfl (by decide)
  rw [hent]
  have h0 : ls[0]? = some (.val (va_rf (some a0))) := hla (0, va_rf (some a0)) (List.mem_of_getElem? (i := 0) rfl)
  have h1 : ls[1]? = some (.val (.int a1)) := hla (1, .int a1) (List.mem_of_getElem? (i := 1) rfl)
  clear hla
  generalize ([va_rf (some a0), .int a1] : List Value).toArray = args at C ⊢
  unfold wp_Jx4a65c_elementData_915e3 at hw
  refine m_aldN C dJx4a65c_elementData_915e3_0 rfl h0 ?_
  obtain ⟨hk1, hw⟩ := hw
  refine m_getR C hW rfl hk1 f_Jx4a65c_9 rfl dJx4a65c_elementData_915e3_1 ?_
  refine lv_iload_n C.1 C.2.1 dJx4a65c_elementData_915e3_4 rfl h1 ?_
  obtain ⟨b2, ho2, hw⟩ := hw
  obtain ⟨hk3, hw⟩ := hw
  obtain ⟨hi4, hw⟩ := hw
  refine m_aald C hW ho2 hk3 (by decide) (by decide) hi4 dJx4a65c_elementData_915e3_5 ?_
  exact m_aret C (Or.inl ⟨_, rfl⟩) hW hS (o := (hR S b2 (a1 : Int32).toNatClampNeg)) hw dJx4a65c_elementData_915e3_6
def wp_Jx4a65c_get_915e3 (S : Hp) (a0 : Nat) (a1 : Int32) (Q : Option Nat → Hp → Prop) : Prop := hK S a0 = 1 ∧ wp_J15_checkIndex_7cf53 S a1 (hI S a0 2) (fun r3 S2 => hK S2 a0 = 1 ∧ wp_Jx4a65c_elementData_915e3 S2 a0 a1 (fun r6 S5 => Q r6 S5))
set_option maxRecDepth 100000 in
set_option maxHeartbeats 4000000 in
theorem c_Jx4a65c_get_915e3 {l : Launch} {G : GX} {S : Hp} {a0 : Nat} {a1 : Int32} {Q : Option Nat → Hp → Prop} (hw : wp_Jx4a65c_get_915e3 S a0 a1 Q) : Met l yJx4a65c_get_915e3 (Cond.code yJx4a65c_get_915e3 cJx4a65c_get_915e3 2 (some (.object "java/lang/Object")) :: TS) { frames := 2, cells := 0, slots := 0, locals := 43 } (Pk G S [va_rf (some a0), .int a1]) (QR G Q) 0 0 G.2.2.1 := by
  refine m_met (by decide) ?_
  intro p e s m below meth c H locs C hW hS
  have C : Cx p s m ([va_rf (some a0), .int a1] : List Value).toArray meth c cJx4a65c_get_915e3 2 RJx4a65c (some (.object "java/lang/Object")) "get" G := C
  obtain ⟨ls, hent, hL, hla⟩ := m_entry m (vs := [va_rf (some a0), .int a1]) (nn := 2) [1, 1] rfl (by decide)
  rw [hent]
  have h0 : ls[0]? = some (.val (va_rf (some a0))) := hla (0, va_rf (some a0)) (List.mem_of_getElem? (i := 0) rfl)
  have h1 : ls[1]? = some (.val (.int a1)) := hla (1, .int a1) (List.mem_of_getElem? (i := 1) rfl)
  clear hla
  generalize ([va_rf (some a0), .int a1] : List Value).toArray = args at C ⊢
  unfold wp_Jx4a65c_get_915e3 at hw
  refine lv_iload_n C.1 C.2.1 dJx4a65c_get_915e3_0 rfl h1 ?_
  refine m_aldN C dJx4a65c_get_915e3_1 rfl h0 ?_
  obtain ⟨hk1, hw⟩ := hw
  refine m_getI C hW rfl hk1 f_Jx4a65c_48 rfl dJx4a65c_get_915e3_2 ?_
  refine m_rI (m_runS (As := [.int a1, .int (hI S a0 2)]) (rest := []) C hW hS hL (c_J15_checkIndex_7cf53 hw) s_Jx4a65c_118 ⟨rfl, rfl⟩ ⟨Nat.le_of_ble_eq_true rfl, Nat.le_of_ble_eq_true rfl⟩ rfl rfl (Nat.le_of_ble_eq_true rfl) dJx4a65c_get_915e3_5 ⟨Nat.le_of_ble_eq_true rfl, Nat.le_of_ble_eq_true rfl⟩) hS (fun r3 S2 H locs hw hW hS => ?_)
  refine lv_pop C.1 C.2.1 dJx4a65c_get_915e3_8 (rfl) ?_
  refine m_aldN C dJx4a65c_get_915e3_9 rfl h0 ?_
  refine lv_iload_n C.1 C.2.1 dJx4a65c_get_915e3_10 rfl h1 ?_
  obtain ⟨hk4, hw⟩ := hw
  refine m_rR (m_runV (As := [.int a1]) (rest := []) C hW hS hL (c_Jx4a65c_elementData_915e3 hw) v_Jx4a65c_123 ⟨rfl, rfl⟩ ⟨Nat.le_of_ble_eq_true rfl, Nat.le_of_ble_eq_true rfl⟩ rfl hk4 rfl rfl (Nat.le_of_ble_eq_true rfl) dJx4a65c_get_915e3_11 ⟨Nat.le_of_ble_eq_true rfl, Nat.le_of_ble_eq_true rfl⟩) hS (fun r6 S5 H locs hw hW hS => ?_)
  exact m_aret C (Or.inl ⟨_, rfl⟩) hW hS (o := r6) hw dJx4a65c_get_915e3_14
def wp_X4_isDirectlyBehind_L2 (l0 : Nat) (l1 : Option Nat) (Q : Int32 → Hp → Prop) : Nat → Hp → Int32 → Prop
  | 0, _, _ => False
  | n + 1, S, l2 => hK S l0 = 6 ∧ ∃ b2 : Nat, (hR S l0 4) = some b2 ∧ hK S b2 = 1 ∧ wp_Jx4a65c_size_8abf5 S b2 (fun r5 S4 => (r5 ≤ l2 → Q 0 S4) ∧ (¬ (r5 ≤ l2) → hK S4 l0 = 6 ∧ ∃ b8 : Nat, (hR S4 l0 4) = some b8 ∧ hK S4 b8 = 1 ∧ wp_Jx4a65c_get_915e3 S4 b8 l2 (fun r11 S10 => (r11 = l1 → Q 1 S10) ∧ (¬ (r11 = l1) → wp_X4_isDirectlyBehind_L2 l0 l1 Q n S10 (l2 + 1)))))
def wp_X4_isDirectlyBehind (S : Hp) (a0 : Nat) (a1 : Option Nat) (Q : Int32 → Hp → Prop) : Prop := wp_X4_isDirectlyBehind_L2 a0 a1 Q FU S 0
set_option maxRecDepth 100000 in
set_option maxHeartbeats 4000000 in
theorem w_X4_isDirectlyBehind_L2 {p : Program} {l : Launch} {e : Env} {s : State} {m : MethodId} {args : Array Value} {below : List Frame} {meth : Method} {c : Code} {G : GX} {Q : Int32 → Hp → Prop} {l0 : Nat} {l1 : Option Nat} (C : Cx p s m args meth c cX4_isDirectlyBehind 3 RX4 (some .boolean) "isDirectlyBehind" G) :
    ∀ (n : Nat) (S : Hp) (l2 : Int32) (H : Heap) (locs : List Loc) (ls : Array Slot), wd G S H → va_S G.2.2.1 s.heap H locs → LV ls 3 → ls[0]? = some (.val (va_rf (some l0))) → ls[1]? = some (.val (va_rf l1)) → ls[2]? = some (.val (.int l2)) → wp_X4_isDirectlyBehind_L2 l0 l1 Q n S l2 → W p l e ({ frames := 3, cells := 0, slots := 0, locals := 64 } : Room) s m args below meth c H locs 0 0 (MQ below (QI G Q) args s 0 0 G.2.2.1) (F0 m 2 ls []) := by
  intro n
  induction n with
  | zero =>
    intro S l2 H locs ls hW hS hL h0 h1 h2 hw
    exact False.elim hw
  | succ n ih =>
    intro S l2 H locs ls hW hS hL h0 h1 h2 hw
    unfold wp_X4_isDirectlyBehind_L2 at hw
    refine lv_iload_n C.1 C.2.1 dX4_isDirectlyBehind_2 rfl h2 ?_
    refine m_aldN C dX4_isDirectlyBehind_3 rfl h0 ?_
    obtain ⟨hk1, hw⟩ := hw
    refine m_getR C hW rfl hk1 f_X4_10 rfl dX4_isDirectlyBehind_4 ?_
    obtain ⟨b2, ho2, hw⟩ := hw
    obtain ⟨hk3, hw⟩ := hw
    refine m_rI (m_runV (As := []) (rest := [.int l2]) C hW hS hL (c_Jx4a65c_size_8abf5 hw) v_X4_74 ⟨rfl, rfl⟩ ⟨Nat.le_of_ble_eq_true rfl, Nat.le_of_ble_eq_true rfl⟩ ho2 hk3 rfl rfl (Nat.le_of_ble_eq_true rfl) dX4_isDirectlyBehind_7 ⟨Nat.le_of_ble_eq_true rfl, Nat.le_of_ble_eq_true rfl⟩) hS (fun r5 S4 H locs hw hW hS => ?_)
    refine lv_icmp_ge (tgt := 33) C.1 C.2.1 dX4_isDirectlyBehind_10 (by decide) (fun hc6 => ?_) (fun hc6 => ?_)
    · have hw := hw.1 hc6
      refine lv_iconst (v := 0) C.1 C.2.1 dX4_isDirectlyBehind_33 (by decide) ?_
      exact m_zret C hW hS (by decide) hw dX4_isDirectlyBehind_34
    · have hw := hw.2 hc6
      refine m_aldN C dX4_isDirectlyBehind_13 rfl h0 ?_
      obtain ⟨hk7, hw⟩ := hw
      refine m_getR C hW rfl hk7 f_X4_10 rfl dX4_isDirectlyBehind_14 ?_
      refine lv_iload_n C.1 C.2.1 dX4_isDirectlyBehind_17 rfl h2 ?_
      obtain ⟨b8, ho8, hw⟩ := hw
      obtain ⟨hk9, hw⟩ := hw
      refine m_rR (m_runV (As := [.int l2]) (rest := []) C hW hS hL (c_Jx4a65c_get_915e3 hw) v_X4_78 ⟨rfl, rfl⟩ ⟨Nat.le_of_ble_eq_true rfl, Nat.le_of_ble_eq_true rfl⟩ ho8 hk9 rfl rfl (Nat.le_of_ble_eq_true rfl) dX4_isDirectlyBehind_18 ⟨Nat.le_of_ble_eq_true rfl, Nat.le_of_ble_eq_true rfl⟩) hS (fun r11 S10 H locs hw hW hS => ?_)
      refine m_aldN C dX4_isDirectlyBehind_21 rfl h1 ?_
      refine lv_acmp_ne (rx := r11) (ry := l1) (tgt := 27) C.1 C.2.1 dX4_isDirectlyBehind_22 (by decide) (fun hc12 => ?_) (fun hc12 => ?_)
      · have hw := hw.2 hc12
        refine m_iinc (v := (l2 + 1)) C hL dX4_isDirectlyBehind_27 h2 rfl (by decide) (fun ls hL hn9 hk9 => ?_)
        have h0 := hk9 0 _ h0 (by decide) (Or.inl (by decide))
        have h1 := hk9 1 _ h1 (by decide) (Or.inr (va_rf_cat _))
        have h2 := hn9
        refine lv_goto (tgt := 2) C.1 C.2.1 dX4_isDirectlyBehind_30 (by decide) ?_
        exact ih S10 (l2 + 1) H locs ls hW hS hL h0 h1 h2 hw
      · have hw := hw.1 hc12
        refine lv_iconst (v := 1) C.1 C.2.1 dX4_isDirectlyBehind_25 (by decide) ?_
        exact m_zret C hW hS (by decide) hw dX4_isDirectlyBehind_26
set_option maxRecDepth 100000 in
set_option maxHeartbeats 4000000 in
theorem c_X4_isDirectlyBehind {l : Launch} {G : GX} {S : Hp} {a0 : Nat} {a1 : Option Nat} {Q : Int32 → Hp → Prop} (hw : wp_X4_isDirectlyBehind S a0 a1 Q) : Met l yX4_isDirectlyBehind (Cond.code yX4_isDirectlyBehind cX4_isDirectlyBehind 3 (some .boolean) :: TS) { frames := 3, cells := 0, slots := 0, locals := 64 } (Pk G S [va_rf (some a0), va_rf a1]) (QI G Q) 0 0 G.2.2.1 := by
  refine m_met (by decide) ?_
  intro p e s m below meth c H locs C hW hS
  have C : Cx p s m ([va_rf (some a0), va_rf a1] : List Value).toArray meth c cX4_isDirectlyBehind 3 RX4 (some .boolean) "isDirectlyBehind" G := C
  obtain ⟨ls, hent, hL, hla⟩ := m_entry m (vs := [va_rf (some a0), va_rf a1]) (nn := 3) [1, 1] (by simp only [List.map_cons, List.map_nil, va_rf_cat] <;> rfl) (by decide)
  rw [hent]
  have h0 : ls[0]? = some (.val (va_rf (some a0))) := hla (0, va_rf (some a0)) (List.mem_of_getElem? (i := 0) rfl)
  have h1 : ls[1]? = some (.val (va_rf a1)) := hla (1, va_rf a1) (List.mem_of_getElem? (i := 1) rfl)
  clear hla
  generalize ([va_rf (some a0), va_rf a1] : List Value).toArray = args at C ⊢
  unfold wp_X4_isDirectlyBehind at hw
  refine lv_iconst (v := 0) C.1 C.2.1 dX4_isDirectlyBehind_0 (by decide) ?_
  refine m_istN C hL dX4_isDirectlyBehind_1 rfl (by decide) (fun ls hL hn9 hk9 => ?_)
  have h0 := hk9 0 _ h0 (by decide) (Or.inl (by decide))
  have h1 := hk9 1 _ h1 (by decide) (Or.inr (va_rf_cat _))
  have h2 := hn9
  exact w_X4_isDirectlyBehind_L2 C  FU S 0 H locs ls hW hS hL h0 h1 h2 hw
def wp_X4_comesAheadOf (S : Hp) (a0 : Nat) (a1 : Option Nat) (Q : Int32 → Hp → Prop) : Prop := hK S a0 = 6 ∧ ∃ b2 : Nat, (hR S a0 1) = some b2 ∧ hK S b2 = 4 ∧ ∃ b4 : Nat, a1 = some b4 ∧ hK S b4 = 6 ∧ ∃ b6 : Nat, (hR S b4 1) = some b6 ∧ hK S b6 = 4 ∧ ((hI S b2 0) = (hI S b6 0) → ((hI S a0 3) = (hI S b4 3) → ((hI S b4 0) ≤ (hI S a0 0) → Q 0 S) ∧ (¬ ((hI S b4 0) ≤ (hI S a0 0)) → Q 1 S)) ∧ (¬ ((hI S a0 3) = (hI S b4 3)) → ((hI S b4 3) ≤ (hI S a0 3) → Q 0 S) ∧ (¬ ((hI S b4 3) ≤ (hI S a0 3)) → Q 1 S))) ∧ (¬ ((hI S b2 0) = (hI S b6 0)) → ((hI S b6 0) ≤ (hI S b2 0) → Q 0 S) ∧ (¬ ((hI S b6 0) ≤ (hI S b2 0)) → Q 1 S))
set_option maxRecDepth 100000 in
set_option maxHeartbeats 4000000 in
theorem c_X4_comesAheadOf {l : Launch} {G : GX} {S : Hp} {a0 : Nat} {a1 : Option Nat} {Q : Int32 → Hp → Prop} (hw : wp_X4_comesAheadOf S a0 a1 Q) : Met l yX4_comesAheadOf (Cond.code yX4_comesAheadOf cX4_comesAheadOf 2 (some .boolean) :: TS) { frames := 0, cells := 0, slots := 0, locals := 0 } (Pk G S [va_rf (some a0), va_rf a1]) (QI G Q) 0 0 G.2.2.1 := by
  refine m_met (by decide) ?_
  intro p e s m below meth c H locs C hW hS
  have C : Cx p s m ([va_rf (some a0), va_rf a1] : List Value).toArray meth c cX4_comesAheadOf 2 RX4 (some .boolean) "comesAheadOf" G := C
  obtain ⟨ls, hent, hL, hla⟩ := m_entry m (vs := [va_rf (some a0), va_rf a1]) (nn := 2) [1, 1] (by simp only [List.map_cons, List.map_nil, va_rf_cat] <;> rfl) (by decide)
  rw [hent]
  have h0 : ls[0]? = some (.val (va_rf (some a0))) := hla (0, va_rf (some a0)) (List.mem_of_getElem? (i := 0) rfl)
  have h1 : ls[1]? = some (.val (va_rf a1)) := hla (1, va_rf a1) (List.mem_of_getElem? (i := 1) rfl)
  clear hla
  generalize ([va_rf (some a0), va_rf a1] : List Value).toArray = args at C ⊢
  unfold wp_X4_comesAheadOf at hw
  refine m_aldN C dX4_comesAheadOf_0 rfl h0 ?_
  obtain ⟨hk1, hw⟩ := hw
  refine m_getR C hW rfl hk1 f_X4_54 rfl dX4_comesAheadOf_1 ?_
  obtain ⟨b2, ho2, hw⟩ := hw
  obtain ⟨hk3, hw⟩ := hw
  refine m_getI C hW ho2 hk3 f_X4_82 rfl dX4_comesAheadOf_4 ?_
  refine m_aldN C dX4_comesAheadOf_7 rfl h1 ?_
  obtain ⟨b4, ho4, hw⟩ := hw
  obtain ⟨hk5, hw⟩ := hw
  refine m_getR C hW ho4 hk5 f_X4_54 rfl dX4_comesAheadOf_8 ?_
  obtain ⟨b6, ho6, hw⟩ := hw
  obtain ⟨hk7, hw⟩ := hw
  refine m_getI C hW ho6 hk7 f_X4_82 rfl dX4_comesAheadOf_11 ?_
  refine lv_icmp_eq (tgt := 40) C.1 C.2.1 dX4_comesAheadOf_14 (by decide) (fun hc8 => ?_) (fun hc8 => ?_)
  · have hw := hw.1 hc8
    refine m_aldN C dX4_comesAheadOf_40 rfl h0 ?_
    refine m_getI C hW rfl hk1 f_X4_61 rfl dX4_comesAheadOf_41 ?_
    refine m_aldN C dX4_comesAheadOf_44 rfl h1 ?_
    refine m_getI C hW ho4 hk5 f_X4_61 rfl dX4_comesAheadOf_45 ?_
    refine lv_icmp_eq (tgt := 68) C.1 C.2.1 dX4_comesAheadOf_48 (by decide) (fun hc9 => ?_) (fun hc9 => ?_)
    · have hw := hw.1 hc9
      refine m_aldN C dX4_comesAheadOf_68 rfl h0 ?_
      refine m_getI C hW rfl hk1 f_X4_50 rfl dX4_comesAheadOf_69 ?_
      refine m_aldN C dX4_comesAheadOf_72 rfl h1 ?_
      refine m_getI C hW ho4 hk5 f_X4_50 rfl dX4_comesAheadOf_73 ?_
      refine lv_icmp_ge (tgt := 83) C.1 C.2.1 dX4_comesAheadOf_76 (by decide) (fun hc10 => ?_) (fun hc10 => ?_)
      · have hw := hw.1 hc10
        refine lv_iconst (v := 0) C.1 C.2.1 dX4_comesAheadOf_83 (by decide) ?_
        exact m_zret C hW hS (by decide) hw dX4_comesAheadOf_84
      · have hw := hw.2 hc10
        refine lv_iconst (v := 1) C.1 C.2.1 dX4_comesAheadOf_79 (by decide) ?_
        refine lv_goto (tgt := 84) C.1 C.2.1 dX4_comesAheadOf_80 (by decide) ?_
        exact m_zret C hW hS (by decide) hw dX4_comesAheadOf_84
    · have hw := hw.2 hc9
      refine m_aldN C dX4_comesAheadOf_51 rfl h0 ?_
      refine m_getI C hW rfl hk1 f_X4_61 rfl dX4_comesAheadOf_52 ?_
      refine m_aldN C dX4_comesAheadOf_55 rfl h1 ?_
      refine m_getI C hW ho4 hk5 f_X4_61 rfl dX4_comesAheadOf_56 ?_
      refine lv_icmp_ge (tgt := 66) C.1 C.2.1 dX4_comesAheadOf_59 (by decide) (fun hc11 => ?_) (fun hc11 => ?_)
      · have hw := hw.1 hc11
        refine lv_iconst (v := 0) C.1 C.2.1 dX4_comesAheadOf_66 (by decide) ?_
        exact m_zret C hW hS (by decide) hw dX4_comesAheadOf_67
      · have hw := hw.2 hc11
        refine lv_iconst (v := 1) C.1 C.2.1 dX4_comesAheadOf_62 (by decide) ?_
        refine lv_goto (tgt := 67) C.1 C.2.1 dX4_comesAheadOf_63 (by decide) ?_
        exact m_zret C hW hS (by decide) hw dX4_comesAheadOf_67
  · have hw := hw.2 hc8
    refine m_aldN C dX4_comesAheadOf_17 rfl h0 ?_
    refine m_getR C hW rfl hk1 f_X4_54 rfl dX4_comesAheadOf_18 ?_
    refine m_getI C hW ho2 hk3 f_X4_82 rfl dX4_comesAheadOf_21 ?_
    refine m_aldN C dX4_comesAheadOf_24 rfl h1 ?_
    refine m_getR C hW ho4 hk5 f_X4_54 rfl dX4_comesAheadOf_25 ?_
    refine m_getI C hW ho6 hk7 f_X4_82 rfl dX4_comesAheadOf_28 ?_
    refine lv_icmp_ge (tgt := 38) C.1 C.2.1 dX4_comesAheadOf_31 (by decide) (fun hc12 => ?_) (fun hc12 => ?_)
    · have hw := hw.1 hc12
      refine lv_iconst (v := 0) C.1 C.2.1 dX4_comesAheadOf_38 (by decide) ?_
      exact m_zret C hW hS (by decide) hw dX4_comesAheadOf_39
    · have hw := hw.2 hc12
      refine lv_iconst (v := 1) C.1 C.2.1 dX4_comesAheadOf_34 (by decide) ?_
      refine lv_goto (tgt := 39) C.1 C.2.1 dX4_comesAheadOf_35 (by decide) ?_
      exact m_zret C hW hS (by decide) hw dX4_comesAheadOf_39
def wp_X5_add (S : Hp) (a0 : Nat) (a1 : Int32) (Q : Hp → Prop) : Prop := (a1 < 0 → Q S) ∧ (¬ (a1 < 0) → (200 ≤ a1 → Q S) ∧ (¬ (200 ≤ a1) → hK S a0 = 7 ∧ ∃ b4 : Nat, (hR S a0 0) = some b4 ∧ hK S b4 = 16 ∧ vp_in (a1 >>> (6 &&& 31)) (hN S b4) ∧ vp_in (a1 >>> (6 &&& 31)) (hN S b4) ∧ Q (sJ S b4 ((a1 >>> (6 &&& 31)) : Int32).toNatClampNeg ((hJ S b4 ((a1 >>> (6 &&& 31)) : Int32).toNatClampNeg) ||| (1 <<< (((a1 &&& 63) : Int32).toInt64 &&& 63))))))
set_option maxRecDepth 100000 in
set_option maxHeartbeats 4000000 in
theorem c_X5_add {l : Launch} {G : GX} {S : Hp} {a0 : Nat} {a1 : Int32} {Q : Hp → Prop} (hw : wp_X5_add S a0 a1 Q) : Met l yX5_add (Cond.code yX5_add cX5_add 2 none :: TS) { frames := 0, cells := 0, slots := 0, locals := 0 } (Pk G S [va_rf (some a0), .int a1]) (QV G Q) 0 0 G.2.2.1 := by
  refine m_met (by decide) ?_
  intro p e s m below meth c H locs C hW hS
  have C : Cx p s m ([va_rf (some a0), .int a1] : List Value).toArray meth c cX5_add 2 RX5 none "add" G := C
  obtain ⟨ls, hent, hL, hla⟩ := m_entry m (vs := [va_rf (some a0), .int a1]) (nn := 2) [1, 1] rfl (by decide)
  rw [hent]
  have h0 : ls[0]? = some (.val (va_rf (some a0))) := hla (0, va_rf (some a0)) (List.mem_of_getElem? (i := 0) rfl)
  have h1 : ls[1]? = some (.val (.int a1)) := hla (1, .int a1) (List.mem_of_getElem? (i := 1) rfl)
  clear hla
  generalize ([va_rf (some a0), .int a1] : List Value).toArray = args at C ⊢
  unfold wp_X5_add at hw
  refine lv_iload_n C.1 C.2.1 dX5_add_0 rfl h1 ?_
  refine lv_if_lt (tgt := 29) C.1 C.2.1 dX5_add_1 (by decide) (fun hc1 => ?_) (fun hc1 => ?_)
  · have hw := hw.1 hc1
    exact m_vret C hW hS hw dX5_add_29
  · have hw := hw.2 hc1
    refine lv_iload_n C.1 C.2.1 dX5_add_4 rfl h1 ?_
    refine lv_sipush (v := 200) C.1 C.2.1 dX5_add_5 (by decide) ?_
    refine lv_icmp_ge (tgt := 29) C.1 C.2.1 dX5_add_8 (by decide) (fun hc2 => ?_) (fun hc2 => ?_)
    · have hw := hw.1 hc2
      exact m_vret C hW hS hw dX5_add_29
    · have hw := hw.2 hc2
      refine m_aldN C dX5_add_11 rfl h0 ?_
      obtain ⟨hk3, hw⟩ := hw
      refine m_getR C hW rfl hk3 f_X5_11 rfl dX5_add_12 ?_
      refine lv_iload_n C.1 C.2.1 dX5_add_15 rfl h1 ?_
      refine lv_bipush (v := 6) C.1 C.2.1 dX5_add_16 (by decide) ?_
      refine lv_ishr C.1 C.2.1 dX5_add_18 ?_
      refine lv_dup2_11 C.1 C.2.1 dX5_add_19 (rfl) (va_rf_cat _) ?_
      obtain ⟨b4, ho4, hw⟩ := hw
      obtain ⟨hk5, hw⟩ := hw
      obtain ⟨hi6, hw⟩ := hw
      refine m_lald C hW ho4 hk5 hi6 dX5_add_20 ?_
      refine lv_lconst (v := 1) C.1 C.2.1 dX5_add_21 (by decide) ?_
      refine lv_iload_n C.1 C.2.1 dX5_add_22 rfl h1 ?_
      refine lv_bipush (v := 63) C.1 C.2.1 dX5_add_23 (by decide) ?_
      refine lv_iand C.1 C.2.1 dX5_add_25 ?_
      refine lv_lshl (v := (1 <<< (((a1 &&& 63) : Int32).toInt64 &&& 63))) C.1 C.2.1 dX5_add_26 rfl ?_
      refine lv_lor C.1 C.2.1 dX5_add_27 ?_
      obtain ⟨hi7, hw⟩ := hw
      refine m_last C hW hS ho4 hk5 hi7 dX5_add_28 (fun H locs hW hS => ?_)
      exact m_vret C hW hS hw dX5_add_29
def wp_X5_has (S : Hp) (a0 : Nat) (a1 : Int32) (Q : Int32 → Hp → Prop) : Prop := (a1 < 0 → Q 0 S) ∧ (¬ (a1 < 0) → (200 ≤ a1 → Q 0 S) ∧ (¬ (200 ≤ a1) → hK S a0 = 7 ∧ ∃ b4 : Nat, (hR S a0 0) = some b4 ∧ hK S b4 = 16 ∧ vp_in (a1 >>> (6 &&& 31)) (hN S b4) ∧ (((hJ S b4 ((a1 >>> (6 &&& 31)) : Int32).toNatClampNeg) &&& (1 <<< (((a1 &&& 63) : Int32).toInt64 &&& 63))) = 0 → Q 0 S) ∧ (¬ (((hJ S b4 ((a1 >>> (6 &&& 31)) : Int32).toNatClampNeg) &&& (1 <<< (((a1 &&& 63) : Int32).toInt64 &&& 63))) = 0) → Q 1 S)))
set_option maxRecDepth 100000 in
set_option maxHeartbeats 4000000 in
theorem c_X5_has {l : Launch} {G : GX} {S : Hp} {a0 : Nat} {a1 : Int32} {Q : Int32 → Hp → Prop} (hw : wp_X5_has S a0 a1 Q) : Met l yX5_has (Cond.code yX5_has cX5_has 2 (some .boolean) :: TS) { frames := 0, cells := 0, slots := 0, locals := 0 } (Pk G S [va_rf (some a0), .int a1]) (QI G Q) 0 0 G.2.2.1 := by
  refine m_met (by decide) ?_
  intro p e s m below meth c H locs C hW hS
  have C : Cx p s m ([va_rf (some a0), .int a1] : List Value).toArray meth c cX5_has 2 RX5 (some .boolean) "has" G := C
  obtain ⟨ls, hent, hL, hla⟩ := m_entry m (vs := [va_rf (some a0), .int a1]) (nn := 2) [1, 1] rfl (by decide)
  rw [hent]
  have h0 : ls[0]? = some (.val (va_rf (some a0))) := hla (0, va_rf (some a0)) (List.mem_of_getElem? (i := 0) rfl)
  have h1 : ls[1]? = some (.val (.int a1)) := hla (1, .int a1) (List.mem_of_getElem? (i := 1) rfl)
  clear hla
  generalize ([va_rf (some a0), .int a1] : List Value).toArray = args at C ⊢
  unfold wp_X5_has at hw
  refine lv_iload_n C.1 C.2.1 dX5_has_0 rfl h1 ?_
  refine lv_if_lt (tgt := 36) C.1 C.2.1 dX5_has_1 (by decide) (fun hc1 => ?_) (fun hc1 => ?_)
  · have hw := hw.1 hc1
    refine lv_iconst (v := 0) C.1 C.2.1 dX5_has_36 (by decide) ?_
    exact m_zret C hW hS (by decide) hw dX5_has_37
  · have hw := hw.2 hc1
    refine lv_iload_n C.1 C.2.1 dX5_has_4 rfl h1 ?_
    refine lv_sipush (v := 200) C.1 C.2.1 dX5_has_5 (by decide) ?_
    refine lv_icmp_ge (tgt := 36) C.1 C.2.1 dX5_has_8 (by decide) (fun hc2 => ?_) (fun hc2 => ?_)
    · have hw := hw.1 hc2
      refine lv_iconst (v := 0) C.1 C.2.1 dX5_has_36 (by decide) ?_
      exact m_zret C hW hS (by decide) hw dX5_has_37
    · have hw := hw.2 hc2
      refine m_aldN C dX5_has_11 rfl h0 ?_
      obtain ⟨hk3, hw⟩ := hw
      refine m_getR C hW rfl hk3 f_X5_11 rfl dX5_has_12 ?_
      refine lv_iload_n C.1 C.2.1 dX5_has_15 rfl h1 ?_
      refine lv_bipush (v := 6) C.1 C.2.1 dX5_has_16 (by decide) ?_
      refine lv_ishr C.1 C.2.1 dX5_has_18 ?_
      obtain ⟨b4, ho4, hw⟩ := hw
      obtain ⟨hk5, hw⟩ := hw
      obtain ⟨hi6, hw⟩ := hw
      refine m_lald C hW ho4 hk5 hi6 dX5_has_19 ?_
      refine lv_lconst (v := 1) C.1 C.2.1 dX5_has_20 (by decide) ?_
      refine lv_iload_n C.1 C.2.1 dX5_has_21 rfl h1 ?_
      refine lv_bipush (v := 63) C.1 C.2.1 dX5_has_22 (by decide) ?_
      refine lv_iand C.1 C.2.1 dX5_has_24 ?_
      refine lv_lshl (v := (1 <<< (((a1 &&& 63) : Int32).toInt64 &&& 63))) C.1 C.2.1 dX5_has_25 rfl ?_
      refine lv_land C.1 C.2.1 dX5_has_26 ?_
      refine lv_lconst (v := 0) C.1 C.2.1 dX5_has_27 (by decide) ?_
      refine W.lcmp C.1 C.2.1 dX5_has_28 ?_
      refine lv_if_eq (tgt := 36) C.1 C.2.1 dX5_has_29 (by decide) (fun hc7 => ?_) (fun hc7 => ?_)
      · have hw := hw.1 ((q_eq _ _).mp hc7)
        refine lv_iconst (v := 0) C.1 C.2.1 dX5_has_36 (by decide) ?_
        exact m_zret C hW hS (by decide) hw dX5_has_37
      · have hw := hw.2 (fun z => hc7 ((q_eq _ _).mpr z))
        refine lv_iconst (v := 1) C.1 C.2.1 dX5_has_32 (by decide) ?_
        refine lv_goto (tgt := 37) C.1 C.2.1 dX5_has_33 (by decide) ?_
        exact m_zret C hW hS (by decide) hw dX5_has_37
def wp_X5_addAll_L2 (l0 : Nat) (l1 : Option Nat) (Q : Hp → Prop) : Nat → Hp → Int32 → Prop
  | 0, _, _ => False
  | n + 1, S, l2 => (4 ≤ l2 → Q S) ∧ (¬ (4 ≤ l2) → hK S l0 = 7 ∧ ∃ b3 : Nat, (hR S l0 0) = some b3 ∧ hK S b3 = 16 ∧ vp_in l2 (hN S b3) ∧ ∃ b6 : Nat, l1 = some b6 ∧ hK S b6 = 7 ∧ ∃ b8 : Nat, (hR S b6 0) = some b8 ∧ hK S b8 = 16 ∧ vp_in l2 (hN S b8) ∧ vp_in l2 (hN S b3) ∧ wp_X5_addAll_L2 l0 l1 Q n (sJ S b3 (l2 : Int32).toNatClampNeg ((hJ S b3 (l2 : Int32).toNatClampNeg) ||| (hJ S b8 (l2 : Int32).toNatClampNeg))) (l2 + 1))
def wp_X5_addAll (S : Hp) (a0 : Nat) (a1 : Option Nat) (Q : Hp → Prop) : Prop := wp_X5_addAll_L2 a0 a1 Q FU S 0
set_option maxRecDepth 100000 in
set_option maxHeartbeats 4000000 in
theorem w_X5_addAll_L2 {p : Program} {l : Launch} {e : Env} {s : State} {m : MethodId} {args : Array Value} {below : List Frame} {meth : Method} {c : Code} {G : GX} {Q : Hp → Prop} {l0 : Nat} {l1 : Option Nat} (C : Cx p s m args meth c cX5_addAll 3 RX5 none "addAll" G) :
    ∀ (n : Nat) (S : Hp) (l2 : Int32) (H : Heap) (locs : List Loc) (ls : Array Slot), wd G S H → va_S G.2.2.1 s.heap H locs → LV ls 3 → ls[0]? = some (.val (va_rf (some l0))) → ls[1]? = some (.val (va_rf l1)) → ls[2]? = some (.val (.int l2)) → wp_X5_addAll_L2 l0 l1 Q n S l2 → W p l e ({ frames := 0, cells := 0, slots := 0, locals := 0 } : Room) s m args below meth c H locs 0 0 (MQ below (QV G Q) args s 0 0 G.2.2.1) (F0 m 2 ls []) := by
  intro n
  induction n with
  | zero =>
    intro S l2 H locs ls hW hS hL h0 h1 h2 hw
    exact False.elim hw
  | succ n ih =>
    intro S l2 H locs ls hW hS hL h0 h1 h2 hw
    unfold wp_X5_addAll_L2 at hw
    refine lv_iload_n C.1 C.2.1 dX5_addAll_2 rfl h2 ?_
    refine lv_iconst (v := 4) C.1 C.2.1 dX5_addAll_3 (by decide) ?_
    refine lv_icmp_ge (tgt := 28) C.1 C.2.1 dX5_addAll_4 (by decide) (fun hc1 => ?_) (fun hc1 => ?_)
    · have hw := hw.1 hc1
      exact m_vret C hW hS hw dX5_addAll_28
    · have hw := hw.2 hc1
      refine m_aldN C dX5_addAll_7 rfl h0 ?_
      obtain ⟨hk2, hw⟩ := hw
      refine m_getR C hW rfl hk2 f_X5_11 rfl dX5_addAll_8 ?_
      refine lv_iload_n C.1 C.2.1 dX5_addAll_11 rfl h2 ?_
      refine lv_dup2_11 C.1 C.2.1 dX5_addAll_12 (rfl) (va_rf_cat _) ?_
      obtain ⟨b3, ho3, hw⟩ := hw
      obtain ⟨hk4, hw⟩ := hw
      obtain ⟨hi5, hw⟩ := hw
      refine m_lald C hW ho3 hk4 hi5 dX5_addAll_13 ?_
      refine m_aldN C dX5_addAll_14 rfl h1 ?_
      obtain ⟨b6, ho6, hw⟩ := hw
      obtain ⟨hk7, hw⟩ := hw
      refine m_getR C hW ho6 hk7 f_X5_11 rfl dX5_addAll_15 ?_
      refine lv_iload_n C.1 C.2.1 dX5_addAll_18 rfl h2 ?_
      obtain ⟨b8, ho8, hw⟩ := hw
      obtain ⟨hk9, hw⟩ := hw
      obtain ⟨hi10, hw⟩ := hw
      refine m_lald C hW ho8 hk9 hi10 dX5_addAll_19 ?_
      refine lv_lor C.1 C.2.1 dX5_addAll_20 ?_
      obtain ⟨hi11, hw⟩ := hw
      refine m_last C hW hS ho3 hk4 hi11 dX5_addAll_21 (fun H locs hW hS => ?_)
      refine m_iinc (v := (l2 + 1)) C hL dX5_addAll_22 h2 rfl (by decide) (fun ls hL hn9 hk9 => ?_)
      have h0 := hk9 0 _ h0 (by decide) (Or.inl (by decide))
      have h1 := hk9 1 _ h1 (by decide) (Or.inr (va_rf_cat _))
      have h2 := hn9
      refine lv_goto (tgt := 2) C.1 C.2.1 dX5_addAll_25 (by decide) ?_
      exact ih (sJ S b3 (l2 : Int32).toNatClampNeg ((hJ S b3 (l2 : Int32).toNatClampNeg) ||| (hJ S b8 (l2 : Int32).toNatClampNeg))) (l2 + 1) H locs ls hW hS hL h0 h1 h2 hw
set_option maxRecDepth 100000 in
set_option maxHeartbeats 4000000 in
theorem c_X5_addAll {l : Launch} {G : GX} {S : Hp} {a0 : Nat} {a1 : Option Nat} {Q : Hp → Prop} (hw : wp_X5_addAll S a0 a1 Q) : Met l yX5_addAll (Cond.code yX5_addAll cX5_addAll 3 none :: TS) { frames := 0, cells := 0, slots := 0, locals := 0 } (Pk G S [va_rf (some a0), va_rf a1]) (QV G Q) 0 0 G.2.2.1 := by
  refine m_met (by decide) ?_
  intro p e s m below meth c H locs C hW hS
  have C : Cx p s m ([va_rf (some a0), va_rf a1] : List Value).toArray meth c cX5_addAll 3 RX5 none "addAll" G := C
  obtain ⟨ls, hent, hL, hla⟩ := m_entry m (vs := [va_rf (some a0), va_rf a1]) (nn := 3) [1, 1] (by simp only [List.map_cons, List.map_nil, va_rf_cat] <;> rfl) (by decide)
  rw [hent]
  have h0 : ls[0]? = some (.val (va_rf (some a0))) := hla (0, va_rf (some a0)) (List.mem_of_getElem? (i := 0) rfl)
  have h1 : ls[1]? = some (.val (va_rf a1)) := hla (1, va_rf a1) (List.mem_of_getElem? (i := 1) rfl)
  clear hla
  generalize ([va_rf (some a0), va_rf a1] : List Value).toArray = args at C ⊢
  unfold wp_X5_addAll at hw
  refine lv_iconst (v := 0) C.1 C.2.1 dX5_addAll_0 (by decide) ?_
  refine m_istN C hL dX5_addAll_1 rfl (by decide) (fun ls hL hn9 hk9 => ?_)
  have h0 := hk9 0 _ h0 (by decide) (Or.inl (by decide))
  have h1 := hk9 1 _ h1 (by decide) (Or.inr (va_rf_cat _))
  have h2 := hn9
  exact w_X5_addAll_L2 C  FU S 0 H locs ls hW hS hL h0 h1 h2 hw
def wp_X5_meets_L2 (S : Hp) (l0 : Nat) (l1 : Option Nat) (Q : Int32 → Hp → Prop) : Nat → Int32 → Prop
  | 0, _ => False
  | n + 1, l2 => (4 ≤ l2 → Q 0 S) ∧ (¬ (4 ≤ l2) → hK S l0 = 7 ∧ ∃ b3 : Nat, (hR S l0 0) = some b3 ∧ hK S b3 = 16 ∧ vp_in l2 (hN S b3) ∧ ∃ b6 : Nat, l1 = some b6 ∧ hK S b6 = 7 ∧ ∃ b8 : Nat, (hR S b6 0) = some b8 ∧ hK S b8 = 16 ∧ vp_in l2 (hN S b8) ∧ (((hJ S b3 (l2 : Int32).toNatClampNeg) &&& (hJ S b8 (l2 : Int32).toNatClampNeg)) = 0 → wp_X5_meets_L2 S l0 l1 Q n (l2 + 1)) ∧ (¬ (((hJ S b3 (l2 : Int32).toNatClampNeg) &&& (hJ S b8 (l2 : Int32).toNatClampNeg)) = 0) → Q 1 S))
def wp_X5_meets (S : Hp) (a0 : Nat) (a1 : Option Nat) (Q : Int32 → Hp → Prop) : Prop := wp_X5_meets_L2 S a0 a1 Q FU 0
set_option maxRecDepth 100000 in
set_option maxHeartbeats 4000000 in
theorem w_X5_meets_L2 {p : Program} {l : Launch} {e : Env} {s : State} {m : MethodId} {args : Array Value} {below : List Frame} {meth : Method} {c : Code} {G : GX} {Q : Int32 → Hp → Prop} {l0 : Nat} {l1 : Option Nat} {S : Hp} {H : Heap} {locs : List Loc} (C : Cx p s m args meth c cX5_meets 3 RX5 (some .boolean) "meets" G) (hW : wd G S H) (hS : va_S G.2.2.1 s.heap H locs) :
    ∀ (n : Nat) (l2 : Int32) (ls : Array Slot), LV ls 3 → ls[0]? = some (.val (va_rf (some l0))) → ls[1]? = some (.val (va_rf l1)) → ls[2]? = some (.val (.int l2)) → wp_X5_meets_L2 S l0 l1 Q n l2 → W p l e ({ frames := 0, cells := 0, slots := 0, locals := 0 } : Room) s m args below meth c H locs 0 0 (MQ below (QI G Q) args s 0 0 G.2.2.1) (F0 m 2 ls []) := by
  intro n
  induction n with
  | zero =>
    intro l2 ls hL h0 h1 h2 hw
    exact False.elim hw
  | succ n ih =>
    intro l2 ls hL h0 h1 h2 hw
    unfold wp_X5_meets_L2 at hw
    refine lv_iload_n C.1 C.2.1 dX5_meets_2 rfl h2 ?_
    refine lv_iconst (v := 4) C.1 C.2.1 dX5_meets_3 (by decide) ?_
    refine lv_icmp_ge (tgt := 33) C.1 C.2.1 dX5_meets_4 (by decide) (fun hc1 => ?_) (fun hc1 => ?_)
    · have hw := hw.1 hc1
      refine lv_iconst (v := 0) C.1 C.2.1 dX5_meets_33 (by decide) ?_
      exact m_zret C hW hS (by decide) hw dX5_meets_34
    · have hw := hw.2 hc1
      refine m_aldN C dX5_meets_7 rfl h0 ?_
      obtain ⟨hk2, hw⟩ := hw
      refine m_getR C hW rfl hk2 f_X5_11 rfl dX5_meets_8 ?_
      refine lv_iload_n C.1 C.2.1 dX5_meets_11 rfl h2 ?_
      obtain ⟨b3, ho3, hw⟩ := hw
      obtain ⟨hk4, hw⟩ := hw
      obtain ⟨hi5, hw⟩ := hw
      refine m_lald C hW ho3 hk4 hi5 dX5_meets_12 ?_
      refine m_aldN C dX5_meets_13 rfl h1 ?_
      obtain ⟨b6, ho6, hw⟩ := hw
      obtain ⟨hk7, hw⟩ := hw
      refine m_getR C hW ho6 hk7 f_X5_11 rfl dX5_meets_14 ?_
      refine lv_iload_n C.1 C.2.1 dX5_meets_17 rfl h2 ?_
      obtain ⟨b8, ho8, hw⟩ := hw
      obtain ⟨hk9, hw⟩ := hw
      obtain ⟨hi10, hw⟩ := hw
      refine m_lald C hW ho8 hk9 hi10 dX5_meets_18 ?_
      refine lv_land C.1 C.2.1 dX5_meets_19 ?_
      refine lv_lconst (v := 0) C.1 C.2.1 dX5_meets_20 (by decide) ?_
      refine W.lcmp C.1 C.2.1 dX5_meets_21 ?_
      refine lv_if_eq (tgt := 27) C.1 C.2.1 dX5_meets_22 (by decide) (fun hc11 => ?_) (fun hc11 => ?_)
      · have hw := hw.1 ((q_eq _ _).mp hc11)
        refine m_iinc (v := (l2 + 1)) C hL dX5_meets_27 h2 rfl (by decide) (fun ls hL hn9 hk9 => ?_)
        have h0 := hk9 0 _ h0 (by decide) (Or.inl (by decide))
        have h1 := hk9 1 _ h1 (by decide) (Or.inr (va_rf_cat _))
        have h2 := hn9
        refine lv_goto (tgt := 2) C.1 C.2.1 dX5_meets_30 (by decide) ?_
        exact ih (l2 + 1) ls hL h0 h1 h2 hw
      · have hw := hw.2 (fun z => hc11 ((q_eq _ _).mpr z))
        refine lv_iconst (v := 1) C.1 C.2.1 dX5_meets_25 (by decide) ?_
        exact m_zret C hW hS (by decide) hw dX5_meets_26
set_option maxRecDepth 100000 in
set_option maxHeartbeats 4000000 in
theorem c_X5_meets {l : Launch} {G : GX} {S : Hp} {a0 : Nat} {a1 : Option Nat} {Q : Int32 → Hp → Prop} (hw : wp_X5_meets S a0 a1 Q) : Met l yX5_meets (Cond.code yX5_meets cX5_meets 3 (some .boolean) :: TS) { frames := 0, cells := 0, slots := 0, locals := 0 } (Pk G S [va_rf (some a0), va_rf a1]) (QI G Q) 0 0 G.2.2.1 := by
  refine m_met (by decide) ?_
  intro p e s m below meth c H locs C hW hS
  have C : Cx p s m ([va_rf (some a0), va_rf a1] : List Value).toArray meth c cX5_meets 3 RX5 (some .boolean) "meets" G := C
  obtain ⟨ls, hent, hL, hla⟩ := m_entry m (vs := [va_rf (some a0), va_rf a1]) (nn := 3) [1, 1] (by simp only [List.map_cons, List.map_nil, va_rf_cat] <;> rfl) (by decide)
  rw [hent]
  have h0 : ls[0]? = some (.val (va_rf (some a0))) := hla (0, va_rf (some a0)) (List.mem_of_getElem? (i := 0) rfl)
  have h1 : ls[1]? = some (.val (va_rf a1)) := hla (1, va_rf a1) (List.mem_of_getElem? (i := 1) rfl)
  clear hla
  generalize ([va_rf (some a0), va_rf a1] : List Value).toArray = args at C ⊢
  unfold wp_X5_meets at hw
  refine lv_iconst (v := 0) C.1 C.2.1 dX5_meets_0 (by decide) ?_
  refine m_istN C hL dX5_meets_1 rfl (by decide) (fun ls hL hn9 hk9 => ?_)
  have h0 := hk9 0 _ h0 (by decide) (Or.inl (by decide))
  have h1 := hk9 1 _ h1 (by decide) (Or.inr (va_rf_cat _))
  have h2 := hn9
  exact w_X5_meets_L2 C hW hS  FU 0 ls hL h0 h1 h2 hw
def wp_X5_clear_L2 (l0 : Nat) (Q : Hp → Prop) : Nat → Hp → Int32 → Prop
  | 0, _, _ => False
  | n + 1, S, l1 => (4 ≤ l1 → Q S) ∧ (¬ (4 ≤ l1) → hK S l0 = 7 ∧ ∃ b3 : Nat, (hR S l0 0) = some b3 ∧ hK S b3 = 16 ∧ vp_in l1 (hN S b3) ∧ wp_X5_clear_L2 l0 Q n (sJ S b3 (l1 : Int32).toNatClampNeg 0) (l1 + 1))
def wp_X5_clear (S : Hp) (a0 : Nat) (Q : Hp → Prop) : Prop := wp_X5_clear_L2 a0 Q FU S 0
set_option maxRecDepth 100000 in
set_option maxHeartbeats 4000000 in
theorem w_X5_clear_L2 {p : Program} {l : Launch} {e : Env} {s : State} {m : MethodId} {args : Array Value} {below : List Frame} {meth : Method} {c : Code} {G : GX} {Q : Hp → Prop} {l0 : Nat} (C : Cx p s m args meth c cX5_clear 2 RX5 none "clear" G) :
    ∀ (n : Nat) (S : Hp) (l1 : Int32) (H : Heap) (locs : List Loc) (ls : Array Slot), wd G S H → va_S G.2.2.1 s.heap H locs → LV ls 2 → ls[0]? = some (.val (va_rf (some l0))) → ls[1]? = some (.val (.int l1)) → wp_X5_clear_L2 l0 Q n S l1 → W p l e ({ frames := 0, cells := 0, slots := 0, locals := 0 } : Room) s m args below meth c H locs 0 0 (MQ below (QV G Q) args s 0 0 G.2.2.1) (F0 m 2 ls []) := by
  intro n
  induction n with
  | zero =>
    intro S l1 H locs ls hW hS hL h0 h1 hw
    exact False.elim hw
  | succ n ih =>
    intro S l1 H locs ls hW hS hL h0 h1 hw
    unfold wp_X5_clear_L2 at hw
    refine lv_iload_n C.1 C.2.1 dX5_clear_2 rfl h1 ?_
    refine lv_iconst (v := 4) C.1 C.2.1 dX5_clear_3 (by decide) ?_
    refine lv_icmp_ge (tgt := 20) C.1 C.2.1 dX5_clear_4 (by decide) (fun hc1 => ?_) (fun hc1 => ?_)
    · have hw := hw.1 hc1
      exact m_vret C hW hS hw dX5_clear_20
    · have hw := hw.2 hc1
      refine m_aldN C dX5_clear_7 rfl h0 ?_
      obtain ⟨hk2, hw⟩ := hw
      refine m_getR C hW rfl hk2 f_X5_11 rfl dX5_clear_8 ?_
      refine lv_iload_n C.1 C.2.1 dX5_clear_11 rfl h1 ?_
      refine lv_lconst (v := 0) C.1 C.2.1 dX5_clear_12 (by decide) ?_
      obtain ⟨b3, ho3, hw⟩ := hw
      obtain ⟨hk4, hw⟩ := hw
      obtain ⟨hi5, hw⟩ := hw
      refine m_last C hW hS ho3 hk4 hi5 dX5_clear_13 (fun H locs hW hS => ?_)
      refine m_iinc (v := (l1 + 1)) C hL dX5_clear_14 h1 rfl (by decide) (fun ls hL hn9 hk9 => ?_)
      have h0 := hk9 0 _ h0 (by decide) (Or.inr (va_rf_cat _))
      have h1 := hn9
      refine lv_goto (tgt := 2) C.1 C.2.1 dX5_clear_17 (by decide) ?_
      exact ih (sJ S b3 (l1 : Int32).toNatClampNeg 0) (l1 + 1) H locs ls hW hS hL h0 h1 hw
set_option maxRecDepth 100000 in
set_option maxHeartbeats 4000000 in
theorem c_X5_clear {l : Launch} {G : GX} {S : Hp} {a0 : Nat} {Q : Hp → Prop} (hw : wp_X5_clear S a0 Q) : Met l yX5_clear (Cond.code yX5_clear cX5_clear 2 none :: TS) { frames := 0, cells := 0, slots := 0, locals := 0 } (Pk G S [va_rf (some a0)]) (QV G Q) 0 0 G.2.2.1 := by
  refine m_met (by decide) ?_
  intro p e s m below meth c H locs C hW hS
  have C : Cx p s m ([va_rf (some a0)] : List Value).toArray meth c cX5_clear 2 RX5 none "clear" G := C
  obtain ⟨ls, hent, hL, hla⟩ := m_entry m (vs := [va_rf (some a0)]) (nn := 2) [1] rfl (by decide)
  rw [hent]
  have h0 : ls[0]? = some (.val (va_rf (some a0))) := hla (0, va_rf (some a0)) (List.mem_of_getElem? (i := 0) rfl)
  clear hla
  generalize ([va_rf (some a0)] : List Value).toArray = args at C ⊢
  unfold wp_X5_clear at hw
  refine lv_iconst (v := 0) C.1 C.2.1 dX5_clear_0 (by decide) ?_
  refine m_istN C hL dX5_clear_1 rfl (by decide) (fun ls hL hn9 hk9 => ?_)
  have h0 := hk9 0 _ h0 (by decide) (Or.inr (va_rf_cat _))
  have h1 := hn9
  exact w_X5_clear_L2 C  FU S 0 H locs ls hW hS hL h0 h1 hw
def wp_X6_init (S : Hp) (a0 : Nat) (a1 : Option Nat) (Q : Hp → Prop) : Prop := ∀ q1 : Nat, hK S q1 = 0 → hK (sN S q1 19 200) a0 = 8 ∧ ∀ q3 : Nat, hK (sR (sN S q1 19 200) a0 1 (some q1)) q3 = 0 → hK (sN (sR (sN S q1 19 200) a0 1 (some q1)) q3 15 200) a0 = 8 ∧ ∀ q5 : Nat, hK (sR (sN (sR (sN S q1 19 200) a0 1 (some q1)) q3 15 200) a0 2 (some q3)) q5 = 0 → hK (sN (sR (sN (sR (sN S q1 19 200) a0 1 (some q1)) q3 15 200) a0 2 (some q3)) q5 19 200) a0 = 8 ∧ Q (sR (sR (sN (sR (sN (sR (sN S q1 19 200) a0 1 (some q1)) q3 15 200) a0 2 (some q3)) q5 19 200) a0 4 (some q5)) a0 0 a1)
set_option maxRecDepth 100000 in
set_option maxHeartbeats 4000000 in
theorem c_X6_init {l : Launch} {G : GX} {S : Hp} {a0 : Nat} {a1 : Option Nat} {Q : Hp → Prop} (hw : wp_X6_init S a0 a1 Q) : Met l yX6_init (Cond.code yX6_init cX6_init 2 none :: TS) { frames := 1, cells := 3, slots := 600, locals := 20 } (Pk G S [va_rf (some a0), va_rf a1]) (QV G Q) 3 600 G.2.2.1 := by
  refine m_met (by decide) ?_
  intro p e s m below meth c H locs C hW hS
  have C : Cx p s m ([va_rf (some a0), va_rf a1] : List Value).toArray meth c cX6_init 2 RX6 none "<init>" G := C
  obtain ⟨ls, hent, hL, hla⟩ := m_entry m (vs := [va_rf (some a0), va_rf a1]) (nn := 2) [1, 1] (by simp only [List.map_cons, List.map_nil, va_rf_cat] <;> rfl) (by decide)
  rw [hent]
  have h0 : ls[0]? = some (.val (va_rf (some a0))) := hla (0, va_rf (some a0)) (List.mem_of_getElem? (i := 0) rfl)
  have h1 : ls[1]? = some (.val (va_rf a1)) := hla (1, va_rf a1) (List.mem_of_getElem? (i := 1) rfl)
  clear hla
  generalize ([va_rf (some a0), va_rf a1] : List Value).toArray = args at C ⊢
  unfold wp_X6_init at hw
  refine m_aldN C dX6_init_0 rfl h0 ?_
  refine m_obj C tw_93 tw_33 tw_34 hL.1 ⟨Nat.le_of_ble_eq_true rfl, Nat.le_of_ble_eq_true rfl⟩ (Nat.le_of_ble_eq_true rfl) rfl dX6_init_1 ?_
  refine m_aldN C dX6_init_4 rfl h0 ?_
  refine lv_sipush (v := 200) C.1 C.2.1 dX6_init_5 (by decide) ?_
  refine m_anew (k := 19) (N := 200) C hW hS (by decide) (by decide) rfl (by decide) tw_94 (by decide) (by decide) (by decide) (Nat.le_of_ble_eq_true rfl) (Nat.le_of_ble_eq_true rfl) dX6_init_8 (fun q1 H hq1 hW hS => ?_)
  have hw := hw q1 hq1
  obtain ⟨hk2, hw⟩ := hw
  refine m_putR C hW hS rfl hk2 p_X6_11 (fun _ => rfl) rfl dX6_init_11 (fun H locs hW hS => ?_)
  refine m_aldN C dX6_init_14 rfl h0 ?_
  refine lv_sipush (v := 200) C.1 C.2.1 dX6_init_15 (by decide) ?_
  refine m_newa (N := 200) C hW hS (Or.inl ⟨rfl, rfl⟩) tw_122 (by decide) (by decide) (by decide) (Nat.le_of_ble_eq_true rfl) (Nat.le_of_ble_eq_true rfl) dX6_init_18 (fun q3 H hq3 hW hS => ?_)
  have hw := hw q3 hq3
  obtain ⟨hk4, hw⟩ := hw
  refine m_putR C hW hS rfl hk4 p_X6_17 (fun _ => rfl) rfl dX6_init_20 (fun H locs hW hS => ?_)
  refine m_aldN C dX6_init_23 rfl h0 ?_
  refine lv_sipush (v := 200) C.1 C.2.1 dX6_init_24 (by decide) ?_
  refine m_anew (k := 19) (N := 200) C hW hS (by decide) (by decide) rfl (by decide) tw_94 (by decide) (by decide) (by decide) (Nat.le_of_ble_eq_true rfl) (Nat.le_of_ble_eq_true rfl) dX6_init_27 (fun q5 H hq5 hW hS => ?_)
  have hw := hw q5 hq5
  obtain ⟨hk6, hw⟩ := hw
  refine m_putR C hW hS rfl hk6 p_X6_21 (fun _ => rfl) rfl dX6_init_30 (fun H locs hW hS => ?_)
  refine m_aldN C dX6_init_33 rfl h0 ?_
  refine m_aldN C dX6_init_34 rfl h1 ?_
  refine m_putR C hW hS rfl hk6 p_X6_24 (fun _ => rfl) rfl dX6_init_35 (fun H locs hW hS => ?_)
  exact m_vret C hW hS hw dX6_init_38
def wp_X6_putSorted (S : Hp) (a0 : Nat) (a1 : Option Nat) (Q : Hp → Prop) : Prop := hK S a0 = 8 ∧ (200 ≤ (hI S a0 3) → Q S) ∧ (¬ (200 ≤ (hI S a0 3)) → ∃ b3 : Nat, (hR S a0 1) = some b3 ∧ hK S b3 = 19 ∧ vp_in (hI S a0 3) (hN S b3) ∧ ∃ b6 : Nat, a1 = some b6 ∧ hK S b6 = 6 ∧ Q (sI (sR S b3 ((hI S a0 3) : Int32).toNatClampNeg a1) a0 3 ((hI (sR S b3 ((hI S a0 3) : Int32).toNatClampNeg a1) a0 3) + 1)))
set_option maxRecDepth 100000 in
set_option maxHeartbeats 4000000 in
theorem c_X6_putSorted {l : Launch} {G : GX} {S : Hp} {a0 : Nat} {a1 : Option Nat} {Q : Hp → Prop} (hw : wp_X6_putSorted S a0 a1 Q) : Met l yX6_putSorted (Cond.code yX6_putSorted cX6_putSorted 2 none :: TS) { frames := 0, cells := 0, slots := 0, locals := 0 } (Pk G S [va_rf (some a0), va_rf a1]) (QV G Q) 0 0 G.2.2.1 := by
  refine m_met (by decide) ?_
  intro p e s m below meth c H locs C hW hS
  have C : Cx p s m ([va_rf (some a0), va_rf a1] : List Value).toArray meth c cX6_putSorted 2 RX6 none "putSorted" G := C
  obtain ⟨ls, hent, hL, hla⟩ := m_entry m (vs := [va_rf (some a0), va_rf a1]) (nn := 2) [1, 1] (by simp only [List.map_cons, List.map_nil, va_rf_cat] <;> rfl) (by decide)
  rw [hent]
  have h0 : ls[0]? = some (.val (va_rf (some a0))) := hla (0, va_rf (some a0)) (List.mem_of_getElem? (i := 0) rfl)
  have h1 : ls[1]? = some (.val (va_rf a1)) := hla (1, va_rf a1) (List.mem_of_getElem? (i := 1) rfl)
  clear hla
  generalize ([va_rf (some a0), va_rf a1] : List Value).toArray = args at C ⊢
  unfold wp_X6_putSorted at hw
  refine m_aldN C dX6_putSorted_0 rfl h0 ?_
  obtain ⟨hk1, hw⟩ := hw
  refine m_getI C hW rfl hk1 f_X6_54 rfl dX6_putSorted_1 ?_
  refine lv_sipush (v := 200) C.1 C.2.1 dX6_putSorted_4 (by decide) ?_
  refine lv_icmp_ge (tgt := 30) C.1 C.2.1 dX6_putSorted_7 (by decide) (fun hc2 => ?_) (fun hc2 => ?_)
  · have hw := hw.1 hc2
    exact m_vret C hW hS hw dX6_putSorted_30
  · have hw := hw.2 hc2
    refine m_aldN C dX6_putSorted_10 rfl h0 ?_
    refine m_getR C hW rfl hk1 f_X6_11 rfl dX6_putSorted_11 ?_
    refine m_aldN C dX6_putSorted_14 rfl h0 ?_
    refine m_getI C hW rfl hk1 f_X6_54 rfl dX6_putSorted_15 ?_
    refine m_aldN C dX6_putSorted_18 rfl h1 ?_
    obtain ⟨b3, ho3, hw⟩ := hw
    obtain ⟨hk4, hw⟩ := hw
    obtain ⟨hi5, hw⟩ := hw
    obtain ⟨b6, ho6, hw⟩ := hw
    obtain ⟨hk7, hw⟩ := hw
    refine m_aast C hW hS ho3 hk4 (by decide) (by decide) hi5 (fun bb9 zz9 => by obtain rfl : b6 = bb9 := Option.some.inj ((ho6).symm.trans zz9); exact Or.inr ⟨by decide, hk7⟩) dX6_putSorted_19 (fun H locs hW hS => ?_)
    refine m_aldN C dX6_putSorted_20 rfl h0 ?_
    refine lv_dup C.1 C.2.1 dX6_putSorted_21 (va_rf_cat _) ?_
    refine m_getI C hW rfl hk1 f_X6_54 rfl dX6_putSorted_22 ?_
    refine lv_iconst (v := 1) C.1 C.2.1 dX6_putSorted_25 (by decide) ?_
    refine lv_iadd C.1 C.2.1 dX6_putSorted_26 ?_
    refine m_putI C hW hS rfl hk1 p_X6_54 (fun z => by cases z) rfl dX6_putSorted_27 (fun H locs hW hS => ?_)
    exact m_vret C hW hS hw dX6_putSorted_30
def wp_X6_sortJobs_L7 (l0 : Nat) (K67 : Hp → Prop) (Q : Hp → Prop) : Nat → Hp → Int32 → Prop
  | 0, _, _ => False
  | n + 1, S, l1 => hK S l0 = 8 ∧ ∃ b3 : Nat, (hR S l0 0) = some b3 ∧ hK S b3 = 11 ∧ ((hI S b3 7) ≤ l1 → K67 S) ∧ (¬ ((hI S b3 7) ≤ l1) → ∃ b6 : Nat, (hR S b3 5) = some b6 ∧ hK S b6 = 19 ∧ vp_in l1 (hN S b6) ∧ ∃ b9 : Nat, (hR S b6 (l1 : Int32).toNatClampNeg) = some b9 ∧ hK S b9 = 6 ∧ ∃ b11 : Nat, (hR S b9 4) = some b11 ∧ hK S b11 = 1 ∧ wp_Jx4a65c_size_8abf5 S b11 (fun r14 S13 => ∃ b15 : Nat, (hR S l0 2) = some b15 ∧ hK S13 b15 = 15 ∧ vp_in l1 (hN S13 b15) ∧ hK (sI S13 b15 (l1 : Int32).toNatClampNeg r14) l0 = 8 ∧ ∃ b19 : Nat, (hR (sI S13 b15 (l1 : Int32).toNatClampNeg r14) l0 2) = some b19 ∧ hK (sI S13 b15 (l1 : Int32).toNatClampNeg r14) b19 = 15 ∧ vp_in l1 (hN (sI S13 b15 (l1 : Int32).toNatClampNeg r14) b19) ∧ ((hI (sI S13 b15 (l1 : Int32).toNatClampNeg r14) b19 (l1 : Int32).toNatClampNeg) = 0 → ∃ b23 : Nat, (hR (sI S13 b15 (l1 : Int32).toNatClampNeg r14) l0 0) = some b23 ∧ hK (sI S13 b15 (l1 : Int32).toNatClampNeg r14) b23 = 11 ∧ ∃ b25 : Nat, (hR (sI S13 b15 (l1 : Int32).toNatClampNeg r14) b23 5) = some b25 ∧ hK (sI S13 b15 (l1 : Int32).toNatClampNeg r14) b25 = 19 ∧ vp_in l1 (hN (sI S13 b15 (l1 : Int32).toNatClampNeg r14) b25) ∧ wp_X6_putSorted (sI S13 b15 (l1 : Int32).toNatClampNeg r14) l0 (hR (sI S13 b15 (l1 : Int32).toNatClampNeg r14) b25 (l1 : Int32).toNatClampNeg) (fun S28 => wp_X6_sortJobs_L7 l0 K67 Q n S28 (l1 + 1))) ∧ (¬ ((hI (sI S13 b15 (l1 : Int32).toNatClampNeg r14) b19 (l1 : Int32).toNatClampNeg) = 0) → wp_X6_sortJobs_L7 l0 K67 Q n (sI S13 b15 (l1 : Int32).toNatClampNeg r14) (l1 + 1))))
def wp_X6_sortJobs_L96 (l0 : Nat) (l1 : Int32) (l2 : Option Nat) (K153 : Hp → Prop) (Q : Hp → Prop) : Nat → Hp → Int32 → Prop
  | 0, _, _ => False
  | n + 1, S, l3 => ∃ b38 : Nat, l2 = some b38 ∧ hK S b38 = 1 ∧ wp_Jx4a65c_size_8abf5 S b38 (fun r41 S40 => (r41 ≤ l3 → K153 S40) ∧ (¬ (r41 ≤ l3) → hK S40 b38 = 1 ∧ wp_Jx4a65c_get_915e3 S40 b38 l3 (fun r45 S44 => ∃ b46 : Nat, r45 = some b46 ∧ hK S44 b46 = 6 ∧ hK S44 l0 = 8 ∧ ∃ b49 : Nat, (hR S44 l0 2) = some b49 ∧ hK S44 b49 = 15 ∧ vp_in (hI S44 b46 0) (hN S44 b49) ∧ vp_in (hI S44 b46 0) (hN S44 b49) ∧ ∃ b53 : Nat, (hR (sI S44 b49 ((hI S44 b46 0) : Int32).toNatClampNeg ((hI S44 b49 ((hI S44 b46 0) : Int32).toNatClampNeg) - 1)) l0 2) = some b53 ∧ hK (sI S44 b49 ((hI S44 b46 0) : Int32).toNatClampNeg ((hI S44 b49 ((hI S44 b46 0) : Int32).toNatClampNeg) - 1)) b53 = 15 ∧ vp_in (hI (sI S44 b49 ((hI S44 b46 0) : Int32).toNatClampNeg ((hI S44 b49 ((hI S44 b46 0) : Int32).toNatClampNeg) - 1)) b46 0) (hN (sI S44 b49 ((hI S44 b46 0) : Int32).toNatClampNeg ((hI S44 b49 ((hI S44 b46 0) : Int32).toNatClampNeg) - 1)) b53) ∧ ((hI (sI S44 b49 ((hI S44 b46 0) : Int32).toNatClampNeg ((hI S44 b49 ((hI S44 b46 0) : Int32).toNatClampNeg) - 1)) b53 ((hI (sI S44 b49 ((hI S44 b46 0) : Int32).toNatClampNeg ((hI S44 b49 ((hI S44 b46 0) : Int32).toNatClampNeg) - 1)) b46 0) : Int32).toNatClampNeg) = 0 → wp_X6_putSorted (sI S44 b49 ((hI S44 b46 0) : Int32).toNatClampNeg ((hI S44 b49 ((hI S44 b46 0) : Int32).toNatClampNeg) - 1)) l0 r45 (fun S57 => wp_X6_sortJobs_L96 l0 l1 l2 K153 Q n S57 (l3 + 1))) ∧ (¬ ((hI (sI S44 b49 ((hI S44 b46 0) : Int32).toNatClampNeg ((hI S44 b49 ((hI S44 b46 0) : Int32).toNatClampNeg) - 1)) b53 ((hI (sI S44 b49 ((hI S44 b46 0) : Int32).toNatClampNeg ((hI S44 b49 ((hI S44 b46 0) : Int32).toNatClampNeg) - 1)) b46 0) : Int32).toNatClampNeg) = 0) → wp_X6_sortJobs_L96 l0 l1 l2 K153 Q n (sI S44 b49 ((hI S44 b46 0) : Int32).toNatClampNeg ((hI S44 b49 ((hI S44 b46 0) : Int32).toNatClampNeg) - 1)) (l3 + 1)))))
def wp_X6_sortJobs_L69 (l0 : Nat) (Q : Hp → Prop) : Nat → Hp → Int32 → Prop
  | 0, _, _ => False
  | n + 1, S, l1 => hK S l0 = 8 ∧ ((hI S l0 3) ≤ l1 → Q S) ∧ (¬ ((hI S l0 3) ≤ l1) → (200 ≤ l1 → Q S) ∧ (¬ (200 ≤ l1) → ∃ b33 : Nat, (hR S l0 1) = some b33 ∧ hK S b33 = 19 ∧ vp_in l1 (hN S b33) ∧ ∃ b36 : Nat, (hR S b33 (l1 : Int32).toNatClampNeg) = some b36 ∧ hK S b36 = 6 ∧ wp_X6_sortJobs_L96 l0 l1 (hR S b36 5) (fun (S58 : Hp) => wp_X6_sortJobs_L69 l0 Q n S58 (l1 + 1)) Q FU S 0))
def wp_X6_sortJobs (S : Hp) (a0 : Nat) (Q : Hp → Prop) : Prop := hK S a0 = 8 ∧ wp_X6_sortJobs_L7 a0 (fun (S29 : Hp) => wp_X6_sortJobs_L69 a0 Q FU S29 0) Q FU (sI S a0 3 0) 0
set_option maxRecDepth 100000 in
set_option maxHeartbeats 4000000 in
theorem w_X6_sortJobs_L7 {p : Program} {l : Launch} {e : Env} {s : State} {m : MethodId} {args : Array Value} {below : List Frame} {meth : Method} {c : Code} {G : GX} {Q : Hp → Prop} {K67 : Hp → Prop} {l0 : Nat} (C : Cx p s m args meth c cX6_sortJobs 5 RX6 none "sortJobs" G)
    (k67 : ∀ (S : Hp) (H : Heap) (locs : List Loc) (ls : Array Slot), wd G S H → va_S G.2.2.1 s.heap H locs → LV ls 5 → ls[0]? = some (.val (va_rf (some l0))) → K67 S → W p l e ({ frames := 3, cells := 0, slots := 0, locals := 64 } : Room) s m args below meth c H locs 0 0 (MQ below (QV G Q) args s 0 0 G.2.2.1) (F0 m 67 ls [])) :
    ∀ (n : Nat) (S : Hp) (l1 : Int32) (H : Heap) (locs : List Loc) (ls : Array Slot), wd G S H → va_S G.2.2.1 s.heap H locs → LV ls 5 → ls[0]? = some (.val (va_rf (some l0))) → ls[1]? = some (.val (.int l1)) → wp_X6_sortJobs_L7 l0 K67 Q n S l1 → W p l e ({ frames := 3, cells := 0, slots := 0, locals := 64 } : Room) s m args below meth c H locs 0 0 (MQ below (QV G Q) args s 0 0 G.2.2.1) (F0 m 7 ls []) := by
  intro n
  induction n with
  | zero =>
    intro S l1 H locs ls hW hS hL h0 h1 hw
    exact False.elim hw
  | succ n ih =>
    intro S l1 H locs ls hW hS hL h0 h1 hw
    unfold wp_X6_sortJobs_L7 at hw
    refine lv_iload_n C.1 C.2.1 dX6_sortJobs_7 rfl h1 ?_
    refine m_aldN C dX6_sortJobs_8 rfl h0 ?_
    obtain ⟨hk2, hw⟩ := hw
    refine m_getR C hW rfl hk2 f_X6_24 rfl dX6_sortJobs_9 ?_
    obtain ⟨b3, ho3, hw⟩ := hw
    obtain ⟨hk4, hw⟩ := hw
    refine m_getI C hW ho3 hk4 f_X6_57 rfl dX6_sortJobs_12 ?_
    refine lv_icmp_ge (tgt := 67) C.1 C.2.1 dX6_sortJobs_15 (by decide) (fun hc5 => ?_) (fun hc5 => ?_)
    · have hw := hw.1 hc5
      exact k67 S H locs ls hW hS hL h0 hw
    · have hw := hw.2 hc5
      refine m_aldN C dX6_sortJobs_18 rfl h0 ?_
      refine m_getR C hW rfl hk2 f_X6_17 rfl dX6_sortJobs_19 ?_
      refine lv_iload_n C.1 C.2.1 dX6_sortJobs_22 rfl h1 ?_
      refine m_aldN C dX6_sortJobs_23 rfl h0 ?_
      refine m_getR C hW rfl hk2 f_X6_24 rfl dX6_sortJobs_24 ?_
      refine m_getR C hW ho3 hk4 f_X6_62 rfl dX6_sortJobs_27 ?_
      refine lv_iload_n C.1 C.2.1 dX6_sortJobs_30 rfl h1 ?_
      obtain ⟨b6, ho6, hw⟩ := hw
      obtain ⟨hk7, hw⟩ := hw
      obtain ⟨hi8, hw⟩ := hw
      refine m_aald C hW ho6 hk7 (by decide) (by decide) hi8 dX6_sortJobs_31 ?_
      obtain ⟨b9, ho9, hw⟩ := hw
      obtain ⟨hk10, hw⟩ := hw
      refine m_getR C hW ho9 hk10 f_X6_65 rfl dX6_sortJobs_32 ?_
      obtain ⟨b11, ho11, hw⟩ := hw
      obtain ⟨hk12, hw⟩ := hw
      refine m_rI (m_runV (As := []) (rest := [.int l1, va_rf (hR S l0 2)]) C hW hS hL (c_Jx4a65c_size_8abf5 hw) v_X6_69 ⟨rfl, rfl⟩ ⟨Nat.le_of_ble_eq_true rfl, Nat.le_of_ble_eq_true rfl⟩ ho11 hk12 rfl rfl (by simp only [List.map_cons, List.map_nil, va_rf_cat, List.sum_cons, List.sum_nil] <;> exact Nat.le_of_ble_eq_true rfl) dX6_sortJobs_35 ⟨Nat.le_of_ble_eq_true rfl, Nat.le_of_ble_eq_true rfl⟩) hS (fun r14 S13 H locs hw hW hS => ?_)
      obtain ⟨b15, ho15, hw⟩ := hw
      obtain ⟨hk16, hw⟩ := hw
      obtain ⟨hi17, hw⟩ := hw
      refine m_iast C hW hS ho15 hk16 hi17 dX6_sortJobs_38 (fun H locs hW hS => ?_)
      refine m_aldN C dX6_sortJobs_39 rfl h0 ?_
      obtain ⟨hk18, hw⟩ := hw
      refine m_getR C hW rfl hk18 f_X6_17 rfl dX6_sortJobs_40 ?_
      refine lv_iload_n C.1 C.2.1 dX6_sortJobs_43 rfl h1 ?_
      obtain ⟨b19, ho19, hw⟩ := hw
      obtain ⟨hk20, hw⟩ := hw
      obtain ⟨hi21, hw⟩ := hw
      refine m_iald C hW ho19 hk20 hi21 dX6_sortJobs_44 ?_
      refine lv_if_ne (tgt := 61) C.1 C.2.1 dX6_sortJobs_45 (by decide) (fun hc22 => ?_) (fun hc22 => ?_)
      · have hw := hw.2 hc22
        refine m_iinc (v := (l1 + 1)) C hL dX6_sortJobs_61 h1 rfl (by decide) (fun ls hL hn9 hk9 => ?_)
        have h0 := hk9 0 _ h0 (by decide) (Or.inr (va_rf_cat _))
        have h1 := hn9
        refine lv_goto (tgt := 7) C.1 C.2.1 dX6_sortJobs_64 (by decide) ?_
        exact ih (sI S13 b15 (l1 : Int32).toNatClampNeg r14) (l1 + 1) H locs ls hW hS hL h0 h1 hw
      · have hw := hw.1 hc22
        refine m_aldN C dX6_sortJobs_48 rfl h0 ?_
        refine m_aldN C dX6_sortJobs_49 rfl h0 ?_
        refine m_getR C hW rfl hk18 f_X6_24 rfl dX6_sortJobs_50 ?_
        obtain ⟨b23, ho23, hw⟩ := hw
        obtain ⟨hk24, hw⟩ := hw
        refine m_getR C hW ho23 hk24 f_X6_62 rfl dX6_sortJobs_53 ?_
        refine lv_iload_n C.1 C.2.1 dX6_sortJobs_56 rfl h1 ?_
        obtain ⟨b25, ho25, hw⟩ := hw
        obtain ⟨hk26, hw⟩ := hw
        obtain ⟨hi27, hw⟩ := hw
        refine m_aald C hW ho25 hk26 (by decide) (by decide) hi27 dX6_sortJobs_57 ?_
        refine m_rV (m_runV (As := [va_rf (hR (sI S13 b15 (l1 : Int32).toNatClampNeg r14) b25 (l1 : Int32).toNatClampNeg)]) (rest := []) C hW hS hL (c_X6_putSorted hw) v_X6_75 ⟨rfl, rfl⟩ ⟨Nat.le_of_ble_eq_true rfl, Nat.le_of_ble_eq_true rfl⟩ rfl hk18 rfl rfl (Nat.le_of_ble_eq_true rfl) dX6_sortJobs_58 ⟨Nat.le_of_ble_eq_true rfl, Nat.le_of_ble_eq_true rfl⟩) hS (fun S28 H locs hw hW hS => ?_)
        refine m_iinc (v := (l1 + 1)) C hL dX6_sortJobs_61 h1 rfl (by decide) (fun ls hL hn9 hk9 => ?_)
        have h0 := hk9 0 _ h0 (by decide) (Or.inr (va_rf_cat _))
        have h1 := hn9
        refine lv_goto (tgt := 7) C.1 C.2.1 dX6_sortJobs_64 (by decide) ?_
        exact ih S28 (l1 + 1) H locs ls hW hS hL h0 h1 hw
set_option maxRecDepth 100000 in
set_option maxHeartbeats 4000000 in
theorem w_X6_sortJobs_L96 {p : Program} {l : Launch} {e : Env} {s : State} {m : MethodId} {args : Array Value} {below : List Frame} {meth : Method} {c : Code} {G : GX} {Q : Hp → Prop} {K153 : Hp → Prop} {l0 : Nat} {l1 : Int32} {l2 : Option Nat} (C : Cx p s m args meth c cX6_sortJobs 5 RX6 none "sortJobs" G)
    (k153 : ∀ (S : Hp) (H : Heap) (locs : List Loc) (ls : Array Slot), wd G S H → va_S G.2.2.1 s.heap H locs → LV ls 5 → ls[0]? = some (.val (va_rf (some l0))) → ls[1]? = some (.val (.int l1)) → K153 S → W p l e ({ frames := 3, cells := 0, slots := 0, locals := 64 } : Room) s m args below meth c H locs 0 0 (MQ below (QV G Q) args s 0 0 G.2.2.1) (F0 m 153 ls [])) :
    ∀ (n : Nat) (S : Hp) (l3 : Int32) (H : Heap) (locs : List Loc) (ls : Array Slot), wd G S H → va_S G.2.2.1 s.heap H locs → LV ls 5 → ls[0]? = some (.val (va_rf (some l0))) → ls[1]? = some (.val (.int l1)) → ls[2]? = some (.val (va_rf l2)) → ls[3]? = some (.val (.int l3)) → wp_X6_sortJobs_L96 l0 l1 l2 K153 Q n S l3 → W p l e ({ frames := 3, cells := 0, slots := 0, locals := 64 } : Room) s m args below meth c H locs 0 0 (MQ below (QV G Q) args s 0 0 G.2.2.1) (F0 m 96 ls []) := by
  intro n
  induction n with
  | zero =>
    intro S l3 H locs ls hW hS hL h0 h1 h2 h3 hw
    exact False.elim hw
  | succ n ih =>
    intro S l3 H locs ls hW hS hL h0 h1 h2 h3 hw
    unfold wp_X6_sortJobs_L96 at hw
    refine lv_iload_n C.1 C.2.1 dX6_sortJobs_96 rfl h3 ?_
    refine m_aldN C dX6_sortJobs_97 rfl h2 ?_
    obtain ⟨b38, ho38, hw⟩ := hw
    obtain ⟨hk39, hw⟩ := hw
    refine m_rI (m_runV (As := []) (rest := [.int l3]) C hW hS hL (c_Jx4a65c_size_8abf5 hw) v_X6_69 ⟨rfl, rfl⟩ ⟨Nat.le_of_ble_eq_true rfl, Nat.le_of_ble_eq_true rfl⟩ ho38 hk39 rfl rfl (Nat.le_of_ble_eq_true rfl) dX6_sortJobs_98 ⟨Nat.le_of_ble_eq_true rfl, Nat.le_of_ble_eq_true rfl⟩) hS (fun r41 S40 H locs hw hW hS => ?_)
    refine lv_icmp_ge (tgt := 153) C.1 C.2.1 dX6_sortJobs_101 (by decide) (fun hc42 => ?_) (fun hc42 => ?_)
    · have hw := hw.1 hc42
      exact k153 S40 H locs ls hW hS hL h0 h1 hw
    · have hw := hw.2 hc42
      refine m_aldN C dX6_sortJobs_104 rfl h2 ?_
      refine lv_iload_n C.1 C.2.1 dX6_sortJobs_105 rfl h3 ?_
      obtain ⟨hk43, hw⟩ := hw
      refine m_rR (m_runV (As := [.int l3]) (rest := []) C hW hS hL (c_Jx4a65c_get_915e3 hw) v_X6_82 ⟨rfl, rfl⟩ ⟨Nat.le_of_ble_eq_true rfl, Nat.le_of_ble_eq_true rfl⟩ ho38 hk43 rfl rfl (Nat.le_of_ble_eq_true rfl) dX6_sortJobs_106 ⟨Nat.le_of_ble_eq_true rfl, Nat.le_of_ble_eq_true rfl⟩) hS (fun r45 S44 H locs hw hW hS => ?_)
      obtain ⟨b46, ho46, hw⟩ := hw
      obtain ⟨hk47, hw⟩ := hw
      refine m_castJ C hW ho46 hk47 tw_94 dX6_sortJobs_109 ?_
      refine m_ast_ C hL dX6_sortJobs_112 (by decide) (fun ls hL hn9 hk9 => ?_)
      have h0 := hk9 0 _ h0 (by decide) (Or.inl (by decide))
      have h1 := hk9 1 _ h1 (by decide) (Or.inl (by decide))
      have h2 := hk9 2 _ h2 (by decide) (Or.inl (by decide))
      have h3 := hk9 3 _ h3 (by decide) (Or.inr (rfl))
      have h4 := hn9
      refine m_aldN C dX6_sortJobs_114 rfl h0 ?_
      obtain ⟨hk48, hw⟩ := hw
      refine m_getR C hW rfl hk48 f_X6_17 rfl dX6_sortJobs_115 ?_
      refine m_ald C dX6_sortJobs_118 h4 ?_
      refine m_getI C hW ho46 hk47 f_X6_86 rfl dX6_sortJobs_120 ?_
      refine lv_dup2_11 C.1 C.2.1 dX6_sortJobs_123 (rfl) (va_rf_cat _) ?_
      obtain ⟨b49, ho49, hw⟩ := hw
      obtain ⟨hk50, hw⟩ := hw
      obtain ⟨hi51, hw⟩ := hw
      refine m_iald C hW ho49 hk50 hi51 dX6_sortJobs_124 ?_
      refine lv_iconst (v := 1) C.1 C.2.1 dX6_sortJobs_125 (by decide) ?_
      refine lv_isub C.1 C.2.1 dX6_sortJobs_126 ?_
      obtain ⟨hi52, hw⟩ := hw
      refine m_iast C hW hS ho49 hk50 hi52 dX6_sortJobs_127 (fun H locs hW hS => ?_)
      refine m_aldN C dX6_sortJobs_128 rfl h0 ?_
      refine m_getR C hW rfl hk48 f_X6_17 rfl dX6_sortJobs_129 ?_
      refine m_ald C dX6_sortJobs_132 h4 ?_
      refine m_getI C hW ho46 hk47 f_X6_86 rfl dX6_sortJobs_134 ?_
      obtain ⟨b53, ho53, hw⟩ := hw
      obtain ⟨hk54, hw⟩ := hw
      obtain ⟨hi55, hw⟩ := hw
      refine m_iald C hW ho53 hk54 hi55 dX6_sortJobs_137 ?_
      refine lv_if_ne (tgt := 147) C.1 C.2.1 dX6_sortJobs_138 (by decide) (fun hc56 => ?_) (fun hc56 => ?_)
      · have hw := hw.2 hc56
        refine m_iinc (v := (l3 + 1)) C hL dX6_sortJobs_147 h3 rfl (by decide) (fun ls hL hn9 hk9 => ?_)
        have h0 := hk9 0 _ h0 (by decide) (Or.inl (by decide))
        have h1 := hk9 1 _ h1 (by decide) (Or.inl (by decide))
        have h2 := hk9 2 _ h2 (by decide) (Or.inr (va_rf_cat _))
        have h3 := hn9
        refine lv_goto (tgt := 96) C.1 C.2.1 dX6_sortJobs_150 (by decide) ?_
        exact ih (sI S44 b49 ((hI S44 b46 0) : Int32).toNatClampNeg ((hI S44 b49 ((hI S44 b46 0) : Int32).toNatClampNeg) - 1)) (l3 + 1) H locs ls hW hS hL h0 h1 h2 h3 hw
      · have hw := hw.1 hc56
        refine m_aldN C dX6_sortJobs_141 rfl h0 ?_
        refine m_ald C dX6_sortJobs_142 h4 ?_
        refine m_rV (m_runV (As := [va_rf r45]) (rest := []) C hW hS hL (c_X6_putSorted hw) v_X6_75 ⟨rfl, rfl⟩ ⟨Nat.le_of_ble_eq_true rfl, Nat.le_of_ble_eq_true rfl⟩ rfl hk48 rfl rfl (Nat.le_of_ble_eq_true rfl) dX6_sortJobs_144 ⟨Nat.le_of_ble_eq_true rfl, Nat.le_of_ble_eq_true rfl⟩) hS (fun S57 H locs hw hW hS => ?_)
        refine m_iinc (v := (l3 + 1)) C hL dX6_sortJobs_147 h3 rfl (by decide) (fun ls hL hn9 hk9 => ?_)
        have h0 := hk9 0 _ h0 (by decide) (Or.inl (by decide))
        have h1 := hk9 1 _ h1 (by decide) (Or.inl (by decide))
        have h2 := hk9 2 _ h2 (by decide) (Or.inr (va_rf_cat _))
        have h3 := hn9
        refine lv_goto (tgt := 96) C.1 C.2.1 dX6_sortJobs_150 (by decide) ?_
        exact ih S57 (l3 + 1) H locs ls hW hS hL h0 h1 h2 h3 hw
set_option maxRecDepth 100000 in
set_option maxHeartbeats 4000000 in
theorem w_X6_sortJobs_L69 {p : Program} {l : Launch} {e : Env} {s : State} {m : MethodId} {args : Array Value} {below : List Frame} {meth : Method} {c : Code} {G : GX} {Q : Hp → Prop} {l0 : Nat} (C : Cx p s m args meth c cX6_sortJobs 5 RX6 none "sortJobs" G) :
    ∀ (n : Nat) (S : Hp) (l1 : Int32) (H : Heap) (locs : List Loc) (ls : Array Slot), wd G S H → va_S G.2.2.1 s.heap H locs → LV ls 5 → ls[0]? = some (.val (va_rf (some l0))) → ls[1]? = some (.val (.int l1)) → wp_X6_sortJobs_L69 l0 Q n S l1 → W p l e ({ frames := 3, cells := 0, slots := 0, locals := 64 } : Room) s m args below meth c H locs 0 0 (MQ below (QV G Q) args s 0 0 G.2.2.1) (F0 m 69 ls []) := by
  intro n
  induction n with
  | zero =>
    intro S l1 H locs ls hW hS hL h0 h1 hw
    exact False.elim hw
  | succ n ih =>
    intro S l1 H locs ls hW hS hL h0 h1 hw
    unfold wp_X6_sortJobs_L69 at hw
    refine lv_iload_n C.1 C.2.1 dX6_sortJobs_69 rfl h1 ?_
    refine m_aldN C dX6_sortJobs_70 rfl h0 ?_
    obtain ⟨hk30, hw⟩ := hw
    refine m_getI C hW rfl hk30 f_X6_54 rfl dX6_sortJobs_71 ?_
    refine lv_icmp_ge (tgt := 159) C.1 C.2.1 dX6_sortJobs_74 (by decide) (fun hc31 => ?_) (fun hc31 => ?_)
    · have hw := hw.1 hc31
      exact m_vret C hW hS hw dX6_sortJobs_159
    · have hw := hw.2 hc31
      refine lv_iload_n C.1 C.2.1 dX6_sortJobs_77 rfl h1 ?_
      refine lv_sipush (v := 200) C.1 C.2.1 dX6_sortJobs_78 (by decide) ?_
      refine lv_icmp_ge (tgt := 159) C.1 C.2.1 dX6_sortJobs_81 (by decide) (fun hc32 => ?_) (fun hc32 => ?_)
      · have hw := hw.1 hc32
        exact m_vret C hW hS hw dX6_sortJobs_159
      · have hw := hw.2 hc32
        refine m_aldN C dX6_sortJobs_84 rfl h0 ?_
        refine m_getR C hW rfl hk30 f_X6_11 rfl dX6_sortJobs_85 ?_
        refine lv_iload_n C.1 C.2.1 dX6_sortJobs_88 rfl h1 ?_
        obtain ⟨b33, ho33, hw⟩ := hw
        obtain ⟨hk34, hw⟩ := hw
        obtain ⟨hi35, hw⟩ := hw
        refine m_aald C hW ho33 hk34 (by decide) (by decide) hi35 dX6_sortJobs_89 ?_
        obtain ⟨b36, ho36, hw⟩ := hw
        obtain ⟨hk37, hw⟩ := hw
        refine m_getR C hW ho36 hk37 f_X6_79 rfl dX6_sortJobs_90 ?_
        refine m_astN C hL dX6_sortJobs_93 rfl (by decide) (fun ls hL hn9 hk9 => ?_)
        have h0 := hk9 0 _ h0 (by decide) (Or.inl (by decide))
        have h1 := hk9 1 _ h1 (by decide) (Or.inr (rfl))
        have h2 := hn9
        refine lv_iconst (v := 0) C.1 C.2.1 dX6_sortJobs_94 (by decide) ?_
        refine m_istN C hL dX6_sortJobs_95 rfl (by decide) (fun ls hL hn9 hk9 => ?_)
        have h0 := hk9 0 _ h0 (by decide) (Or.inl (by decide))
        have h1 := hk9 1 _ h1 (by decide) (Or.inl (by decide))
        have h2 := hk9 2 _ h2 (by decide) (Or.inr (va_rf_cat _))
        have h3 := hn9
        refine w_X6_sortJobs_L96 C ?_ FU S 0 H locs ls hW hS hL h0 h1 h2 h3 hw
        · intro S58 H locs ls hW hS hL h0 h1 hw
          refine m_iinc (v := (l1 + 1)) C hL dX6_sortJobs_153 h1 rfl (by decide) (fun ls hL hn9 hk9 => ?_)
          have h0 := hk9 0 _ h0 (by decide) (Or.inr (va_rf_cat _))
          have h1 := hn9
          refine lv_goto (tgt := 69) C.1 C.2.1 dX6_sortJobs_156 (by decide) ?_
          exact ih S58 (l1 + 1) H locs ls hW hS hL h0 h1 hw
set_option maxRecDepth 100000 in
set_option maxHeartbeats 4000000 in
theorem c_X6_sortJobs {l : Launch} {G : GX} {S : Hp} {a0 : Nat} {Q : Hp → Prop} (hw : wp_X6_sortJobs S a0 Q) : Met l yX6_sortJobs (Cond.code yX6_sortJobs cX6_sortJobs 5 none :: TS) { frames := 3, cells := 0, slots := 0, locals := 64 } (Pk G S [va_rf (some a0)]) (QV G Q) 0 0 G.2.2.1 := by
  refine m_met (by decide) ?_
  intro p e s m below meth c H locs C hW hS
  have C : Cx p s m ([va_rf (some a0)] : List Value).toArray meth c cX6_sortJobs 5 RX6 none "sortJobs" G := C
  obtain ⟨ls, hent, hL, hla⟩ := m_entry m (vs := [va_rf (some a0)]) (nn := 5) [1] rfl (by decide)
  rw [hent]
  have h0 : ls[0]? = some (.val (va_rf (some a0))) := hla (0, va_rf (some a0)) (List.mem_of_getElem? (i := 0) rfl)
  clear hla
  generalize ([va_rf (some a0)] : List Value).toArray = args at C ⊢
  unfold wp_X6_sortJobs at hw
  refine m_aldN C dX6_sortJobs_0 rfl h0 ?_
  refine lv_iconst (v := 0) C.1 C.2.1 dX6_sortJobs_1 (by decide) ?_
  obtain ⟨hk1, hw⟩ := hw
  refine m_putI C hW hS rfl hk1 p_X6_54 (fun z => by cases z) rfl dX6_sortJobs_2 (fun H locs hW hS => ?_)
  refine lv_iconst (v := 0) C.1 C.2.1 dX6_sortJobs_5 (by decide) ?_
  refine m_istN C hL dX6_sortJobs_6 rfl (by decide) (fun ls hL hn9 hk9 => ?_)
  have h0 := hk9 0 _ h0 (by decide) (Or.inr (va_rf_cat _))
  have h1 := hn9
  refine w_X6_sortJobs_L7 C ?_ FU (sI S a0 3 0) 0 H locs ls hW hS hL h0 h1 hw
  · intro S29 H locs ls hW hS hL h0 hw
    refine lv_iconst (v := 0) C.1 C.2.1 dX6_sortJobs_67 (by decide) ?_
    refine m_istN C hL dX6_sortJobs_68 rfl (by decide) (fun ls hL hn9 hk9 => ?_)
    have h0 := hk9 0 _ h0 (by decide) (Or.inr (va_rf_cat _))
    have h1 := hn9
    exact w_X6_sortJobs_L69 C  FU S29 0 H locs ls hW hS hL h0 h1 hw
def wp_X6_reckonHeads_L22 (l0 : Nat) (l1 : Int32) (l2 : Option Nat) (K60 : Hp → Int32 → Prop) (Q : Hp → Prop) : Nat → Hp → Int32 → Int32 → Prop
  | 0, _, _, _ => False
  | n + 1, S, l3, l4 => ∃ b6 : Nat, l2 = some b6 ∧ hK S b6 = 6 ∧ ∃ b8 : Nat, (hR S b6 4) = some b8 ∧ hK S b8 = 1 ∧ wp_Jx4a65c_size_8abf5 S b8 (fun r11 S10 => (r11 ≤ l4 → K60 S10 l3) ∧ (¬ (r11 ≤ l4) → hK S10 b6 = 6 ∧ ∃ b14 : Nat, (hR S10 b6 4) = some b14 ∧ hK S10 b14 = 1 ∧ wp_Jx4a65c_get_915e3 S10 b14 l4 (fun r17 S16 => ∃ b18 : Nat, r17 = some b18 ∧ hK S16 b18 = 6 ∧ ∀ x20 : Int32, x20 = (if l3 < (hI S16 b18 13) then (hI S16 b18 13) else l3) → wp_X6_reckonHeads_L22 l0 l1 l2 K60 Q n S16 x20 (l4 + 1))))
def wp_X6_reckonHeads_L2 (l0 : Nat) (Q : Hp → Prop) : Nat → Hp → Int32 → Prop
  | 0, _, _ => False
  | n + 1, S, l1 => hK S l0 = 8 ∧ ((hI S l0 3) ≤ l1 → Q S) ∧ (¬ ((hI S l0 3) ≤ l1) → ∃ b3 : Nat, (hR S l0 1) = some b3 ∧ hK S b3 = 19 ∧ vp_in l1 (hN S b3) ∧ wp_X6_reckonHeads_L22 l0 l1 (hR S b3 (l1 : Int32).toNatClampNeg) (fun (S21 : Hp) (x22 : Int32) => ∃ b23 : Nat, (hR S b3 (l1 : Int32).toNatClampNeg) = some b23 ∧ hK S21 b23 = 6 ∧ wp_X6_reckonHeads_L2 l0 Q n (sI S21 b23 13 ((hI S21 b23 2) + x22)) (l1 + 1)) Q FU S 0 0)
def wp_X6_reckonHeads (S : Hp) (a0 : Nat) (Q : Hp → Prop) : Prop := wp_X6_reckonHeads_L2 a0 Q FU S 0
set_option maxRecDepth 100000 in
set_option maxHeartbeats 4000000 in
theorem w_X6_reckonHeads_L22 {p : Program} {l : Launch} {e : Env} {s : State} {m : MethodId} {args : Array Value} {below : List Frame} {meth : Method} {c : Code} {G : GX} {Q : Hp → Prop} {K60 : Hp → Int32 → Prop} {l0 : Nat} {l1 : Int32} {l2 : Option Nat} (C : Cx p s m args meth c cX6_reckonHeads 5 RX6 none "reckonHeads" G)
    (k60 : ∀ (S : Hp) (l3 : Int32) (H : Heap) (locs : List Loc) (ls : Array Slot), wd G S H → va_S G.2.2.1 s.heap H locs → LV ls 5 → ls[0]? = some (.val (va_rf (some l0))) → ls[1]? = some (.val (.int l1)) → ls[2]? = some (.val (va_rf l2)) → ls[3]? = some (.val (.int l3)) → K60 S l3 → W p l e ({ frames := 3, cells := 0, slots := 0, locals := 64 } : Room) s m args below meth c H locs 0 0 (MQ below (QV G Q) args s 0 0 G.2.2.1) (F0 m 60 ls [])) :
    ∀ (n : Nat) (S : Hp) (l3 : Int32) (l4 : Int32) (H : Heap) (locs : List Loc) (ls : Array Slot), wd G S H → va_S G.2.2.1 s.heap H locs → LV ls 5 → ls[0]? = some (.val (va_rf (some l0))) → ls[1]? = some (.val (.int l1)) → ls[2]? = some (.val (va_rf l2)) → ls[3]? = some (.val (.int l3)) → ls[4]? = some (.val (.int l4)) → wp_X6_reckonHeads_L22 l0 l1 l2 K60 Q n S l3 l4 → W p l e ({ frames := 3, cells := 0, slots := 0, locals := 64 } : Room) s m args below meth c H locs 0 0 (MQ below (QV G Q) args s 0 0 G.2.2.1) (F0 m 22 ls []) := by
  intro n
  induction n with
  | zero =>
    intro S l3 l4 H locs ls hW hS hL h0 h1 h2 h3 h4 hw
    exact False.elim hw
  | succ n ih =>
    intro S l3 l4 H locs ls hW hS hL h0 h1 h2 h3 h4 hw
    unfold wp_X6_reckonHeads_L22 at hw
    refine lv_iload C.1 C.2.1 dX6_reckonHeads_22 h4 ?_
    refine m_aldN C dX6_reckonHeads_24 rfl h2 ?_
    obtain ⟨b6, ho6, hw⟩ := hw
    obtain ⟨hk7, hw⟩ := hw
    refine m_getR C hW ho6 hk7 f_X6_65 rfl dX6_reckonHeads_25 ?_
    obtain ⟨b8, ho8, hw⟩ := hw
    obtain ⟨hk9, hw⟩ := hw
    refine m_rI (m_runV (As := []) (rest := [.int l4]) C hW hS hL (c_Jx4a65c_size_8abf5 hw) v_X6_69 ⟨rfl, rfl⟩ ⟨Nat.le_of_ble_eq_true rfl, Nat.le_of_ble_eq_true rfl⟩ ho8 hk9 rfl rfl (Nat.le_of_ble_eq_true rfl) dX6_reckonHeads_28 ⟨Nat.le_of_ble_eq_true rfl, Nat.le_of_ble_eq_true rfl⟩) hS (fun r11 S10 H locs hw hW hS => ?_)
    refine lv_icmp_ge (tgt := 60) C.1 C.2.1 dX6_reckonHeads_31 (by decide) (fun hc12 => ?_) (fun hc12 => ?_)
    · have hw := hw.1 hc12
      exact k60 S10 l3 H locs ls hW hS hL h0 h1 h2 h3 hw
    · have hw := hw.2 hc12
      refine lv_iload_n C.1 C.2.1 dX6_reckonHeads_34 rfl h3 ?_
      refine m_aldN C dX6_reckonHeads_35 rfl h2 ?_
      obtain ⟨hk13, hw⟩ := hw
      refine m_getR C hW ho6 hk13 f_X6_65 rfl dX6_reckonHeads_36 ?_
      refine lv_iload C.1 C.2.1 dX6_reckonHeads_39 h4 ?_
      obtain ⟨b14, ho14, hw⟩ := hw
      obtain ⟨hk15, hw⟩ := hw
      refine m_rR (m_runV (As := [.int l4]) (rest := [.int l3]) C hW hS hL (c_Jx4a65c_get_915e3 hw) v_X6_82 ⟨rfl, rfl⟩ ⟨Nat.le_of_ble_eq_true rfl, Nat.le_of_ble_eq_true rfl⟩ ho14 hk15 rfl rfl (Nat.le_of_ble_eq_true rfl) dX6_reckonHeads_41 ⟨Nat.le_of_ble_eq_true rfl, Nat.le_of_ble_eq_true rfl⟩) hS (fun r17 S16 H locs hw hW hS => ?_)
      obtain ⟨b18, ho18, hw⟩ := hw
      obtain ⟨hk19, hw⟩ := hw
      refine m_castJ C hW ho18 hk19 tw_94 dX6_reckonHeads_44 ?_
      refine m_getI C hW ho18 hk19 f_X6_89 rfl dX6_reckonHeads_47 ?_
      refine va_mmax C.1 C.2.1 (C.2.2.1.trans hL.1.symm) C.2.2.2.1 (C.2.2.2.2.1 _ tw_901) (C.2.2.2.2.1 _ tw_601) (C.2.2.2.2.1 _ tw_20) (C.2.2.2.2.1 _ tw_602) (Nat.le_of_ble_eq_true rfl) (Nat.le_of_ble_eq_true rfl) (Nat.le_of_ble_eq_true rfl) (Nat.le_of_ble_eq_true rfl) dX6_reckonHeads_50 ?_
      refine lv_topi (fun x20 ex20 => ?_)
      have hw := hw x20 ex20
      refine m_istN C hL dX6_reckonHeads_53 rfl (by decide) (fun ls hL hn9 hk9 => ?_)
      have h0 := hk9 0 _ h0 (by decide) (Or.inl (by decide))
      have h1 := hk9 1 _ h1 (by decide) (Or.inl (by decide))
      have h2 := hk9 2 _ h2 (by decide) (Or.inr (va_rf_cat _))
      have h4 := hk9 4 _ h4 (by decide) (Or.inl (by decide))
      have h3 := hn9
      refine m_iinc (v := (l4 + 1)) C hL dX6_reckonHeads_54 h4 rfl (by decide) (fun ls hL hn9 hk9 => ?_)
      have h0 := hk9 0 _ h0 (by decide) (Or.inl (by decide))
      have h1 := hk9 1 _ h1 (by decide) (Or.inl (by decide))
      have h2 := hk9 2 _ h2 (by decide) (Or.inl (by decide))
      have h3 := hk9 3 _ h3 (by decide) (Or.inr (rfl))
      have h4 := hn9
      refine lv_goto (tgt := 22) C.1 C.2.1 dX6_reckonHeads_57 (by decide) ?_
      exact ih S16 x20 (l4 + 1) H locs ls hW hS hL h0 h1 h2 h3 h4 hw
set_option maxRecDepth 100000 in
set_option maxHeartbeats 4000000 in
theorem w_X6_reckonHeads_L2 {p : Program} {l : Launch} {e : Env} {s : State} {m : MethodId} {args : Array Value} {below : List Frame} {meth : Method} {c : Code} {G : GX} {Q : Hp → Prop} {l0 : Nat} (C : Cx p s m args meth c cX6_reckonHeads 5 RX6 none "reckonHeads" G) :
    ∀ (n : Nat) (S : Hp) (l1 : Int32) (H : Heap) (locs : List Loc) (ls : Array Slot), wd G S H → va_S G.2.2.1 s.heap H locs → LV ls 5 → ls[0]? = some (.val (va_rf (some l0))) → ls[1]? = some (.val (.int l1)) → wp_X6_reckonHeads_L2 l0 Q n S l1 → W p l e ({ frames := 3, cells := 0, slots := 0, locals := 64 } : Room) s m args below meth c H locs 0 0 (MQ below (QV G Q) args s 0 0 G.2.2.1) (F0 m 2 ls []) := by
  intro n
  induction n with
  | zero =>
    intro S l1 H locs ls hW hS hL h0 h1 hw
    exact False.elim hw
  | succ n ih =>
    intro S l1 H locs ls hW hS hL h0 h1 hw
    unfold wp_X6_reckonHeads_L2 at hw
    refine lv_iload_n C.1 C.2.1 dX6_reckonHeads_2 rfl h1 ?_
    refine m_aldN C dX6_reckonHeads_3 rfl h0 ?_
    obtain ⟨hk1, hw⟩ := hw
    refine m_getI C hW rfl hk1 f_X6_54 rfl dX6_reckonHeads_4 ?_
    refine lv_icmp_ge (tgt := 76) C.1 C.2.1 dX6_reckonHeads_7 (by decide) (fun hc2 => ?_) (fun hc2 => ?_)
    · have hw := hw.1 hc2
      exact m_vret C hW hS hw dX6_reckonHeads_76
    · have hw := hw.2 hc2
      refine m_aldN C dX6_reckonHeads_10 rfl h0 ?_
      refine m_getR C hW rfl hk1 f_X6_11 rfl dX6_reckonHeads_11 ?_
      refine lv_iload_n C.1 C.2.1 dX6_reckonHeads_14 rfl h1 ?_
      obtain ⟨b3, ho3, hw⟩ := hw
      obtain ⟨hk4, hw⟩ := hw
      obtain ⟨hi5, hw⟩ := hw
      refine m_aald C hW ho3 hk4 (by decide) (by decide) hi5 dX6_reckonHeads_15 ?_
      refine m_astN C hL dX6_reckonHeads_16 rfl (by decide) (fun ls hL hn9 hk9 => ?_)
      have h0 := hk9 0 _ h0 (by decide) (Or.inl (by decide))
      have h1 := hk9 1 _ h1 (by decide) (Or.inr (rfl))
      have h2 := hn9
      refine lv_iconst (v := 0) C.1 C.2.1 dX6_reckonHeads_17 (by decide) ?_
      refine m_istN C hL dX6_reckonHeads_18 rfl (by decide) (fun ls hL hn9 hk9 => ?_)
      have h0 := hk9 0 _ h0 (by decide) (Or.inl (by decide))
      have h1 := hk9 1 _ h1 (by decide) (Or.inl (by decide))
      have h2 := hk9 2 _ h2 (by decide) (Or.inr (va_rf_cat _))
      have h3 := hn9
      refine lv_iconst (v := 0) C.1 C.2.1 dX6_reckonHeads_19 (by decide) ?_
      refine m_ist C hL dX6_reckonHeads_20 (by decide) (fun ls hL hn9 hk9 => ?_)
      have h0 := hk9 0 _ h0 (by decide) (Or.inl (by decide))
      have h1 := hk9 1 _ h1 (by decide) (Or.inl (by decide))
      have h2 := hk9 2 _ h2 (by decide) (Or.inl (by decide))
      have h3 := hk9 3 _ h3 (by decide) (Or.inr (rfl))
      have h4 := hn9
      refine w_X6_reckonHeads_L22 C ?_ FU S 0 0 H locs ls hW hS hL h0 h1 h2 h3 h4 hw
      · intro S21 x22 H locs ls hW hS hL h0 h1 h2 h3 hw
        refine m_aldN C dX6_reckonHeads_60 rfl h2 ?_
        refine m_aldN C dX6_reckonHeads_61 rfl h2 ?_
        obtain ⟨b23, ho23, hw⟩ := hw
        obtain ⟨hk24, hw⟩ := hw
        refine m_getI C hW ho23 hk24 f_X6_98 rfl dX6_reckonHeads_62 ?_
        refine lv_iload_n C.1 C.2.1 dX6_reckonHeads_65 rfl h3 ?_
        refine lv_iadd C.1 C.2.1 dX6_reckonHeads_66 ?_
        refine m_putI C hW hS ho23 hk24 p_X6_89 (fun z => by cases z) rfl dX6_reckonHeads_67 (fun H locs hW hS => ?_)
        refine m_iinc (v := (l1 + 1)) C hL dX6_reckonHeads_70 h1 rfl (by decide) (fun ls hL hn9 hk9 => ?_)
        have h0 := hk9 0 _ h0 (by decide) (Or.inr (va_rf_cat _))
        have h1 := hn9
        refine lv_goto (tgt := 2) C.1 C.2.1 dX6_reckonHeads_73 (by decide) ?_
        exact ih (sI S21 b23 13 ((hI S21 b23 2) + x22)) (l1 + 1) H locs ls hW hS hL h0 h1 hw
set_option maxRecDepth 100000 in
set_option maxHeartbeats 4000000 in
theorem c_X6_reckonHeads {l : Launch} {G : GX} {S : Hp} {a0 : Nat} {Q : Hp → Prop} (hw : wp_X6_reckonHeads S a0 Q) : Met l yX6_reckonHeads (Cond.code yX6_reckonHeads cX6_reckonHeads 5 none :: TS) { frames := 3, cells := 0, slots := 0, locals := 64 } (Pk G S [va_rf (some a0)]) (QV G Q) 0 0 G.2.2.1 := by
  refine m_met (by decide) ?_
  intro p e s m below meth c H locs C hW hS
  have C : Cx p s m ([va_rf (some a0)] : List Value).toArray meth c cX6_reckonHeads 5 RX6 none "reckonHeads" G := C
  obtain ⟨ls, hent, hL, hla⟩ := m_entry m (vs := [va_rf (some a0)]) (nn := 5) [1] rfl (by decide)
  rw [hent]
  have h0 : ls[0]? = some (.val (va_rf (some a0))) := hla (0, va_rf (some a0)) (List.mem_of_getElem? (i := 0) rfl)
  clear hla
  generalize ([va_rf (some a0)] : List Value).toArray = args at C ⊢
  unfold wp_X6_reckonHeads at hw
  refine lv_iconst (v := 0) C.1 C.2.1 dX6_reckonHeads_0 (by decide) ?_
  refine m_istN C hL dX6_reckonHeads_1 rfl (by decide) (fun ls hL hn9 hk9 => ?_)
  have h0 := hk9 0 _ h0 (by decide) (Or.inr (va_rf_cat _))
  have h1 := hn9
  exact w_X6_reckonHeads_L2 C  FU S 0 H locs ls hW hS hL h0 h1 hw
def wp_X6_reckonTails_L23 (l0 : Nat) (l1 : Int32) (l2 : Option Nat) (K61 : Hp → Int32 → Prop) (Q : Hp → Prop) : Nat → Hp → Int32 → Int32 → Prop
  | 0, _, _, _ => False
  | n + 1, S, l3, l4 => ∃ b8 : Nat, l2 = some b8 ∧ hK S b8 = 6 ∧ ∃ b10 : Nat, (hR S b8 5) = some b10 ∧ hK S b10 = 1 ∧ wp_Jx4a65c_size_8abf5 S b10 (fun r13 S12 => (r13 ≤ l4 → K61 S12 l3) ∧ (¬ (r13 ≤ l4) → hK S12 b8 = 6 ∧ ∃ b16 : Nat, (hR S12 b8 5) = some b16 ∧ hK S12 b16 = 1 ∧ wp_Jx4a65c_get_915e3 S12 b16 l4 (fun r19 S18 => ∃ b20 : Nat, r19 = some b20 ∧ hK S18 b20 = 6 ∧ ∀ x22 : Int32, x22 = (if l3 < (hI S18 b20 14) then (hI S18 b20 14) else l3) → wp_X6_reckonTails_L23 l0 l1 l2 K61 Q n S18 x22 (l4 + 1))))
def wp_X6_reckonTails_L7 (l0 : Nat) (Q : Hp → Prop) : Nat → Hp → Int32 → Prop
  | 0, _, _ => False
  | n + 1, S, l1 => (l1 < 0 → Q S) ∧ (¬ (l1 < 0) → hK S l0 = 8 ∧ ∃ b5 : Nat, (hR S l0 1) = some b5 ∧ hK S b5 = 19 ∧ vp_in l1 (hN S b5) ∧ wp_X6_reckonTails_L23 l0 l1 (hR S b5 (l1 : Int32).toNatClampNeg) (fun (S23 : Hp) (x24 : Int32) => ∃ b25 : Nat, (hR S b5 (l1 : Int32).toNatClampNeg) = some b25 ∧ hK S23 b25 = 6 ∧ wp_X6_reckonTails_L7 l0 Q n (sI S23 b25 14 ((hI S23 b25 2) + x24)) (l1 + (-1))) Q FU S 0 0)
def wp_X6_reckonTails (S : Hp) (a0 : Nat) (Q : Hp → Prop) : Prop := hK S a0 = 8 ∧ ∀ x2 : Int32, x2 = ((hI S a0 3) - 1) → wp_X6_reckonTails_L7 a0 Q FU S x2
set_option maxRecDepth 100000 in
set_option maxHeartbeats 4000000 in
theorem w_X6_reckonTails_L23 {p : Program} {l : Launch} {e : Env} {s : State} {m : MethodId} {args : Array Value} {below : List Frame} {meth : Method} {c : Code} {G : GX} {Q : Hp → Prop} {K61 : Hp → Int32 → Prop} {l0 : Nat} {l1 : Int32} {l2 : Option Nat} (C : Cx p s m args meth c cX6_reckonTails 5 RX6 none "reckonTails" G)
    (k61 : ∀ (S : Hp) (l3 : Int32) (H : Heap) (locs : List Loc) (ls : Array Slot), wd G S H → va_S G.2.2.1 s.heap H locs → LV ls 5 → ls[0]? = some (.val (va_rf (some l0))) → ls[1]? = some (.val (.int l1)) → ls[2]? = some (.val (va_rf l2)) → ls[3]? = some (.val (.int l3)) → K61 S l3 → W p l e ({ frames := 3, cells := 0, slots := 0, locals := 64 } : Room) s m args below meth c H locs 0 0 (MQ below (QV G Q) args s 0 0 G.2.2.1) (F0 m 61 ls [])) :
    ∀ (n : Nat) (S : Hp) (l3 : Int32) (l4 : Int32) (H : Heap) (locs : List Loc) (ls : Array Slot), wd G S H → va_S G.2.2.1 s.heap H locs → LV ls 5 → ls[0]? = some (.val (va_rf (some l0))) → ls[1]? = some (.val (.int l1)) → ls[2]? = some (.val (va_rf l2)) → ls[3]? = some (.val (.int l3)) → ls[4]? = some (.val (.int l4)) → wp_X6_reckonTails_L23 l0 l1 l2 K61 Q n S l3 l4 → W p l e ({ frames := 3, cells := 0, slots := 0, locals := 64 } : Room) s m args below meth c H locs 0 0 (MQ below (QV G Q) args s 0 0 G.2.2.1) (F0 m 23 ls []) := by
  intro n
  induction n with
  | zero =>
    intro S l3 l4 H locs ls hW hS hL h0 h1 h2 h3 h4 hw
    exact False.elim hw
  | succ n ih =>
    intro S l3 l4 H locs ls hW hS hL h0 h1 h2 h3 h4 hw
    unfold wp_X6_reckonTails_L23 at hw
    refine lv_iload C.1 C.2.1 dX6_reckonTails_23 h4 ?_
    refine m_aldN C dX6_reckonTails_25 rfl h2 ?_
    obtain ⟨b8, ho8, hw⟩ := hw
    obtain ⟨hk9, hw⟩ := hw
    refine m_getR C hW ho8 hk9 f_X6_79 rfl dX6_reckonTails_26 ?_
    obtain ⟨b10, ho10, hw⟩ := hw
    obtain ⟨hk11, hw⟩ := hw
    refine m_rI (m_runV (As := []) (rest := [.int l4]) C hW hS hL (c_Jx4a65c_size_8abf5 hw) v_X6_69 ⟨rfl, rfl⟩ ⟨Nat.le_of_ble_eq_true rfl, Nat.le_of_ble_eq_true rfl⟩ ho10 hk11 rfl rfl (Nat.le_of_ble_eq_true rfl) dX6_reckonTails_29 ⟨Nat.le_of_ble_eq_true rfl, Nat.le_of_ble_eq_true rfl⟩) hS (fun r13 S12 H locs hw hW hS => ?_)
    refine lv_icmp_ge (tgt := 61) C.1 C.2.1 dX6_reckonTails_32 (by decide) (fun hc14 => ?_) (fun hc14 => ?_)
    · have hw := hw.1 hc14
      exact k61 S12 l3 H locs ls hW hS hL h0 h1 h2 h3 hw
    · have hw := hw.2 hc14
      refine lv_iload_n C.1 C.2.1 dX6_reckonTails_35 rfl h3 ?_
      refine m_aldN C dX6_reckonTails_36 rfl h2 ?_
      obtain ⟨hk15, hw⟩ := hw
      refine m_getR C hW ho8 hk15 f_X6_79 rfl dX6_reckonTails_37 ?_
      refine lv_iload C.1 C.2.1 dX6_reckonTails_40 h4 ?_
      obtain ⟨b16, ho16, hw⟩ := hw
      obtain ⟨hk17, hw⟩ := hw
      refine m_rR (m_runV (As := [.int l4]) (rest := [.int l3]) C hW hS hL (c_Jx4a65c_get_915e3 hw) v_X6_82 ⟨rfl, rfl⟩ ⟨Nat.le_of_ble_eq_true rfl, Nat.le_of_ble_eq_true rfl⟩ ho16 hk17 rfl rfl (Nat.le_of_ble_eq_true rfl) dX6_reckonTails_42 ⟨Nat.le_of_ble_eq_true rfl, Nat.le_of_ble_eq_true rfl⟩) hS (fun r19 S18 H locs hw hW hS => ?_)
      obtain ⟨b20, ho20, hw⟩ := hw
      obtain ⟨hk21, hw⟩ := hw
      refine m_castJ C hW ho20 hk21 tw_94 dX6_reckonTails_45 ?_
      refine m_getI C hW ho20 hk21 f_X6_101 rfl dX6_reckonTails_48 ?_
      refine va_mmax C.1 C.2.1 (C.2.2.1.trans hL.1.symm) C.2.2.2.1 (C.2.2.2.2.1 _ tw_901) (C.2.2.2.2.1 _ tw_601) (C.2.2.2.2.1 _ tw_20) (C.2.2.2.2.1 _ tw_602) (Nat.le_of_ble_eq_true rfl) (Nat.le_of_ble_eq_true rfl) (Nat.le_of_ble_eq_true rfl) (Nat.le_of_ble_eq_true rfl) dX6_reckonTails_51 ?_
      refine lv_topi (fun x22 ex22 => ?_)
      have hw := hw x22 ex22
      refine m_istN C hL dX6_reckonTails_54 rfl (by decide) (fun ls hL hn9 hk9 => ?_)
      have h0 := hk9 0 _ h0 (by decide) (Or.inl (by decide))
      have h1 := hk9 1 _ h1 (by decide) (Or.inl (by decide))
      have h2 := hk9 2 _ h2 (by decide) (Or.inr (va_rf_cat _))
      have h4 := hk9 4 _ h4 (by decide) (Or.inl (by decide))
      have h3 := hn9
      refine m_iinc (v := (l4 + 1)) C hL dX6_reckonTails_55 h4 rfl (by decide) (fun ls hL hn9 hk9 => ?_)
      have h0 := hk9 0 _ h0 (by decide) (Or.inl (by decide))
      have h1 := hk9 1 _ h1 (by decide) (Or.inl (by decide))
      have h2 := hk9 2 _ h2 (by decide) (Or.inl (by decide))
      have h3 := hk9 3 _ h3 (by decide) (Or.inr (rfl))
      have h4 := hn9
      refine lv_goto (tgt := 23) C.1 C.2.1 dX6_reckonTails_58 (by decide) ?_
      exact ih S18 x22 (l4 + 1) H locs ls hW hS hL h0 h1 h2 h3 h4 hw
set_option maxRecDepth 100000 in
set_option maxHeartbeats 4000000 in
theorem w_X6_reckonTails_L7 {p : Program} {l : Launch} {e : Env} {s : State} {m : MethodId} {args : Array Value} {below : List Frame} {meth : Method} {c : Code} {G : GX} {Q : Hp → Prop} {l0 : Nat} (C : Cx p s m args meth c cX6_reckonTails 5 RX6 none "reckonTails" G) :
    ∀ (n : Nat) (S : Hp) (l1 : Int32) (H : Heap) (locs : List Loc) (ls : Array Slot), wd G S H → va_S G.2.2.1 s.heap H locs → LV ls 5 → ls[0]? = some (.val (va_rf (some l0))) → ls[1]? = some (.val (.int l1)) → wp_X6_reckonTails_L7 l0 Q n S l1 → W p l e ({ frames := 3, cells := 0, slots := 0, locals := 64 } : Room) s m args below meth c H locs 0 0 (MQ below (QV G Q) args s 0 0 G.2.2.1) (F0 m 7 ls []) := by
  intro n
  induction n with
  | zero =>
    intro S l1 H locs ls hW hS hL h0 h1 hw
    exact False.elim hw
  | succ n ih =>
    intro S l1 H locs ls hW hS hL h0 h1 hw
    unfold wp_X6_reckonTails_L7 at hw
    refine lv_iload_n C.1 C.2.1 dX6_reckonTails_7 rfl h1 ?_
    refine lv_if_lt (tgt := 77) C.1 C.2.1 dX6_reckonTails_8 (by decide) (fun hc3 => ?_) (fun hc3 => ?_)
    · have hw := hw.1 hc3
      exact m_vret C hW hS hw dX6_reckonTails_77
    · have hw := hw.2 hc3
      refine m_aldN C dX6_reckonTails_11 rfl h0 ?_
      obtain ⟨hk4, hw⟩ := hw
      refine m_getR C hW rfl hk4 f_X6_11 rfl dX6_reckonTails_12 ?_
      refine lv_iload_n C.1 C.2.1 dX6_reckonTails_15 rfl h1 ?_
      obtain ⟨b5, ho5, hw⟩ := hw
      obtain ⟨hk6, hw⟩ := hw
      obtain ⟨hi7, hw⟩ := hw
      refine m_aald C hW ho5 hk6 (by decide) (by decide) hi7 dX6_reckonTails_16 ?_
      refine m_astN C hL dX6_reckonTails_17 rfl (by decide) (fun ls hL hn9 hk9 => ?_)
      have h0 := hk9 0 _ h0 (by decide) (Or.inl (by decide))
      have h1 := hk9 1 _ h1 (by decide) (Or.inr (rfl))
      have h2 := hn9
      refine lv_iconst (v := 0) C.1 C.2.1 dX6_reckonTails_18 (by decide) ?_
      refine m_istN C hL dX6_reckonTails_19 rfl (by decide) (fun ls hL hn9 hk9 => ?_)
      have h0 := hk9 0 _ h0 (by decide) (Or.inl (by decide))
      have h1 := hk9 1 _ h1 (by decide) (Or.inl (by decide))
      have h2 := hk9 2 _ h2 (by decide) (Or.inr (va_rf_cat _))
      have h3 := hn9
      refine lv_iconst (v := 0) C.1 C.2.1 dX6_reckonTails_20 (by decide) ?_
      refine m_ist C hL dX6_reckonTails_21 (by decide) (fun ls hL hn9 hk9 => ?_)
      have h0 := hk9 0 _ h0 (by decide) (Or.inl (by decide))
      have h1 := hk9 1 _ h1 (by decide) (Or.inl (by decide))
      have h2 := hk9 2 _ h2 (by decide) (Or.inl (by decide))
      have h3 := hk9 3 _ h3 (by decide) (Or.inr (rfl))
      have h4 := hn9
      refine w_X6_reckonTails_L23 C ?_ FU S 0 0 H locs ls hW hS hL h0 h1 h2 h3 h4 hw
      · intro S23 x24 H locs ls hW hS hL h0 h1 h2 h3 hw
        refine m_aldN C dX6_reckonTails_61 rfl h2 ?_
        refine m_aldN C dX6_reckonTails_62 rfl h2 ?_
        obtain ⟨b25, ho25, hw⟩ := hw
        obtain ⟨hk26, hw⟩ := hw
        refine m_getI C hW ho25 hk26 f_X6_98 rfl dX6_reckonTails_63 ?_
        refine lv_iload_n C.1 C.2.1 dX6_reckonTails_66 rfl h3 ?_
        refine lv_iadd C.1 C.2.1 dX6_reckonTails_67 ?_
        refine m_putI C hW hS ho25 hk26 p_X6_101 (fun z => by cases z) rfl dX6_reckonTails_68 (fun H locs hW hS => ?_)
        refine m_iinc (v := (l1 + (-1))) C hL dX6_reckonTails_71 h1 rfl (by decide) (fun ls hL hn9 hk9 => ?_)
        have h0 := hk9 0 _ h0 (by decide) (Or.inr (va_rf_cat _))
        have h1 := hn9
        refine lv_goto (tgt := 7) C.1 C.2.1 dX6_reckonTails_74 (by decide) ?_
        exact ih (sI S23 b25 14 ((hI S23 b25 2) + x24)) (l1 + (-1)) H locs ls hW hS hL h0 h1 hw
set_option maxRecDepth 100000 in
set_option maxHeartbeats 4000000 in
theorem c_X6_reckonTails {l : Launch} {G : GX} {S : Hp} {a0 : Nat} {Q : Hp → Prop} (hw : wp_X6_reckonTails S a0 Q) : Met l yX6_reckonTails (Cond.code yX6_reckonTails cX6_reckonTails 5 none :: TS) { frames := 3, cells := 0, slots := 0, locals := 64 } (Pk G S [va_rf (some a0)]) (QV G Q) 0 0 G.2.2.1 := by
  refine m_met (by decide) ?_
  intro p e s m below meth c H locs C hW hS
  have C : Cx p s m ([va_rf (some a0)] : List Value).toArray meth c cX6_reckonTails 5 RX6 none "reckonTails" G := C
  obtain ⟨ls, hent, hL, hla⟩ := m_entry m (vs := [va_rf (some a0)]) (nn := 5) [1] rfl (by decide)
  rw [hent]
  have h0 : ls[0]? = some (.val (va_rf (some a0))) := hla (0, va_rf (some a0)) (List.mem_of_getElem? (i := 0) rfl)
  clear hla
  generalize ([va_rf (some a0)] : List Value).toArray = args at C ⊢
  unfold wp_X6_reckonTails at hw
  refine m_aldN C dX6_reckonTails_0 rfl h0 ?_
  obtain ⟨hk1, hw⟩ := hw
  refine m_getI C hW rfl hk1 f_X6_54 rfl dX6_reckonTails_1 ?_
  refine lv_iconst (v := 1) C.1 C.2.1 dX6_reckonTails_4 (by decide) ?_
  refine lv_isub C.1 C.2.1 dX6_reckonTails_5 ?_
  refine lv_topi (fun x2 ex2 => ?_)
  have hw := hw x2 ex2
  refine m_istN C hL dX6_reckonTails_6 rfl (by decide) (fun ls hL hn9 hk9 => ?_)
  have h0 := hk9 0 _ h0 (by decide) (Or.inr (va_rf_cat _))
  have h1 := hn9
  exact w_X6_reckonTails_L7 C  FU S x2 H locs ls hW hS hL h0 h1 hw
def wp_X6_longerOf (S : Hp) (a0 : Option Nat) (a1 : Option Nat) (Q : Option Nat → Hp → Prop) : Prop := (a0 = none → Q a1 S) ∧ (¬ (a0 = none) → ∃ b2 : Nat, a1 = some b2 ∧ hK S b2 = 6 ∧ ∃ b4 : Nat, a0 = some b4 ∧ hK S b4 = 6 ∧ ((hI S b2 14) ≤ (hI S b4 14) → ((hI S b2 14) = (hI S b4 14) → ((hI S b4 0) ≤ (hI S b2 0) → Q a0 S) ∧ (¬ ((hI S b4 0) ≤ (hI S b2 0)) → Q a1 S)) ∧ (¬ ((hI S b2 14) = (hI S b4 14)) → Q a0 S)) ∧ (¬ ((hI S b2 14) ≤ (hI S b4 14)) → Q a1 S))
set_option maxRecDepth 100000 in
set_option maxHeartbeats 4000000 in
theorem c_X6_longerOf {l : Launch} {G : GX} {S : Hp} {a0 : Option Nat} {a1 : Option Nat} {Q : Option Nat → Hp → Prop} (hw : wp_X6_longerOf S a0 a1 Q) : Met l yX6_longerOf (Cond.code yX6_longerOf cX6_longerOf 2 (some (.object "SetWorkshop$Job")) :: TS) { frames := 0, cells := 0, slots := 0, locals := 0 } (Pk G S [va_rf a0, va_rf a1]) (QR G Q) 0 0 G.2.2.1 := by
  refine m_met (by decide) ?_
  intro p e s m below meth c H locs C hW hS
  have C : Cx p s m ([va_rf a0, va_rf a1] : List Value).toArray meth c cX6_longerOf 2 RX6 (some (.object "SetWorkshop$Job")) "longerOf" G := C
  obtain ⟨ls, hent, hL, hla⟩ := m_entry m (vs := [va_rf a0, va_rf a1]) (nn := 2) [1, 1] (by simp only [List.map_cons, List.map_nil, va_rf_cat] <;> rfl) (by decide)
  rw [hent]
  have h0 : ls[0]? = some (.val (va_rf a0)) := hla (0, va_rf a0) (List.mem_of_getElem? (i := 0) rfl)
  have h1 : ls[1]? = some (.val (va_rf a1)) := hla (1, va_rf a1) (List.mem_of_getElem? (i := 1) rfl)
  clear hla
  generalize ([va_rf a0, va_rf a1] : List Value).toArray = args at C ⊢
  unfold wp_X6_longerOf at hw
  refine m_aldN C dX6_longerOf_0 rfl h0 ?_
  refine m_ifnull (tgt := 15) C dX6_longerOf_1 (by decide) (fun hc1 => ?_) (fun hc1 => ?_)
  · have hw := hw.1 hc1
    refine m_aldN C dX6_longerOf_15 rfl h1 ?_
    exact m_aret C (Or.inl ⟨_, rfl⟩) hW hS (o := a1) hw dX6_longerOf_16
  · have hw := hw.2 hc1
    refine m_aldN C dX6_longerOf_4 rfl h1 ?_
    obtain ⟨b2, ho2, hw⟩ := hw
    obtain ⟨hk3, hw⟩ := hw
    refine m_getI C hW ho2 hk3 f_X6_101 rfl dX6_longerOf_5 ?_
    refine m_aldN C dX6_longerOf_8 rfl h0 ?_
    obtain ⟨b4, ho4, hw⟩ := hw
    obtain ⟨hk5, hw⟩ := hw
    refine m_getI C hW ho4 hk5 f_X6_101 rfl dX6_longerOf_9 ?_
    refine lv_icmp_le (tgt := 17) C.1 C.2.1 dX6_longerOf_12 (by decide) (fun hc6 => ?_) (fun hc6 => ?_)
    · have hw := hw.1 hc6
      refine m_aldN C dX6_longerOf_17 rfl h1 ?_
      refine m_getI C hW ho2 hk3 f_X6_101 rfl dX6_longerOf_18 ?_
      refine m_aldN C dX6_longerOf_21 rfl h0 ?_
      refine m_getI C hW ho4 hk5 f_X6_101 rfl dX6_longerOf_22 ?_
      refine lv_icmp_ne (tgt := 43) C.1 C.2.1 dX6_longerOf_25 (by decide) (fun hc7 => ?_) (fun hc7 => ?_)
      · have hw := hw.2 hc7
        refine m_aldN C dX6_longerOf_43 rfl h0 ?_
        exact m_aret C (Or.inl ⟨_, rfl⟩) hW hS (o := a0) hw dX6_longerOf_44
      · have hw := hw.1 hc7
        refine m_aldN C dX6_longerOf_28 rfl h1 ?_
        refine m_getI C hW ho2 hk3 f_X6_86 rfl dX6_longerOf_29 ?_
        refine m_aldN C dX6_longerOf_32 rfl h0 ?_
        refine m_getI C hW ho4 hk5 f_X6_86 rfl dX6_longerOf_33 ?_
        refine lv_icmp_ge (tgt := 43) C.1 C.2.1 dX6_longerOf_36 (by decide) (fun hc8 => ?_) (fun hc8 => ?_)
        · have hw := hw.1 hc8
          refine m_aldN C dX6_longerOf_43 rfl h0 ?_
          exact m_aret C (Or.inl ⟨_, rfl⟩) hW hS (o := a0) hw dX6_longerOf_44
        · have hw := hw.2 hc8
          refine m_aldN C dX6_longerOf_39 rfl h1 ?_
          refine lv_goto (tgt := 44) C.1 C.2.1 dX6_longerOf_40 (by decide) ?_
          exact m_aret C (Or.inl ⟨_, rfl⟩) hW hS (o := a1) hw dX6_longerOf_44
    · have hw := hw.2 hc6
      refine m_aldN C dX6_longerOf_15 rfl h1 ?_
      exact m_aret C (Or.inl ⟨_, rfl⟩) hW hS (o := a1) hw dX6_longerOf_16
def wp_X6_longestBehind_L4 (l0 : Option Nat) (Q : Option Nat → Hp → Prop) : Nat → Hp → Option Nat → Int32 → Prop
  | 0, _, _, _ => False
  | n + 1, S, l1, l2 => ∃ b1 : Nat, l0 = some b1 ∧ hK S b1 = 6 ∧ ∃ b3 : Nat, (hR S b1 5) = some b3 ∧ hK S b3 = 1 ∧ wp_Jx4a65c_size_8abf5 S b3 (fun r6 S5 => (r6 ≤ l2 → Q l1 S5) ∧ (¬ (r6 ≤ l2) → hK S5 b1 = 6 ∧ ∃ b9 : Nat, (hR S5 b1 5) = some b9 ∧ hK S5 b9 = 1 ∧ wp_Jx4a65c_get_915e3 S5 b9 l2 (fun r12 S11 => ∃ b13 : Nat, r12 = some b13 ∧ hK S11 b13 = 6 ∧ wp_X6_longerOf S11 l1 r12 (fun r16 S15 => wp_X6_longestBehind_L4 l0 Q n S15 r16 (l2 + 1)))))
def wp_X6_longestBehind (S : Hp) (a0 : Option Nat) (Q : Option Nat → Hp → Prop) : Prop := wp_X6_longestBehind_L4 a0 Q FU S none 0
set_option maxRecDepth 100000 in
set_option maxHeartbeats 4000000 in
theorem w_X6_longestBehind_L4 {p : Program} {l : Launch} {e : Env} {s : State} {m : MethodId} {args : Array Value} {below : List Frame} {meth : Method} {c : Code} {G : GX} {Q : Option Nat → Hp → Prop} {l0 : Option Nat} (C : Cx p s m args meth c cX6_longestBehind 3 RX6 (some (.object "SetWorkshop$Job")) "longestBehind" G) :
    ∀ (n : Nat) (S : Hp) (l1 : Option Nat) (l2 : Int32) (H : Heap) (locs : List Loc) (ls : Array Slot), wd G S H → va_S G.2.2.1 s.heap H locs → LV ls 3 → ls[0]? = some (.val (va_rf l0)) → ls[1]? = some (.val (va_rf l1)) → ls[2]? = some (.val (.int l2)) → wp_X6_longestBehind_L4 l0 Q n S l1 l2 → W p l e ({ frames := 3, cells := 0, slots := 0, locals := 64 } : Room) s m args below meth c H locs 0 0 (MQ below (QR G Q) args s 0 0 G.2.2.1) (F0 m 4 ls []) := by
  intro n
  induction n with
  | zero =>
    intro S l1 l2 H locs ls hW hS hL h0 h1 h2 hw
    exact False.elim hw
  | succ n ih =>
    intro S l1 l2 H locs ls hW hS hL h0 h1 h2 hw
    unfold wp_X6_longestBehind_L4 at hw
    refine lv_iload_n C.1 C.2.1 dX6_longestBehind_4 rfl h2 ?_
    refine m_aldN C dX6_longestBehind_5 rfl h0 ?_
    obtain ⟨b1, ho1, hw⟩ := hw
    obtain ⟨hk2, hw⟩ := hw
    refine m_getR C hW ho1 hk2 f_X6_79 rfl dX6_longestBehind_6 ?_
    obtain ⟨b3, ho3, hw⟩ := hw
    obtain ⟨hk4, hw⟩ := hw
    refine m_rI (m_runV (As := []) (rest := [.int l2]) C hW hS hL (c_Jx4a65c_size_8abf5 hw) v_X6_69 ⟨rfl, rfl⟩ ⟨Nat.le_of_ble_eq_true rfl, Nat.le_of_ble_eq_true rfl⟩ ho3 hk4 rfl rfl (Nat.le_of_ble_eq_true rfl) dX6_longestBehind_9 ⟨Nat.le_of_ble_eq_true rfl, Nat.le_of_ble_eq_true rfl⟩) hS (fun r6 S5 H locs hw hW hS => ?_)
    refine lv_icmp_ge (tgt := 37) C.1 C.2.1 dX6_longestBehind_12 (by decide) (fun hc7 => ?_) (fun hc7 => ?_)
    · have hw := hw.1 hc7
      refine m_aldN C dX6_longestBehind_37 rfl h1 ?_
      exact m_aret C (Or.inl ⟨_, rfl⟩) hW hS (o := l1) hw dX6_longestBehind_38
    · have hw := hw.2 hc7
      refine m_aldN C dX6_longestBehind_15 rfl h1 ?_
      refine m_aldN C dX6_longestBehind_16 rfl h0 ?_
      obtain ⟨hk8, hw⟩ := hw
      refine m_getR C hW ho1 hk8 f_X6_79 rfl dX6_longestBehind_17 ?_
      refine lv_iload_n C.1 C.2.1 dX6_longestBehind_20 rfl h2 ?_
      obtain ⟨b9, ho9, hw⟩ := hw
      obtain ⟨hk10, hw⟩ := hw
      refine m_rR (m_runV (As := [.int l2]) (rest := [va_rf l1]) C hW hS hL (c_Jx4a65c_get_915e3 hw) v_X6_82 ⟨rfl, rfl⟩ ⟨Nat.le_of_ble_eq_true rfl, Nat.le_of_ble_eq_true rfl⟩ ho9 hk10 rfl rfl (by simp only [List.map_cons, List.map_nil, va_rf_cat, List.sum_cons, List.sum_nil] <;> exact Nat.le_of_ble_eq_true rfl) dX6_longestBehind_21 ⟨Nat.le_of_ble_eq_true rfl, Nat.le_of_ble_eq_true rfl⟩) hS (fun r12 S11 H locs hw hW hS => ?_)
      obtain ⟨b13, ho13, hw⟩ := hw
      obtain ⟨hk14, hw⟩ := hw
      refine m_castJ C hW ho13 hk14 tw_94 dX6_longestBehind_24 ?_
      refine m_rR (m_runS (As := [va_rf l1, va_rf r12]) (rest := []) C hW hS hL (c_X6_longerOf hw) s_X6_104 ⟨rfl, rfl⟩ ⟨Nat.le_of_ble_eq_true rfl, Nat.le_of_ble_eq_true rfl⟩ rfl rfl (Nat.le_of_ble_eq_true rfl) dX6_longestBehind_27 ⟨Nat.le_of_ble_eq_true rfl, Nat.le_of_ble_eq_true rfl⟩) hS (fun r16 S15 H locs hw hW hS => ?_)
      refine m_astN C hL dX6_longestBehind_30 rfl (by decide) (fun ls hL hn9 hk9 => ?_)
      have h0 := hk9 0 _ h0 (by decide) (Or.inr (va_rf_cat _))
      have h2 := hk9 2 _ h2 (by decide) (Or.inl (by decide))
      have h1 := hn9
      refine m_iinc (v := (l2 + 1)) C hL dX6_longestBehind_31 h2 rfl (by decide) (fun ls hL hn9 hk9 => ?_)
      have h0 := hk9 0 _ h0 (by decide) (Or.inl (by decide))
      have h1 := hk9 1 _ h1 (by decide) (Or.inr (va_rf_cat _))
      have h2 := hn9
      refine lv_goto (tgt := 4) C.1 C.2.1 dX6_longestBehind_34 (by decide) ?_
      exact ih S15 r16 (l2 + 1) H locs ls hW hS hL h0 h1 h2 hw
set_option maxRecDepth 100000 in
set_option maxHeartbeats 4000000 in
theorem c_X6_longestBehind {l : Launch} {G : GX} {S : Hp} {a0 : Option Nat} {Q : Option Nat → Hp → Prop} (hw : wp_X6_longestBehind S a0 Q) : Met l yX6_longestBehind (Cond.code yX6_longestBehind cX6_longestBehind 3 (some (.object "SetWorkshop$Job")) :: TS) { frames := 3, cells := 0, slots := 0, locals := 64 } (Pk G S [va_rf a0]) (QR G Q) 0 0 G.2.2.1 := by
  refine m_met (by decide) ?_
  intro p e s m below meth c H locs C hW hS
  have C : Cx p s m ([va_rf a0] : List Value).toArray meth c cX6_longestBehind 3 RX6 (some (.object "SetWorkshop$Job")) "longestBehind" G := C
  obtain ⟨ls, hent, hL, hla⟩ := m_entry m (vs := [va_rf a0]) (nn := 3) [1] (by simp only [List.map_cons, List.map_nil, va_rf_cat] <;> rfl) (by decide)
  rw [hent]
  have h0 : ls[0]? = some (.val (va_rf a0)) := hla (0, va_rf a0) (List.mem_of_getElem? (i := 0) rfl)
  clear hla
  generalize ([va_rf a0] : List Value).toArray = args at C ⊢
  unfold wp_X6_longestBehind at hw
  refine lv_null C.1 C.2.1 dX6_longestBehind_0 ?_
  refine W.eq (g2 := F0 m 1 ls ([va_rf none])) rfl ?_
  refine m_astN C hL dX6_longestBehind_1 rfl (by decide) (fun ls hL hn9 hk9 => ?_)
  have h0 := hk9 0 _ h0 (by decide) (Or.inr (va_rf_cat _))
  have h1 := hn9
  refine lv_iconst (v := 0) C.1 C.2.1 dX6_longestBehind_2 (by decide) ?_
  refine m_istN C hL dX6_longestBehind_3 rfl (by decide) (fun ls hL hn9 hk9 => ?_)
  have h0 := hk9 0 _ h0 (by decide) (Or.inl (by decide))
  have h1 := hk9 1 _ h1 (by decide) (Or.inr (va_rf_cat _))
  have h2 := hn9
  exact w_X6_longestBehind_L4 C  FU S none 0 H locs ls hW hS hL h0 h1 h2 hw
def wp_X6_followChain_L4 (l0 : Nat) (K35 : Hp → Option Nat → Prop) (Q : Hp → Prop) : Nat → Hp → Option Nat → Int32 → Prop
  | 0, _, _, _ => False
  | n + 1, S, l1, l2 => hK S l0 = 8 ∧ ∃ b2 : Nat, (hR S l0 0) = some b2 ∧ hK S b2 = 11 ∧ ((hI S b2 7) ≤ l2 → K35 S l1) ∧ (¬ ((hI S b2 7) ≤ l2) → ∃ b5 : Nat, (hR S b2 5) = some b5 ∧ hK S b5 = 19 ∧ vp_in l2 (hN S b5) ∧ wp_X6_longerOf S l1 (hR S b5 (l2 : Int32).toNatClampNeg) (fun r9 S8 => wp_X6_followChain_L4 l0 K35 Q n S8 r9 (l2 + 1)))
def wp_X6_followChain_L56 (l0 : Nat) (Q : Hp → Prop) : Nat → Hp → Option Nat → Prop
  | 0, _, _ => False
  | n + 1, S, l1 => (l1 = none → Q S) ∧ (¬ (l1 = none) → hK S l0 = 8 ∧ (200 ≤ (hI S l0 5) → Q S) ∧ (¬ (200 ≤ (hI S l0 5)) → ∃ b24 : Nat, (hR S l0 4) = some b24 ∧ hK S b24 = 19 ∧ vp_in (hI S l0 5) (hN S b24) ∧ ∃ b27 : Nat, l1 = some b27 ∧ hK S b27 = 6 ∧ wp_X6_longestBehind (sI (sR S b24 ((hI S l0 5) : Int32).toNatClampNeg l1) l0 5 ((hI (sR S b24 ((hI S l0 5) : Int32).toNatClampNeg l1) l0 5) + 1)) l1 (fun r30 S29 => wp_X6_followChain_L56 l0 Q n S29 r30)))
def wp_X6_followChain (S : Hp) (a0 : Nat) (Q : Hp → Prop) : Prop := wp_X6_followChain_L4 a0 (fun (S10 : Hp) (o11 : Option Nat) => ∃ J13 : Option Nat → Int32 → Prop, J13 = (fun (o16 : Option Nat) (x17 : Int32) => ∃ b18 : Nat, o16 = some b18 ∧ hK S10 b18 = 8 ∧ hK (sI S10 b18 6 x17) a0 = 8 ∧ wp_X6_followChain_L56 a0 Q FU (sI (sI S10 b18 6 x17) a0 5 0) o11) ∧ (o11 = none → J13 (some a0) 0) ∧ (¬ (o11 = none) → ∃ b14 : Nat, o11 = some b14 ∧ hK S10 b14 = 6 ∧ J13 (some a0) (hI S10 b14 14))) Q FU S none 0
set_option maxRecDepth 100000 in
set_option maxHeartbeats 4000000 in
theorem w_X6_followChain_L4 {p : Program} {l : Launch} {e : Env} {s : State} {m : MethodId} {args : Array Value} {below : List Frame} {meth : Method} {c : Code} {G : GX} {Q : Hp → Prop} {K35 : Hp → Option Nat → Prop} {l0 : Nat} (C : Cx p s m args meth c cX6_followChain 3 RX6 none "followChain" G)
    (k35 : ∀ (S : Hp) (l1 : Option Nat) (H : Heap) (locs : List Loc) (ls : Array Slot), wd G S H → va_S G.2.2.1 s.heap H locs → LV ls 3 → ls[0]? = some (.val (va_rf (some l0))) → ls[1]? = some (.val (va_rf l1)) → K35 S l1 → W p l e ({ frames := 4, cells := 0, slots := 0, locals := 86 } : Room) s m args below meth c H locs 0 0 (MQ below (QV G Q) args s 0 0 G.2.2.1) (F0 m 35 ls [])) :
    ∀ (n : Nat) (S : Hp) (l1 : Option Nat) (l2 : Int32) (H : Heap) (locs : List Loc) (ls : Array Slot), wd G S H → va_S G.2.2.1 s.heap H locs → LV ls 3 → ls[0]? = some (.val (va_rf (some l0))) → ls[1]? = some (.val (va_rf l1)) → ls[2]? = some (.val (.int l2)) → wp_X6_followChain_L4 l0 K35 Q n S l1 l2 → W p l e ({ frames := 4, cells := 0, slots := 0, locals := 86 } : Room) s m args below meth c H locs 0 0 (MQ below (QV G Q) args s 0 0 G.2.2.1) (F0 m 4 ls []) := by
  intro n
  induction n with
  | zero =>
    intro S l1 l2 H locs ls hW hS hL h0 h1 h2 hw
    exact False.elim hw
  | succ n ih =>
    intro S l1 l2 H locs ls hW hS hL h0 h1 h2 hw
    unfold wp_X6_followChain_L4 at hw
    refine lv_iload_n C.1 C.2.1 dX6_followChain_4 rfl h2 ?_
    refine m_aldN C dX6_followChain_5 rfl h0 ?_
    obtain ⟨hk1, hw⟩ := hw
    refine m_getR C hW rfl hk1 f_X6_24 rfl dX6_followChain_6 ?_
    obtain ⟨b2, ho2, hw⟩ := hw
    obtain ⟨hk3, hw⟩ := hw
    refine m_getI C hW ho2 hk3 f_X6_57 rfl dX6_followChain_9 ?_
    refine lv_icmp_ge (tgt := 35) C.1 C.2.1 dX6_followChain_12 (by decide) (fun hc4 => ?_) (fun hc4 => ?_)
    · have hw := hw.1 hc4
      exact k35 S l1 H locs ls hW hS hL h0 h1 hw
    · have hw := hw.2 hc4
      refine m_aldN C dX6_followChain_15 rfl h1 ?_
      refine m_aldN C dX6_followChain_16 rfl h0 ?_
      refine m_getR C hW rfl hk1 f_X6_24 rfl dX6_followChain_17 ?_
      refine m_getR C hW ho2 hk3 f_X6_62 rfl dX6_followChain_20 ?_
      refine lv_iload_n C.1 C.2.1 dX6_followChain_23 rfl h2 ?_
      obtain ⟨b5, ho5, hw⟩ := hw
      obtain ⟨hk6, hw⟩ := hw
      obtain ⟨hi7, hw⟩ := hw
      refine m_aald C hW ho5 hk6 (by decide) (by decide) hi7 dX6_followChain_24 ?_
      refine m_rR (m_runS (As := [va_rf l1, va_rf (hR S b5 (l2 : Int32).toNatClampNeg)]) (rest := []) C hW hS hL (c_X6_longerOf hw) s_X6_104 ⟨rfl, rfl⟩ ⟨Nat.le_of_ble_eq_true rfl, Nat.le_of_ble_eq_true rfl⟩ rfl rfl (Nat.le_of_ble_eq_true rfl) dX6_followChain_25 ⟨Nat.le_of_ble_eq_true rfl, Nat.le_of_ble_eq_true rfl⟩) hS (fun r9 S8 H locs hw hW hS => ?_)
      refine m_astN C hL dX6_followChain_28 rfl (by decide) (fun ls hL hn9 hk9 => ?_)
      have h0 := hk9 0 _ h0 (by decide) (Or.inr (va_rf_cat _))
      have h2 := hk9 2 _ h2 (by decide) (Or.inl (by decide))
      have h1 := hn9
      refine m_iinc (v := (l2 + 1)) C hL dX6_followChain_29 h2 rfl (by decide) (fun ls hL hn9 hk9 => ?_)
      have h0 := hk9 0 _ h0 (by decide) (Or.inl (by decide))
      have h1 := hk9 1 _ h1 (by decide) (Or.inr (va_rf_cat _))
      have h2 := hn9
      refine lv_goto (tgt := 4) C.1 C.2.1 dX6_followChain_32 (by decide) ?_
      exact ih S8 r9 (l2 + 1) H locs ls hW hS hL h0 h1 h2 hw
set_option maxRecDepth 100000 in
set_option maxHeartbeats 4000000 in
theorem w_X6_followChain_L56 {p : Program} {l : Launch} {e : Env} {s : State} {m : MethodId} {args : Array Value} {below : List Frame} {meth : Method} {c : Code} {G : GX} {Q : Hp → Prop} {l0 : Nat} (C : Cx p s m args meth c cX6_followChain 3 RX6 none "followChain" G) :
    ∀ (n : Nat) (S : Hp) (l1 : Option Nat) (H : Heap) (locs : List Loc) (ls : Array Slot), wd G S H → va_S G.2.2.1 s.heap H locs → LV ls 3 → ls[0]? = some (.val (va_rf (some l0))) → ls[1]? = some (.val (va_rf l1)) → wp_X6_followChain_L56 l0 Q n S l1 → W p l e ({ frames := 4, cells := 0, slots := 0, locals := 86 } : Room) s m args below meth c H locs 0 0 (MQ below (QV G Q) args s 0 0 G.2.2.1) (F0 m 56 ls []) := by
  intro n
  induction n with
  | zero =>
    intro S l1 H locs ls hW hS hL h0 h1 hw
    exact False.elim hw
  | succ n ih =>
    intro S l1 H locs ls hW hS hL h0 h1 hw
    unfold wp_X6_followChain_L56 at hw
    refine m_aldN C dX6_followChain_56 rfl h1 ?_
    refine m_ifnull (tgt := 98) C dX6_followChain_57 (by decide) (fun hc21 => ?_) (fun hc21 => ?_)
    · have hw := hw.1 hc21
      exact m_vret C hW hS hw dX6_followChain_98
    · have hw := hw.2 hc21
      refine m_aldN C dX6_followChain_60 rfl h0 ?_
      obtain ⟨hk22, hw⟩ := hw
      refine m_getI C hW rfl hk22 f_X6_31 rfl dX6_followChain_61 ?_
      refine lv_sipush (v := 200) C.1 C.2.1 dX6_followChain_64 (by decide) ?_
      refine lv_icmp_ge (tgt := 98) C.1 C.2.1 dX6_followChain_67 (by decide) (fun hc23 => ?_) (fun hc23 => ?_)
      · have hw := hw.1 hc23
        exact m_vret C hW hS hw dX6_followChain_98
      · have hw := hw.2 hc23
        refine m_aldN C dX6_followChain_70 rfl h0 ?_
        refine m_getR C hW rfl hk22 f_X6_21 rfl dX6_followChain_71 ?_
        refine m_aldN C dX6_followChain_74 rfl h0 ?_
        refine m_getI C hW rfl hk22 f_X6_31 rfl dX6_followChain_75 ?_
        refine m_aldN C dX6_followChain_78 rfl h1 ?_
        obtain ⟨b24, ho24, hw⟩ := hw
        obtain ⟨hk25, hw⟩ := hw
        obtain ⟨hi26, hw⟩ := hw
        obtain ⟨b27, ho27, hw⟩ := hw
        obtain ⟨hk28, hw⟩ := hw
        refine m_aast C hW hS ho24 hk25 (by decide) (by decide) hi26 (fun bb9 zz9 => by obtain rfl : b27 = bb9 := Option.some.inj ((ho27).symm.trans zz9); exact Or.inr ⟨by decide, hk28⟩) dX6_followChain_79 (fun H locs hW hS => ?_)
        refine m_aldN C dX6_followChain_80 rfl h0 ?_
        refine lv_dup C.1 C.2.1 dX6_followChain_81 (va_rf_cat _) ?_
        refine m_getI C hW rfl hk22 f_X6_31 rfl dX6_followChain_82 ?_
        refine lv_iconst (v := 1) C.1 C.2.1 dX6_followChain_85 (by decide) ?_
        refine lv_iadd C.1 C.2.1 dX6_followChain_86 ?_
        refine m_putI C hW hS rfl hk22 p_X6_31 (fun z => by cases z) rfl dX6_followChain_87 (fun H locs hW hS => ?_)
        refine m_aldN C dX6_followChain_90 rfl h1 ?_
        refine m_rR (m_runS (As := [va_rf l1]) (rest := []) C hW hS hL (c_X6_longestBehind hw) s_X6_108 ⟨rfl, rfl⟩ ⟨Nat.le_of_ble_eq_true rfl, Nat.le_of_ble_eq_true rfl⟩ rfl rfl (Nat.le_of_ble_eq_true rfl) dX6_followChain_91 ⟨Nat.le_of_ble_eq_true rfl, Nat.le_of_ble_eq_true rfl⟩) hS (fun r30 S29 H locs hw hW hS => ?_)
        refine m_astN C hL dX6_followChain_94 rfl (by decide) (fun ls hL hn9 hk9 => ?_)
        have h0 := hk9 0 _ h0 (by decide) (Or.inr (va_rf_cat _))
        have h1 := hn9
        refine lv_goto (tgt := 56) C.1 C.2.1 dX6_followChain_95 (by decide) ?_
        exact ih S29 r30 H locs ls hW hS hL h0 h1 hw
set_option maxRecDepth 100000 in
set_option maxHeartbeats 4000000 in
theorem c_X6_followChain {l : Launch} {G : GX} {S : Hp} {a0 : Nat} {Q : Hp → Prop} (hw : wp_X6_followChain S a0 Q) : Met l yX6_followChain (Cond.code yX6_followChain cX6_followChain 3 none :: TS) { frames := 4, cells := 0, slots := 0, locals := 86 } (Pk G S [va_rf (some a0)]) (QV G Q) 0 0 G.2.2.1 := by
  refine m_met (by decide) ?_
  intro p e s m below meth c H locs C hW hS
  have C : Cx p s m ([va_rf (some a0)] : List Value).toArray meth c cX6_followChain 3 RX6 none "followChain" G := C
  obtain ⟨ls, hent, hL, hla⟩ := m_entry m (vs := [va_rf (some a0)]) (nn := 3) [1] rfl (by decide)
  rw [hent]
  have h0 : ls[0]? = some (.val (va_rf (some a0))) := hla (0, va_rf (some a0)) (List.mem_of_getElem? (i := 0) rfl)
  clear hla
  generalize ([va_rf (some a0)] : List Value).toArray = args at C ⊢
  unfold wp_X6_followChain at hw
  refine lv_null C.1 C.2.1 dX6_followChain_0 ?_
  refine W.eq (g2 := F0 m 1 ls ([va_rf none])) rfl ?_
  refine m_astN C hL dX6_followChain_1 rfl (by decide) (fun ls hL hn9 hk9 => ?_)
  have h0 := hk9 0 _ h0 (by decide) (Or.inr (va_rf_cat _))
  have h1 := hn9
  refine lv_iconst (v := 0) C.1 C.2.1 dX6_followChain_2 (by decide) ?_
  refine m_istN C hL dX6_followChain_3 rfl (by decide) (fun ls hL hn9 hk9 => ?_)
  have h0 := hk9 0 _ h0 (by decide) (Or.inl (by decide))
  have h1 := hk9 1 _ h1 (by decide) (Or.inr (va_rf_cat _))
  have h2 := hn9
  refine w_X6_followChain_L4 C ?_ FU S none 0 H locs ls hW hS hL h0 h1 h2 hw
  · intro S10 o11 H locs ls hW hS hL h0 h1 hw
    refine m_aldN C dX6_followChain_35 rfl h0 ?_
    refine m_aldN C dX6_followChain_36 rfl h1 ?_
    obtain ⟨J13, eJ13, hw⟩ := hw
    have wJ13 : ∀ (o16 : Option Nat) (x17 : Int32) (ls : Array Slot), LV ls 3 → ls[0]? = some (.val (va_rf (some a0))) → ls[1]? = some (.val (va_rf o11)) → J13 o16 x17 → W p l e ({ frames := 4, cells := 0, slots := 0, locals := 86 } : Room) s m args below meth c H locs 0 0 (MQ below (QV G Q) args s 0 0 G.2.2.1) (F0 m 48 ls [.int x17, va_rf o16]) := by
      intro o16 x17 ls hL h0 h1 hw
      rw [eJ13] at hw
      obtain ⟨b18, ho18, hw⟩ := hw
      obtain ⟨hk19, hw⟩ := hw
      refine m_putI C hW hS ho18 hk19 p_X6_35 (fun z => by cases z) rfl dX6_followChain_48 (fun H locs hW hS => ?_)
      refine m_aldN C dX6_followChain_51 rfl h0 ?_
      refine lv_iconst (v := 0) C.1 C.2.1 dX6_followChain_52 (by decide) ?_
      obtain ⟨hk20, hw⟩ := hw
      refine m_putI C hW hS rfl hk20 p_X6_31 (fun z => by cases z) rfl dX6_followChain_53 (fun H locs hW hS => ?_)
      exact w_X6_followChain_L56 C  FU (sI (sI S10 b18 6 x17) a0 5 0) o11 H locs ls hW hS hL h0 h1 hw
    refine m_ifnonnull (tgt := 44) C dX6_followChain_37 (by decide) (fun hc12 => ?_) (fun hc12 => ?_)
    · have hw := hw.2 hc12
      refine m_aldN C dX6_followChain_44 rfl h1 ?_
      obtain ⟨b14, ho14, hw⟩ := hw
      obtain ⟨hk15, hw⟩ := hw
      refine m_getI C hW ho14 hk15 f_X6_101 rfl dX6_followChain_45 ?_
      exact wJ13 (some a0) (hI S10 b14 14) ls hL h0 h1 hw
    · have hw := hw.1 hc12
      refine lv_iconst (v := 0) C.1 C.2.1 dX6_followChain_40 (by decide) ?_
      refine lv_goto (tgt := 48) C.1 C.2.1 dX6_followChain_41 (by decide) ?_
      exact wJ13 (some a0) 0 ls hL h0 h1 hw
def wp_X6_reckon (S : Hp) (a0 : Nat) (Q : Hp → Prop) : Prop := hK S a0 = 8 ∧ ((hI S a0 7) = 0 → wp_X6_sortJobs S a0 (fun S3 => hK S3 a0 = 8 ∧ wp_X6_reckonHeads S3 a0 (fun S5 => hK S5 a0 = 8 ∧ wp_X6_reckonTails S5 a0 (fun S7 => hK S7 a0 = 8 ∧ wp_X6_followChain S7 a0 (fun S9 => hK S9 a0 = 8 ∧ Q (sI S9 a0 7 1)))))) ∧ (¬ ((hI S a0 7) = 0) → Q S)
set_option maxRecDepth 100000 in
set_option maxHeartbeats 4000000 in
theorem c_X6_reckon {l : Launch} {G : GX} {S : Hp} {a0 : Nat} {Q : Hp → Prop} (hw : wp_X6_reckon S a0 Q) : Met l yX6_reckon (Cond.code yX6_reckon cX6_reckon 1 none :: TS) { frames := 5, cells := 0, slots := 0, locals := 108 } (Pk G S [va_rf (some a0)]) (QV G Q) 0 0 G.2.2.1 := by
  refine m_met (by decide) ?_
  intro p e s m below meth c H locs C hW hS
  have C : Cx p s m ([va_rf (some a0)] : List Value).toArray meth c cX6_reckon 1 RX6 none "reckon" G := C
  obtain ⟨ls, hent, hL, hla⟩ := m_entry m (vs := [va_rf (some a0)]) (nn := 1) [1] rfl (by decide)
  rw [hent]
  have h0 : ls[0]? = some (.val (va_rf (some a0))) := hla (0, va_rf (some a0)) (List.mem_of_getElem? (i := 0) rfl)
  clear hla
  generalize ([va_rf (some a0)] : List Value).toArray = args at C ⊢
  unfold wp_X6_reckon at hw
  refine m_aldN C dX6_reckon_0 rfl h0 ?_
  obtain ⟨hk1, hw⟩ := hw
  refine m_getI C hW rfl hk1 f_X6_38 rfl dX6_reckon_1 ?_
  refine lv_if_eq (tgt := 8) C.1 C.2.1 dX6_reckon_4 (by decide) (fun hc2 => ?_) (fun hc2 => ?_)
  · have hw := hw.1 hc2
    refine m_aldN C dX6_reckon_8 rfl h0 ?_
    refine m_rV (m_runV (As := []) (rest := []) C hW hS hL (c_X6_sortJobs hw) v_X6_42 ⟨rfl, rfl⟩ ⟨Nat.le_of_ble_eq_true rfl, Nat.le_of_ble_eq_true rfl⟩ rfl hk1 rfl rfl (Nat.le_of_ble_eq_true rfl) dX6_reckon_9 ⟨Nat.le_of_ble_eq_true rfl, Nat.le_of_ble_eq_true rfl⟩) hS (fun S3 H locs hw hW hS => ?_)
    refine m_aldN C dX6_reckon_12 rfl h0 ?_
    obtain ⟨hk4, hw⟩ := hw
    refine m_rV (m_runV (As := []) (rest := []) C hW hS hL (c_X6_reckonHeads hw) v_X6_45 ⟨rfl, rfl⟩ ⟨Nat.le_of_ble_eq_true rfl, Nat.le_of_ble_eq_true rfl⟩ rfl hk4 rfl rfl (Nat.le_of_ble_eq_true rfl) dX6_reckon_13 ⟨Nat.le_of_ble_eq_true rfl, Nat.le_of_ble_eq_true rfl⟩) hS (fun S5 H locs hw hW hS => ?_)
    refine m_aldN C dX6_reckon_16 rfl h0 ?_
    obtain ⟨hk6, hw⟩ := hw
    refine m_rV (m_runV (As := []) (rest := []) C hW hS hL (c_X6_reckonTails hw) v_X6_48 ⟨rfl, rfl⟩ ⟨Nat.le_of_ble_eq_true rfl, Nat.le_of_ble_eq_true rfl⟩ rfl hk6 rfl rfl (Nat.le_of_ble_eq_true rfl) dX6_reckon_17 ⟨Nat.le_of_ble_eq_true rfl, Nat.le_of_ble_eq_true rfl⟩) hS (fun S7 H locs hw hW hS => ?_)
    refine m_aldN C dX6_reckon_20 rfl h0 ?_
    obtain ⟨hk8, hw⟩ := hw
    refine m_rV (m_runV (As := []) (rest := []) C hW hS hL (c_X6_followChain hw) v_X6_51 ⟨rfl, rfl⟩ ⟨Nat.le_of_ble_eq_true rfl, Nat.le_of_ble_eq_true rfl⟩ rfl hk8 rfl rfl (Nat.le_of_ble_eq_true rfl) dX6_reckon_21 ⟨Nat.le_of_ble_eq_true rfl, Nat.le_of_ble_eq_true rfl⟩) hS (fun S9 H locs hw hW hS => ?_)
    refine m_aldN C dX6_reckon_24 rfl h0 ?_
    refine lv_iconst (v := 1) C.1 C.2.1 dX6_reckon_25 (by decide) ?_
    obtain ⟨hk10, hw⟩ := hw
    refine m_putZ C hW hS rfl hk10 p_X6_38 (fun z => by cases z) (by decide) rfl dX6_reckon_26 (fun H locs hW hS => ?_)
    exact m_vret C hW hS hw dX6_reckon_29
  · have hw := hw.2 hc2
    exact m_vret C hW hS hw dX6_reckon_7
def wp_X6_chainLength (S : Hp) (a0 : Nat) (Q : Int32 → Hp → Prop) : Prop := hK S a0 = 8 ∧ wp_X6_reckon S a0 (fun S2 => hK S2 a0 = 8 ∧ Q (hI S2 a0 5) S2)
set_option maxRecDepth 100000 in
set_option maxHeartbeats 4000000 in
theorem c_X6_chainLength {l : Launch} {G : GX} {S : Hp} {a0 : Nat} {Q : Int32 → Hp → Prop} (hw : wp_X6_chainLength S a0 Q) : Met l yX6_chainLength (Cond.code yX6_chainLength cX6_chainLength 1 (some .int) :: TS) { frames := 6, cells := 0, slots := 0, locals := 128 } (Pk G S [va_rf (some a0)]) (QI G Q) 0 0 G.2.2.1 := by
  refine m_met (by decide) ?_
  intro p e s m below meth c H locs C hW hS
  have C : Cx p s m ([va_rf (some a0)] : List Value).toArray meth c cX6_chainLength 1 RX6 (some .int) "chainLength" G := C
  obtain ⟨ls, hent, hL, hla⟩ := m_entry m (vs := [va_rf (some a0)]) (nn := 1) [1] rfl (by decide)
  rw [hent]
  have h0 : ls[0]? = some (.val (va_rf (some a0))) := hla (0, va_rf (some a0)) (List.mem_of_getElem? (i := 0) rfl)
  clear hla
  generalize ([va_rf (some a0)] : List Value).toArray = args at C ⊢
  unfold wp_X6_chainLength at hw
  refine m_aldN C dX6_chainLength_0 rfl h0 ?_
  obtain ⟨hk1, hw⟩ := hw
  refine m_rV (m_runV (As := []) (rest := []) C hW hS hL (c_X6_reckon hw) v_X6_28 ⟨rfl, rfl⟩ ⟨Nat.le_of_ble_eq_true rfl, Nat.le_of_ble_eq_true rfl⟩ rfl hk1 rfl rfl (Nat.le_of_ble_eq_true rfl) dX6_chainLength_1 ⟨Nat.le_of_ble_eq_true rfl, Nat.le_of_ble_eq_true rfl⟩) hS (fun S2 H locs hw hW hS => ?_)
  refine m_aldN C dX6_chainLength_4 rfl h0 ?_
  obtain ⟨hk3, hw⟩ := hw
  refine m_getI C hW rfl hk3 f_X6_31 rfl dX6_chainLength_5 ?_
  exact m_iret C hW hS hw dX6_chainLength_8
