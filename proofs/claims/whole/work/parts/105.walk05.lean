def wp_X12_isJob (S : Hp) (a0 : Nat) (a1 : Int32) (Q : Int32 → Hp → Prop) : Prop := (a1 < 0 → Q 0 S) ∧ (¬ (a1 < 0) → hK S a0 = 14 ∧ ((hI S a0 4) ≤ a1 → Q 0 S) ∧ (¬ ((hI S a0 4) ≤ a1) → Q 1 S))
set_option maxRecDepth 100000 in
set_option maxHeartbeats 4000000 in
theorem c_X12_isJob {l : Launch} {G : GX} {S : Hp} {a0 : Nat} {a1 : Int32} {Q : Int32 → Hp → Prop} (hw : wp_X12_isJob S a0 a1 Q) : Met l yX12_isJob (Cond.code yX12_isJob cX12_isJob 2 (some .boolean) :: TS) { frames := 0, cells := 0, slots := 0, locals := 0 } (Pk G S [va_rf (some a0), .int a1]) (QI G Q) 0 0 G.2.2.1 := by
  refine m_met (by decide) ?_
  intro p e s m below meth c H locs C hW hS
  have C : Cx p s m ([va_rf (some a0), .int a1] : List Value).toArray meth c cX12_isJob 2 RX12 (some .boolean) "isJob" G := C
  obtain ⟨ls, hent, hL, hla⟩ := m_entry m (vs := [va_rf (some a0), .int a1]) (nn := 2) [1, 1] rfl (by decide)
  rw [hent]
  have h0 : ls[0]? = some (.val (va_rf (some a0))) := hla (0, va_rf (some a0)) (List.mem_of_getElem? (i := 0) rfl)
  have h1 : ls[1]? = some (.val (.int a1)) := hla (1, .int a1) (List.mem_of_getElem? (i := 1) rfl)
  clear hla
  generalize ([va_rf (some a0), .int a1] : List Value).toArray = args at C ⊢
  unfold wp_X12_isJob at hw
  refine lv_iload_n C.1 C.2.1 dX12_isJob_0 rfl h1 ?_
  refine lv_if_lt (tgt := 16) C.1 C.2.1 dX12_isJob_1 (by decide) (fun hc1 => ?_) (fun hc1 => ?_)
  · have hw := hw.1 hc1
    refine lv_iconst (v := 0) C.1 C.2.1 dX12_isJob_16 (by decide) ?_
    exact m_zret C hW hS (by decide) hw dX12_isJob_17
  · have hw := hw.2 hc1
    refine lv_iload_n C.1 C.2.1 dX12_isJob_4 rfl h1 ?_
    refine m_aldN C dX12_isJob_5 rfl h0 ?_
    obtain ⟨hk2, hw⟩ := hw
    refine m_getI C hW rfl hk2 f_X12_128 rfl dX12_isJob_6 ?_
    refine lv_icmp_ge (tgt := 16) C.1 C.2.1 dX12_isJob_9 (by decide) (fun hc3 => ?_) (fun hc3 => ?_)
    · have hw := hw.1 hc3
      refine lv_iconst (v := 0) C.1 C.2.1 dX12_isJob_16 (by decide) ?_
      exact m_zret C hW hS (by decide) hw dX12_isJob_17
    · have hw := hw.2 hc3
      refine lv_iconst (v := 1) C.1 C.2.1 dX12_isJob_12 (by decide) ?_
      refine lv_goto (tgt := 17) C.1 C.2.1 dX12_isJob_13 (by decide) ?_
      exact m_zret C hW hS (by decide) hw dX12_isJob_17
def wp_X12_isStock (S : Hp) (a0 : Int32) (Q : Int32 → Hp → Prop) : Prop := (a0 < 0 → Q 0 S) ∧ (¬ (a0 < 0) → (60 ≤ a0 → Q 0 S) ∧ (¬ (60 ≤ a0) → Q 1 S))
set_option maxRecDepth 100000 in
set_option maxHeartbeats 4000000 in
theorem c_X12_isStock {l : Launch} {G : GX} {S : Hp} {a0 : Int32} {Q : Int32 → Hp → Prop} (hw : wp_X12_isStock S a0 Q) : Met l yX12_isStock (Cond.code yX12_isStock cX12_isStock 1 (some .boolean) :: TS) { frames := 0, cells := 0, slots := 0, locals := 0 } (Pk G S [.int a0]) (QI G Q) 0 0 G.2.2.1 := by
  refine m_met (by decide) ?_
  intro p e s m below meth c H locs C hW hS
  have C : Cx p s m ([.int a0] : List Value).toArray meth c cX12_isStock 1 RX12 (some .boolean) "isStock" G := C
  obtain ⟨ls, hent, hL, hla⟩ := m_entry m (vs := [.int a0]) (nn := 1) [1] rfl (by decide)
  rw [hent]
  have h0 : ls[0]? = some (.val (.int a0)) := hla (0, .int a0) (List.mem_of_getElem? (i := 0) rfl)
  clear hla
  generalize ([.int a0] : List Value).toArray = args at C ⊢
  unfold wp_X12_isStock at hw
  refine lv_iload_n C.1 C.2.1 dX12_isStock_0 rfl h0 ?_
  refine lv_if_lt (tgt := 14) C.1 C.2.1 dX12_isStock_1 (by decide) (fun hc1 => ?_) (fun hc1 => ?_)
  · have hw := hw.1 hc1
    refine lv_iconst (v := 0) C.1 C.2.1 dX12_isStock_14 (by decide) ?_
    exact m_zret C hW hS (by decide) hw dX12_isStock_15
  · have hw := hw.2 hc1
    refine lv_iload_n C.1 C.2.1 dX12_isStock_4 rfl h0 ?_
    refine lv_bipush (v := 60) C.1 C.2.1 dX12_isStock_5 (by decide) ?_
    refine lv_icmp_ge (tgt := 14) C.1 C.2.1 dX12_isStock_7 (by decide) (fun hc2 => ?_) (fun hc2 => ?_)
    · have hw := hw.1 hc2
      refine lv_iconst (v := 0) C.1 C.2.1 dX12_isStock_14 (by decide) ?_
      exact m_zret C hW hS (by decide) hw dX12_isStock_15
    · have hw := hw.2 hc2
      refine lv_iconst (v := 1) C.1 C.2.1 dX12_isStock_10 (by decide) ?_
      refine lv_goto (tgt := 15) C.1 C.2.1 dX12_isStock_11 (by decide) ?_
      exact m_zret C hW hS (by decide) hw dX12_isStock_15
def wp_X12_done (S : Hp) (a0 : Nat) (a1 : Int32) (Q : Int32 → Hp → Prop) : Prop := hK S a0 = 14 ∧ Q a1 (sI S a0 22 0)
set_option maxRecDepth 100000 in
set_option maxHeartbeats 4000000 in
theorem c_X12_done {l : Launch} {G : GX} {S : Hp} {a0 : Nat} {a1 : Int32} {Q : Int32 → Hp → Prop} (hw : wp_X12_done S a0 a1 Q) : Met l yX12_done (Cond.code yX12_done cX12_done 2 (some .int) :: TS) { frames := 0, cells := 0, slots := 0, locals := 0 } (Pk G S [va_rf (some a0), .int a1]) (QI G Q) 0 0 G.2.2.1 := by
  refine m_met (by decide) ?_
  intro p e s m below meth c H locs C hW hS
  have C : Cx p s m ([va_rf (some a0), .int a1] : List Value).toArray meth c cX12_done 2 RX12 (some .int) "done" G := C
  obtain ⟨ls, hent, hL, hla⟩ := m_entry m (vs := [va_rf (some a0), .int a1]) (nn := 2) [1, 1] rfl (by decide)
  rw [hent]
  have h0 : ls[0]? = some (.val (va_rf (some a0))) := hla (0, va_rf (some a0)) (List.mem_of_getElem? (i := 0) rfl)
  have h1 : ls[1]? = some (.val (.int a1)) := hla (1, .int a1) (List.mem_of_getElem? (i := 1) rfl)
  clear hla
  generalize ([va_rf (some a0), .int a1] : List Value).toArray = args at C ⊢
  unfold wp_X12_done at hw
  refine m_aldN C dX12_done_0 rfl h0 ?_
  refine lv_iconst (v := 0) C.1 C.2.1 dX12_done_1 (by decide) ?_
  obtain ⟨hk1, hw⟩ := hw
  refine m_putZ C hW hS rfl hk1 p_X12_131 (fun z => by cases z) (by decide) rfl dX12_done_2 (fun H locs hW hS => ?_)
  refine lv_iload_n C.1 C.2.1 dX12_done_5 rfl h1 ?_
  exact m_iret C hW hS hw dX12_done_6
def wp_X12_craft (S : Hp) (a0 : Nat) (a1 : Int32) (Q : Int32 → Hp → Prop) : Prop := hK S a0 = 14 ∧ (a1 < 0 → Q (-2) (sI S a0 0 0)) ∧ (¬ (a1 < 0) → (a1 ≤ 32 → ((hI (sI S a0 0 0) a0 1) = 8 → Q (-8) (sI S a0 0 0)) ∧ (¬ ((hI (sI S a0 0 0) a0 1) = 8) → (((hI (sI S a0 0 0) a0 2) + a1) ≤ 32 → ∃ b6 : Nat, (hR (sI S a0 0 0) a0 5) = some b6 ∧ hK (sI S a0 0 0) b6 = 15 ∧ vp_in (hI (sI S a0 0 0) a0 1) (hN (sI S a0 0 0) b6) ∧ wp_X12_done (sI (sI (sI (sI S a0 0 0) b6 ((hI (sI S a0 0 0) a0 1) : Int32).toNatClampNeg a1) a0 2 ((hI (sI (sI S a0 0 0) b6 ((hI (sI S a0 0 0) a0 1) : Int32).toNatClampNeg a1) a0 2) + a1)) a0 1 ((hI (sI (sI (sI S a0 0 0) b6 ((hI (sI S a0 0 0) a0 1) : Int32).toNatClampNeg a1) a0 2 ((hI (sI (sI S a0 0 0) b6 ((hI (sI S a0 0 0) a0 1) : Int32).toNatClampNeg a1) a0 2) + a1)) a0 1) + 1)) a0 ((hI (sI (sI (sI (sI S a0 0 0) b6 ((hI (sI S a0 0 0) a0 1) : Int32).toNatClampNeg a1) a0 2 ((hI (sI (sI S a0 0 0) b6 ((hI (sI S a0 0 0) a0 1) : Int32).toNatClampNeg a1) a0 2) + a1)) a0 1 ((hI (sI (sI (sI S a0 0 0) b6 ((hI (sI S a0 0 0) a0 1) : Int32).toNatClampNeg a1) a0 2 ((hI (sI (sI S a0 0 0) b6 ((hI (sI S a0 0 0) a0 1) : Int32).toNatClampNeg a1) a0 2) + a1)) a0 1) + 1)) a0 1) - 1) (fun r10 S9 => Q r10 S9)) ∧ (¬ (((hI (sI S a0 0 0) a0 2) + a1) ≤ 32) → Q (-8) (sI S a0 0 0)))) ∧ (¬ (a1 ≤ 32) → Q (-2) (sI S a0 0 0)))
set_option maxRecDepth 100000 in
set_option maxHeartbeats 4000000 in
theorem c_X12_craft {l : Launch} {G : GX} {S : Hp} {a0 : Nat} {a1 : Int32} {Q : Int32 → Hp → Prop} (hw : wp_X12_craft S a0 a1 Q) : Met l yX12_craft (Cond.code yX12_craft cX12_craft 2 (some .int) :: TS) { frames := 1, cells := 0, slots := 0, locals := 21 } (Pk G S [va_rf (some a0), .int a1]) (QI G Q) 0 0 G.2.2.1 := by
  refine m_met (by decide) ?_
  intro p e s m below meth c H locs C hW hS
  have C : Cx p s m ([va_rf (some a0), .int a1] : List Value).toArray meth c cX12_craft 2 RX12 (some .int) "craft" G := C
  obtain ⟨ls, hent, hL, hla⟩ := m_entry m (vs := [va_rf (some a0), .int a1]) (nn := 2) [1, 1] rfl (by decide)
  rw [hent]
  have h0 : ls[0]? = some (.val (va_rf (some a0))) := hla (0, va_rf (some a0)) (List.mem_of_getElem? (i := 0) rfl)
  have h1 : ls[1]? = some (.val (.int a1)) := hla (1, .int a1) (List.mem_of_getElem? (i := 1) rfl)
  clear hla
  generalize ([va_rf (some a0), .int a1] : List Value).toArray = args at C ⊢
  unfold wp_X12_craft at hw
  refine m_aldN C dX12_craft_0 rfl h0 ?_
  refine lv_iconst (v := 0) C.1 C.2.1 dX12_craft_1 (by decide) ?_
  obtain ⟨hk1, hw⟩ := hw
  refine m_putI C hW hS rfl hk1 p_X12_124 (fun z => by cases z) rfl dX12_craft_2 (fun H locs hW hS => ?_)
  refine lv_iload_n C.1 C.2.1 dX12_craft_5 rfl h1 ?_
  refine lv_if_lt (tgt := 15) C.1 C.2.1 dX12_craft_6 (by decide) (fun hc2 => ?_) (fun hc2 => ?_)
  · have hw := hw.1 hc2
    refine lv_bipush (v := (-2)) C.1 C.2.1 dX12_craft_15 (by decide) ?_
    exact m_iret C hW hS hw dX12_craft_17
  · have hw := hw.2 hc2
    refine lv_iload_n C.1 C.2.1 dX12_craft_9 rfl h1 ?_
    refine lv_bipush (v := 32) C.1 C.2.1 dX12_craft_10 (by decide) ?_
    refine lv_icmp_le (tgt := 18) C.1 C.2.1 dX12_craft_12 (by decide) (fun hc3 => ?_) (fun hc3 => ?_)
    · have hw := hw.1 hc3
      refine m_aldN C dX12_craft_18 rfl h0 ?_
      refine m_getI C hW rfl hk1 f_X12_135 rfl dX12_craft_19 ?_
      refine lv_bipush (v := 8) C.1 C.2.1 dX12_craft_22 (by decide) ?_
      refine lv_icmp_eq (tgt := 38) C.1 C.2.1 dX12_craft_24 (by decide) (fun hc4 => ?_) (fun hc4 => ?_)
      · have hw := hw.1 hc4
        refine lv_bipush (v := (-8)) C.1 C.2.1 dX12_craft_38 (by decide) ?_
        exact m_iret C hW hS hw dX12_craft_40
      · have hw := hw.2 hc4
        refine m_aldN C dX12_craft_27 rfl h0 ?_
        refine m_getI C hW rfl hk1 f_X12_138 rfl dX12_craft_28 ?_
        refine lv_iload_n C.1 C.2.1 dX12_craft_31 rfl h1 ?_
        refine lv_iadd C.1 C.2.1 dX12_craft_32 ?_
        refine lv_bipush (v := 32) C.1 C.2.1 dX12_craft_33 (by decide) ?_
        refine lv_icmp_le (tgt := 41) C.1 C.2.1 dX12_craft_35 (by decide) (fun hc5 => ?_) (fun hc5 => ?_)
        · have hw := hw.1 hc5
          refine m_aldN C dX12_craft_41 rfl h0 ?_
          refine m_getR C hW rfl hk1 f_X12_9 rfl dX12_craft_42 ?_
          refine m_aldN C dX12_craft_45 rfl h0 ?_
          refine m_getI C hW rfl hk1 f_X12_135 rfl dX12_craft_46 ?_
          refine lv_iload_n C.1 C.2.1 dX12_craft_49 rfl h1 ?_
          obtain ⟨b6, ho6, hw⟩ := hw
          obtain ⟨hk7, hw⟩ := hw
          obtain ⟨hi8, hw⟩ := hw
          refine m_iast C hW hS ho6 hk7 hi8 dX12_craft_50 (fun H locs hW hS => ?_)
          refine m_aldN C dX12_craft_51 rfl h0 ?_
          refine lv_dup C.1 C.2.1 dX12_craft_52 (va_rf_cat _) ?_
          refine m_getI C hW rfl hk1 f_X12_138 rfl dX12_craft_53 ?_
          refine lv_iload_n C.1 C.2.1 dX12_craft_56 rfl h1 ?_
          refine lv_iadd C.1 C.2.1 dX12_craft_57 ?_
          refine m_putI C hW hS rfl hk1 p_X12_138 (fun z => by cases z) rfl dX12_craft_58 (fun H locs hW hS => ?_)
          refine m_aldN C dX12_craft_61 rfl h0 ?_
          refine lv_dup C.1 C.2.1 dX12_craft_62 (va_rf_cat _) ?_
          refine m_getI C hW rfl hk1 f_X12_135 rfl dX12_craft_63 ?_
          refine lv_iconst (v := 1) C.1 C.2.1 dX12_craft_66 (by decide) ?_
          refine lv_iadd C.1 C.2.1 dX12_craft_67 ?_
          refine m_putI C hW hS rfl hk1 p_X12_135 (fun z => by cases z) rfl dX12_craft_68 (fun H locs hW hS => ?_)
          refine m_aldN C dX12_craft_71 rfl h0 ?_
          refine m_aldN C dX12_craft_72 rfl h0 ?_
          refine m_getI C hW rfl hk1 f_X12_135 rfl dX12_craft_73 ?_
          refine lv_iconst (v := 1) C.1 C.2.1 dX12_craft_76 (by decide) ?_
          refine lv_isub C.1 C.2.1 dX12_craft_77 ?_
          refine m_rI (m_runV (As := [.int ((hI (sI (sI (sI (sI S a0 0 0) b6 ((hI (sI S a0 0 0) a0 1) : Int32).toNatClampNeg a1) a0 2 ((hI (sI (sI S a0 0 0) b6 ((hI (sI S a0 0 0) a0 1) : Int32).toNatClampNeg a1) a0 2) + a1)) a0 1 ((hI (sI (sI (sI S a0 0 0) b6 ((hI (sI S a0 0 0) a0 1) : Int32).toNatClampNeg a1) a0 2 ((hI (sI (sI S a0 0 0) b6 ((hI (sI S a0 0 0) a0 1) : Int32).toNatClampNeg a1) a0 2) + a1)) a0 1) + 1)) a0 1) - 1)]) (rest := []) C hW hS hL (c_X12_done hw) v_X12_141 ⟨rfl, rfl⟩ ⟨Nat.le_of_ble_eq_true rfl, Nat.le_of_ble_eq_true rfl⟩ rfl hk1 rfl rfl (Nat.le_of_ble_eq_true rfl) dX12_craft_78 ⟨Nat.le_of_ble_eq_true rfl, Nat.le_of_ble_eq_true rfl⟩) hS (fun r10 S9 H locs hw hW hS => ?_)
          exact m_iret C hW hS hw dX12_craft_81
        · have hw := hw.2 hc5
          refine lv_bipush (v := (-8)) C.1 C.2.1 dX12_craft_38 (by decide) ?_
          exact m_iret C hW hS hw dX12_craft_40
    · have hw := hw.2 hc3
      refine lv_bipush (v := (-2)) C.1 C.2.1 dX12_craft_15 (by decide) ?_
      exact m_iret C hW hS hw dX12_craft_17
def wp_X12_machine (S : Hp) (a0 : Nat) (Q : Int32 → Hp → Prop) : Prop := hK S a0 = 14 ∧ ((hI (sI S a0 0 0) a0 3) = 40 → Q (-8) (sI S a0 0 0)) ∧ (¬ ((hI (sI S a0 0 0) a0 3) = 40) → wp_X12_done (sI (sI S a0 0 0) a0 3 ((hI (sI S a0 0 0) a0 3) + 1)) a0 ((hI (sI (sI S a0 0 0) a0 3 ((hI (sI S a0 0 0) a0 3) + 1)) a0 3) - 1) (fun r4 S3 => Q r4 S3))
set_option maxRecDepth 100000 in
set_option maxHeartbeats 4000000 in
theorem c_X12_machine {l : Launch} {G : GX} {S : Hp} {a0 : Nat} {Q : Int32 → Hp → Prop} (hw : wp_X12_machine S a0 Q) : Met l yX12_machine (Cond.code yX12_machine cX12_machine 1 (some .int) :: TS) { frames := 1, cells := 0, slots := 0, locals := 21 } (Pk G S [va_rf (some a0)]) (QI G Q) 0 0 G.2.2.1 := by
  refine m_met (by decide) ?_
  intro p e s m below meth c H locs C hW hS
  have C : Cx p s m ([va_rf (some a0)] : List Value).toArray meth c cX12_machine 1 RX12 (some .int) "machine" G := C
  obtain ⟨ls, hent, hL, hla⟩ := m_entry m (vs := [va_rf (some a0)]) (nn := 1) [1] rfl (by decide)
  rw [hent]
  have h0 : ls[0]? = some (.val (va_rf (some a0))) := hla (0, va_rf (some a0)) (List.mem_of_getElem? (i := 0) rfl)
  clear hla
  generalize ([va_rf (some a0)] : List Value).toArray = args at C ⊢
  unfold wp_X12_machine at hw
  refine m_aldN C dX12_machine_0 rfl h0 ?_
  refine lv_iconst (v := 0) C.1 C.2.1 dX12_machine_1 (by decide) ?_
  obtain ⟨hk1, hw⟩ := hw
  refine m_putI C hW hS rfl hk1 p_X12_124 (fun z => by cases z) rfl dX12_machine_2 (fun H locs hW hS => ?_)
  refine m_aldN C dX12_machine_5 rfl h0 ?_
  refine m_getI C hW rfl hk1 f_X12_145 rfl dX12_machine_6 ?_
  refine lv_bipush (v := 40) C.1 C.2.1 dX12_machine_9 (by decide) ?_
  refine lv_icmp_ne (tgt := 17) C.1 C.2.1 dX12_machine_11 (by decide) (fun hc2 => ?_) (fun hc2 => ?_)
  · have hw := hw.2 hc2
    refine m_aldN C dX12_machine_17 rfl h0 ?_
    refine lv_dup C.1 C.2.1 dX12_machine_18 (va_rf_cat _) ?_
    refine m_getI C hW rfl hk1 f_X12_145 rfl dX12_machine_19 ?_
    refine lv_iconst (v := 1) C.1 C.2.1 dX12_machine_22 (by decide) ?_
    refine lv_iadd C.1 C.2.1 dX12_machine_23 ?_
    refine m_putI C hW hS rfl hk1 p_X12_145 (fun z => by cases z) rfl dX12_machine_24 (fun H locs hW hS => ?_)
    refine m_aldN C dX12_machine_27 rfl h0 ?_
    refine m_aldN C dX12_machine_28 rfl h0 ?_
    refine m_getI C hW rfl hk1 f_X12_145 rfl dX12_machine_29 ?_
    refine lv_iconst (v := 1) C.1 C.2.1 dX12_machine_32 (by decide) ?_
    refine lv_isub C.1 C.2.1 dX12_machine_33 ?_
    refine m_rI (m_runV (As := [.int ((hI (sI (sI S a0 0 0) a0 3 ((hI (sI S a0 0 0) a0 3) + 1)) a0 3) - 1)]) (rest := []) C hW hS hL (c_X12_done hw) v_X12_141 ⟨rfl, rfl⟩ ⟨Nat.le_of_ble_eq_true rfl, Nat.le_of_ble_eq_true rfl⟩ rfl hk1 rfl rfl (Nat.le_of_ble_eq_true rfl) dX12_machine_34 ⟨Nat.le_of_ble_eq_true rfl, Nat.le_of_ble_eq_true rfl⟩) hS (fun r4 S3 H locs hw hW hS => ?_)
    exact m_iret C hW hS hw dX12_machine_37
  · have hw := hw.1 hc2
    refine lv_bipush (v := (-8)) C.1 C.2.1 dX12_machine_14 (by decide) ?_
    exact m_iret C hW hS hw dX12_machine_16
def wp_X12_stock (S : Hp) (a0 : Nat) (a1 : Int32) (a2 : Int32) (Q : Int32 → Hp → Prop) : Prop := hK S a0 = 14 ∧ wp_X12_isStock (sI S a0 0 0) a1 (fun r3 S2 => (r3 = 0 → Q (-1) S2) ∧ (¬ (r3 = 0) → (a2 < 0 → Q (-2) S2) ∧ (¬ (a2 < 0) → (a2 ≤ 1000000 → hK S2 a0 = 14 ∧ ∃ b8 : Nat, (hR S2 a0 6) = some b8 ∧ hK S2 b8 = 15 ∧ vp_in a1 (hN S2 b8) ∧ (((hI S2 b8 (a1 : Int32).toNatClampNeg) + a2) ≤ 1000000000 → vp_in a1 (hN S2 b8) ∧ vp_in a1 (hN S2 b8) ∧ wp_X12_done (sI S2 b8 (a1 : Int32).toNatClampNeg ((hI S2 b8 (a1 : Int32).toNatClampNeg) + a2)) a0 0 (fun r15 S14 => Q r15 S14)) ∧ (¬ (((hI S2 b8 (a1 : Int32).toNatClampNeg) + a2) ≤ 1000000000) → Q (-8) S2)) ∧ (¬ (a2 ≤ 1000000) → Q (-2) S2))))
set_option maxRecDepth 100000 in
set_option maxHeartbeats 4000000 in
theorem c_X12_stock {l : Launch} {G : GX} {S : Hp} {a0 : Nat} {a1 : Int32} {a2 : Int32} {Q : Int32 → Hp → Prop} (hw : wp_X12_stock S a0 a1 a2 Q) : Met l yX12_stock (Cond.code yX12_stock cX12_stock 3 (some .int) :: TS) { frames := 1, cells := 0, slots := 0, locals := 21 } (Pk G S [va_rf (some a0), .int a1, .int a2]) (QI G Q) 0 0 G.2.2.1 := by
  refine m_met (by decide) ?_
  intro p e s m below meth c H locs C hW hS
  have C : Cx p s m ([va_rf (some a0), .int a1, .int a2] : List Value).toArray meth c cX12_stock 3 RX12 (some .int) "stock" G := C
  obtain ⟨ls, hent, hL, hla⟩ := m_entry m (vs := [va_rf (some a0), .int a1, .int a2]) (nn := 3) [1, 1, 1] rfl (by decide)
  rw [hent]
  have h0 : ls[0]? = some (.val (va_rf (some a0))) := hla (0, va_rf (some a0)) (List.mem_of_getElem? (i := 0) rfl)
  have h1 : ls[1]? = some (.val (.int a1)) := hla (1, .int a1) (List.mem_of_getElem? (i := 1) rfl)
  have h2 : ls[2]? = some (.val (.int a2)) := hla (2, .int a2) (List.mem_of_getElem? (i := 2) rfl)
  clear hla
  generalize ([va_rf (some a0), .int a1, .int a2] : List Value).toArray = args at C ⊢
  unfold wp_X12_stock at hw
  refine m_aldN C dX12_stock_0 rfl h0 ?_
  refine lv_iconst (v := 0) C.1 C.2.1 dX12_stock_1 (by decide) ?_
  obtain ⟨hk1, hw⟩ := hw
  refine m_putI C hW hS rfl hk1 p_X12_124 (fun z => by cases z) rfl dX12_stock_2 (fun H locs hW hS => ?_)
  refine lv_iload_n C.1 C.2.1 dX12_stock_5 rfl h1 ?_
  refine m_rI (m_runS (As := [.int a1]) (rest := []) C hW hS hL (c_X12_isStock hw) s_X12_148 ⟨rfl, rfl⟩ ⟨Nat.le_of_ble_eq_true rfl, Nat.le_of_ble_eq_true rfl⟩ rfl rfl (Nat.le_of_ble_eq_true rfl) dX12_stock_6 ⟨Nat.le_of_ble_eq_true rfl, Nat.le_of_ble_eq_true rfl⟩) hS (fun r3 S2 H locs hw hW hS => ?_)
  refine lv_if_ne (tgt := 14) C.1 C.2.1 dX12_stock_9 (by decide) (fun hc4 => ?_) (fun hc4 => ?_)
  · have hw := hw.2 hc4
    refine lv_iload_n C.1 C.2.1 dX12_stock_14 rfl h2 ?_
    refine lv_if_lt (tgt := 24) C.1 C.2.1 dX12_stock_15 (by decide) (fun hc5 => ?_) (fun hc5 => ?_)
    · have hw := hw.1 hc5
      refine lv_bipush (v := (-2)) C.1 C.2.1 dX12_stock_24 (by decide) ?_
      exact m_iret C hW hS hw dX12_stock_26
    · have hw := hw.2 hc5
      refine lv_iload_n C.1 C.2.1 dX12_stock_18 rfl h2 ?_
      refine lv_ldc (v := 1000000) C.1 C.2.1 C.2.2.2.1 (C.2.2.2.2.1 _ tw_1302) dX12_stock_19 ?_
      refine lv_icmp_le (tgt := 27) C.1 C.2.1 dX12_stock_21 (by decide) (fun hc6 => ?_) (fun hc6 => ?_)
      · have hw := hw.1 hc6
        refine m_aldN C dX12_stock_27 rfl h0 ?_
        obtain ⟨hk7, hw⟩ := hw
        refine m_getR C hW rfl hk7 f_X12_13 rfl dX12_stock_28 ?_
        refine lv_iload_n C.1 C.2.1 dX12_stock_31 rfl h1 ?_
        obtain ⟨b8, ho8, hw⟩ := hw
        obtain ⟨hk9, hw⟩ := hw
        obtain ⟨hi10, hw⟩ := hw
        refine m_iald C hW ho8 hk9 hi10 dX12_stock_32 ?_
        refine lv_iload_n C.1 C.2.1 dX12_stock_33 rfl h2 ?_
        refine lv_iadd C.1 C.2.1 dX12_stock_34 ?_
        refine lv_ldc (v := 1000000000) C.1 C.2.1 C.2.2.2.1 (C.2.2.2.2.1 _ tw_1303) dX12_stock_35 ?_
        refine lv_icmp_le (tgt := 43) C.1 C.2.1 dX12_stock_37 (by decide) (fun hc11 => ?_) (fun hc11 => ?_)
        · have hw := hw.1 hc11
          refine m_aldN C dX12_stock_43 rfl h0 ?_
          refine m_getR C hW rfl hk7 f_X12_13 rfl dX12_stock_44 ?_
          refine lv_iload_n C.1 C.2.1 dX12_stock_47 rfl h1 ?_
          refine lv_dup2_11 C.1 C.2.1 dX12_stock_48 (rfl) (va_rf_cat _) ?_
          obtain ⟨hi12, hw⟩ := hw
          refine m_iald C hW ho8 hk9 hi12 dX12_stock_49 ?_
          refine lv_iload_n C.1 C.2.1 dX12_stock_50 rfl h2 ?_
          refine lv_iadd C.1 C.2.1 dX12_stock_51 ?_
          obtain ⟨hi13, hw⟩ := hw
          refine m_iast C hW hS ho8 hk9 hi13 dX12_stock_52 (fun H locs hW hS => ?_)
          refine m_aldN C dX12_stock_53 rfl h0 ?_
          refine lv_iconst (v := 0) C.1 C.2.1 dX12_stock_54 (by decide) ?_
          refine m_rI (m_runV (As := [.int 0]) (rest := []) C hW hS hL (c_X12_done hw) v_X12_141 ⟨rfl, rfl⟩ ⟨Nat.le_of_ble_eq_true rfl, Nat.le_of_ble_eq_true rfl⟩ rfl hk7 rfl rfl (Nat.le_of_ble_eq_true rfl) dX12_stock_55 ⟨Nat.le_of_ble_eq_true rfl, Nat.le_of_ble_eq_true rfl⟩) hS (fun r15 S14 H locs hw hW hS => ?_)
          exact m_iret C hW hS hw dX12_stock_58
        · have hw := hw.2 hc11
          refine lv_bipush (v := (-8)) C.1 C.2.1 dX12_stock_40 (by decide) ?_
          exact m_iret C hW hS hw dX12_stock_42
      · have hw := hw.2 hc6
        refine lv_bipush (v := (-2)) C.1 C.2.1 dX12_stock_24 (by decide) ?_
        exact m_iret C hW hS hw dX12_stock_26
  · have hw := hw.1 hc4
    refine lv_iconst (v := (-1)) C.1 C.2.1 dX12_stock_12 (by decide) ?_
    exact m_iret C hW hS hw dX12_stock_13
def wp_X12_job (S : Hp) (a0 : Nat) (a1 : Int32) (a2 : Int32) (a3 : Int32) (Q : Int32 → Hp → Prop) : Prop := hK S a0 = 14 ∧ (a1 < 0 → Q (-1) (sI S a0 0 0)) ∧ (¬ (a1 < 0) → (a1 < (hI (sI S a0 0 0) a0 1) → (a2 < 1 → Q (-2) (sI S a0 0 0)) ∧ (¬ (a2 < 1) → (10000 < a2 → Q (-2) (sI S a0 0 0)) ∧ (¬ (10000 < a2) → (a3 < 0 → Q (-2) (sI S a0 0 0)) ∧ (¬ (a3 < 0) → (a3 ≤ 1000 → ((hI (sI S a0 0 0) a0 4) = 200 → Q (-8) (sI S a0 0 0)) ∧ (¬ ((hI (sI S a0 0 0) a0 4) = 200) → ∀ x9 : Int32, x9 = (hI (sI S a0 0 0) a0 4) → ∃ b10 : Nat, (hR (sI (sI S a0 0 0) a0 4 ((hI (sI S a0 0 0) a0 4) + 1)) a0 7) = some b10 ∧ hK (sI (sI S a0 0 0) a0 4 ((hI (sI S a0 0 0) a0 4) + 1)) b10 = 15 ∧ vp_in x9 (hN (sI (sI S a0 0 0) a0 4 ((hI (sI S a0 0 0) a0 4) + 1)) b10) ∧ ∃ b13 : Nat, (hR (sI (sI (sI S a0 0 0) a0 4 ((hI (sI S a0 0 0) a0 4) + 1)) b10 (x9 : Int32).toNatClampNeg a1) a0 8) = some b13 ∧ hK (sI (sI (sI S a0 0 0) a0 4 ((hI (sI S a0 0 0) a0 4) + 1)) b10 (x9 : Int32).toNatClampNeg a1) b13 = 15 ∧ vp_in x9 (hN (sI (sI (sI S a0 0 0) a0 4 ((hI (sI S a0 0 0) a0 4) + 1)) b10 (x9 : Int32).toNatClampNeg a1) b13) ∧ ∃ b16 : Nat, (hR (sI (sI (sI (sI S a0 0 0) a0 4 ((hI (sI S a0 0 0) a0 4) + 1)) b10 (x9 : Int32).toNatClampNeg a1) b13 (x9 : Int32).toNatClampNeg a2) a0 9) = some b16 ∧ hK (sI (sI (sI (sI S a0 0 0) a0 4 ((hI (sI S a0 0 0) a0 4) + 1)) b10 (x9 : Int32).toNatClampNeg a1) b13 (x9 : Int32).toNatClampNeg a2) b16 = 15 ∧ vp_in x9 (hN (sI (sI (sI (sI S a0 0 0) a0 4 ((hI (sI S a0 0 0) a0 4) + 1)) b10 (x9 : Int32).toNatClampNeg a1) b13 (x9 : Int32).toNatClampNeg a2) b16) ∧ ∃ b19 : Nat, (hR (sI (sI (sI (sI (sI S a0 0 0) a0 4 ((hI (sI S a0 0 0) a0 4) + 1)) b10 (x9 : Int32).toNatClampNeg a1) b13 (x9 : Int32).toNatClampNeg a2) b16 (x9 : Int32).toNatClampNeg a3) a0 15) = some b19 ∧ hK (sI (sI (sI (sI (sI S a0 0 0) a0 4 ((hI (sI S a0 0 0) a0 4) + 1)) b10 (x9 : Int32).toNatClampNeg a1) b13 (x9 : Int32).toNatClampNeg a2) b16 (x9 : Int32).toNatClampNeg a3) b19 = 15 ∧ vp_in x9 (hN (sI (sI (sI (sI (sI S a0 0 0) a0 4 ((hI (sI S a0 0 0) a0 4) + 1)) b10 (x9 : Int32).toNatClampNeg a1) b13 (x9 : Int32).toNatClampNeg a2) b16 (x9 : Int32).toNatClampNeg a3) b19) ∧ ∃ b22 : Nat, (hR (sI (sI (sI (sI (sI (sI S a0 0 0) a0 4 ((hI (sI S a0 0 0) a0 4) + 1)) b10 (x9 : Int32).toNatClampNeg a1) b13 (x9 : Int32).toNatClampNeg a2) b16 (x9 : Int32).toNatClampNeg a3) b19 (x9 : Int32).toNatClampNeg 0) a0 19) = some b22 ∧ hK (sI (sI (sI (sI (sI (sI S a0 0 0) a0 4 ((hI (sI S a0 0 0) a0 4) + 1)) b10 (x9 : Int32).toNatClampNeg a1) b13 (x9 : Int32).toNatClampNeg a2) b16 (x9 : Int32).toNatClampNeg a3) b19 (x9 : Int32).toNatClampNeg 0) b22 = 15 ∧ vp_in x9 (hN (sI (sI (sI (sI (sI (sI S a0 0 0) a0 4 ((hI (sI S a0 0 0) a0 4) + 1)) b10 (x9 : Int32).toNatClampNeg a1) b13 (x9 : Int32).toNatClampNeg a2) b16 (x9 : Int32).toNatClampNeg a3) b19 (x9 : Int32).toNatClampNeg 0) b22) ∧ ∃ b25 : Nat, (hR (sI (sI (sI (sI (sI (sI (sI S a0 0 0) a0 4 ((hI (sI S a0 0 0) a0 4) + 1)) b10 (x9 : Int32).toNatClampNeg a1) b13 (x9 : Int32).toNatClampNeg a2) b16 (x9 : Int32).toNatClampNeg a3) b19 (x9 : Int32).toNatClampNeg 0) b22 (x9 : Int32).toNatClampNeg (-1)) a0 20) = some b25 ∧ hK (sI (sI (sI (sI (sI (sI (sI S a0 0 0) a0 4 ((hI (sI S a0 0 0) a0 4) + 1)) b10 (x9 : Int32).toNatClampNeg a1) b13 (x9 : Int32).toNatClampNeg a2) b16 (x9 : Int32).toNatClampNeg a3) b19 (x9 : Int32).toNatClampNeg 0) b22 (x9 : Int32).toNatClampNeg (-1)) b25 = 15 ∧ vp_in x9 (hN (sI (sI (sI (sI (sI (sI (sI S a0 0 0) a0 4 ((hI (sI S a0 0 0) a0 4) + 1)) b10 (x9 : Int32).toNatClampNeg a1) b13 (x9 : Int32).toNatClampNeg a2) b16 (x9 : Int32).toNatClampNeg a3) b19 (x9 : Int32).toNatClampNeg 0) b22 (x9 : Int32).toNatClampNeg (-1)) b25) ∧ wp_X12_done (sI (sI (sI (sI (sI (sI (sI (sI S a0 0 0) a0 4 ((hI (sI S a0 0 0) a0 4) + 1)) b10 (x9 : Int32).toNatClampNeg a1) b13 (x9 : Int32).toNatClampNeg a2) b16 (x9 : Int32).toNatClampNeg a3) b19 (x9 : Int32).toNatClampNeg 0) b22 (x9 : Int32).toNatClampNeg (-1)) b25 (x9 : Int32).toNatClampNeg 0) a0 x9 (fun r29 S28 => Q r29 S28))) ∧ (¬ (a3 ≤ 1000) → Q (-2) (sI S a0 0 0)))))) ∧ (¬ (a1 < (hI (sI S a0 0 0) a0 1)) → Q (-1) (sI S a0 0 0)))
set_option maxRecDepth 100000 in
set_option maxHeartbeats 4000000 in
theorem c_X12_job {l : Launch} {G : GX} {S : Hp} {a0 : Nat} {a1 : Int32} {a2 : Int32} {a3 : Int32} {Q : Int32 → Hp → Prop} (hw : wp_X12_job S a0 a1 a2 a3 Q) : Met l yX12_job (Cond.code yX12_job cX12_job 5 (some .int) :: TS) { frames := 1, cells := 0, slots := 0, locals := 21 } (Pk G S [va_rf (some a0), .int a1, .int a2, .int a3]) (QI G Q) 0 0 G.2.2.1 := by
  refine m_met (by decide) ?_
  intro p e s m below meth c H locs C hW hS
  have C : Cx p s m ([va_rf (some a0), .int a1, .int a2, .int a3] : List Value).toArray meth c cX12_job 5 RX12 (some .int) "job" G := C
  obtain ⟨ls, hent, hL, hla⟩ := m_entry m (vs := [va_rf (some a0), .int a1, .int a2, .int a3]) (nn := 5) [1, 1, 1, 1] rfl (by decide)
  rw [hent]
  have h0 : ls[0]? = some (.val (va_rf (some a0))) := hla (0, va_rf (some a0)) (List.mem_of_getElem? (i := 0) rfl)
  have h1 : ls[1]? = some (.val (.int a1)) := hla (1, .int a1) (List.mem_of_getElem? (i := 1) rfl)
  have h2 : ls[2]? = some (.val (.int a2)) := hla (2, .int a2) (List.mem_of_getElem? (i := 2) rfl)
  have h3 : ls[3]? = some (.val (.int a3)) := hla (3, .int a3) (List.mem_of_getElem? (i := 3) rfl)
  clear hla
  generalize ([va_rf (some a0), .int a1, .int a2, .int a3] : List Value).toArray = args at C ⊢
  unfold wp_X12_job at hw
  refine m_aldN C dX12_job_0 rfl h0 ?_
  refine lv_iconst (v := 0) C.1 C.2.1 dX12_job_1 (by decide) ?_
  obtain ⟨hk1, hw⟩ := hw
  refine m_putI C hW hS rfl hk1 p_X12_124 (fun z => by cases z) rfl dX12_job_2 (fun H locs hW hS => ?_)
  refine lv_iload_n C.1 C.2.1 dX12_job_5 rfl h1 ?_
  refine lv_if_lt (tgt := 17) C.1 C.2.1 dX12_job_6 (by decide) (fun hc2 => ?_) (fun hc2 => ?_)
  · have hw := hw.1 hc2
    refine lv_iconst (v := (-1)) C.1 C.2.1 dX12_job_17 (by decide) ?_
    exact m_iret C hW hS hw dX12_job_18
  · have hw := hw.2 hc2
    refine lv_iload_n C.1 C.2.1 dX12_job_9 rfl h1 ?_
    refine m_aldN C dX12_job_10 rfl h0 ?_
    refine m_getI C hW rfl hk1 f_X12_135 rfl dX12_job_11 ?_
    refine lv_icmp_lt (tgt := 19) C.1 C.2.1 dX12_job_14 (by decide) (fun hc3 => ?_) (fun hc3 => ?_)
    · have hw := hw.1 hc3
      refine lv_iload_n C.1 C.2.1 dX12_job_19 rfl h2 ?_
      refine lv_iconst (v := 1) C.1 C.2.1 dX12_job_20 (by decide) ?_
      refine lv_icmp_lt (tgt := 42) C.1 C.2.1 dX12_job_21 (by decide) (fun hc4 => ?_) (fun hc4 => ?_)
      · have hw := hw.1 hc4
        refine lv_bipush (v := (-2)) C.1 C.2.1 dX12_job_42 (by decide) ?_
        exact m_iret C hW hS hw dX12_job_44
      · have hw := hw.2 hc4
        refine lv_iload_n C.1 C.2.1 dX12_job_24 rfl h2 ?_
        refine lv_sipush (v := 10000) C.1 C.2.1 dX12_job_25 (by decide) ?_
        refine lv_icmp_gt (tgt := 42) C.1 C.2.1 dX12_job_28 (by decide) (fun hc5 => ?_) (fun hc5 => ?_)
        · have hw := hw.1 hc5
          refine lv_bipush (v := (-2)) C.1 C.2.1 dX12_job_42 (by decide) ?_
          exact m_iret C hW hS hw dX12_job_44
        · have hw := hw.2 hc5
          refine lv_iload_n C.1 C.2.1 dX12_job_31 rfl h3 ?_
          refine lv_if_lt (tgt := 42) C.1 C.2.1 dX12_job_32 (by decide) (fun hc6 => ?_) (fun hc6 => ?_)
          · have hw := hw.1 hc6
            refine lv_bipush (v := (-2)) C.1 C.2.1 dX12_job_42 (by decide) ?_
            exact m_iret C hW hS hw dX12_job_44
          · have hw := hw.2 hc6
            refine lv_iload_n C.1 C.2.1 dX12_job_35 rfl h3 ?_
            refine lv_sipush (v := 1000) C.1 C.2.1 dX12_job_36 (by decide) ?_
            refine lv_icmp_le (tgt := 45) C.1 C.2.1 dX12_job_39 (by decide) (fun hc7 => ?_) (fun hc7 => ?_)
            · have hw := hw.1 hc7
              refine m_aldN C dX12_job_45 rfl h0 ?_
              refine m_getI C hW rfl hk1 f_X12_128 rfl dX12_job_46 ?_
              refine lv_sipush (v := 200) C.1 C.2.1 dX12_job_49 (by decide) ?_
              refine lv_icmp_ne (tgt := 58) C.1 C.2.1 dX12_job_52 (by decide) (fun hc8 => ?_) (fun hc8 => ?_)
              · have hw := hw.2 hc8
                refine m_aldN C dX12_job_58 rfl h0 ?_
                refine m_getI C hW rfl hk1 f_X12_128 rfl dX12_job_59 ?_
                refine lv_topi (fun x9 ex9 => ?_)
                have hw := hw x9 ex9
                refine m_ist C hL dX12_job_62 (by decide) (fun ls hL hn9 hk9 => ?_)
                have h0 := hk9 0 _ h0 (by decide) (Or.inl (by decide))
                have h1 := hk9 1 _ h1 (by decide) (Or.inl (by decide))
                have h2 := hk9 2 _ h2 (by decide) (Or.inl (by decide))
                have h3 := hk9 3 _ h3 (by decide) (Or.inr (rfl))
                have h4 := hn9
                refine m_aldN C dX12_job_64 rfl h0 ?_
                refine lv_dup C.1 C.2.1 dX12_job_65 (va_rf_cat _) ?_
                refine m_getI C hW rfl hk1 f_X12_128 rfl dX12_job_66 ?_
                refine lv_iconst (v := 1) C.1 C.2.1 dX12_job_69 (by decide) ?_
                refine lv_iadd C.1 C.2.1 dX12_job_70 ?_
                refine m_putI C hW hS rfl hk1 p_X12_128 (fun z => by cases z) rfl dX12_job_71 (fun H locs hW hS => ?_)
                refine m_aldN C dX12_job_74 rfl h0 ?_
                refine m_getR C hW rfl hk1 f_X12_16 rfl dX12_job_75 ?_
                refine lv_iload C.1 C.2.1 dX12_job_78 h4 ?_
                refine lv_iload_n C.1 C.2.1 dX12_job_80 rfl h1 ?_
                obtain ⟨b10, ho10, hw⟩ := hw
                obtain ⟨hk11, hw⟩ := hw
                obtain ⟨hi12, hw⟩ := hw
                refine m_iast C hW hS ho10 hk11 hi12 dX12_job_81 (fun H locs hW hS => ?_)
                refine m_aldN C dX12_job_82 rfl h0 ?_
                refine m_getR C hW rfl hk1 f_X12_19 rfl dX12_job_83 ?_
                refine lv_iload C.1 C.2.1 dX12_job_86 h4 ?_
                refine lv_iload_n C.1 C.2.1 dX12_job_88 rfl h2 ?_
                obtain ⟨b13, ho13, hw⟩ := hw
                obtain ⟨hk14, hw⟩ := hw
                obtain ⟨hi15, hw⟩ := hw
                refine m_iast C hW hS ho13 hk14 hi15 dX12_job_89 (fun H locs hW hS => ?_)
                refine m_aldN C dX12_job_90 rfl h0 ?_
                refine m_getR C hW rfl hk1 f_X12_22 rfl dX12_job_91 ?_
                refine lv_iload C.1 C.2.1 dX12_job_94 h4 ?_
                refine lv_iload_n C.1 C.2.1 dX12_job_96 rfl h3 ?_
                obtain ⟨b16, ho16, hw⟩ := hw
                obtain ⟨hk17, hw⟩ := hw
                obtain ⟨hi18, hw⟩ := hw
                refine m_iast C hW hS ho16 hk17 hi18 dX12_job_97 (fun H locs hW hS => ?_)
                refine m_aldN C dX12_job_98 rfl h0 ?_
                refine m_getR C hW rfl hk1 f_X12_42 rfl dX12_job_99 ?_
                refine lv_iload C.1 C.2.1 dX12_job_102 h4 ?_
                refine lv_iconst (v := 0) C.1 C.2.1 dX12_job_104 (by decide) ?_
                obtain ⟨b19, ho19, hw⟩ := hw
                obtain ⟨hk20, hw⟩ := hw
                obtain ⟨hi21, hw⟩ := hw
                refine m_iast C hW hS ho19 hk20 hi21 dX12_job_105 (fun H locs hW hS => ?_)
                refine m_aldN C dX12_job_106 rfl h0 ?_
                refine m_getR C hW rfl hk1 f_X12_54 rfl dX12_job_107 ?_
                refine lv_iload C.1 C.2.1 dX12_job_110 h4 ?_
                refine lv_iconst (v := (-1)) C.1 C.2.1 dX12_job_112 (by decide) ?_
                obtain ⟨b22, ho22, hw⟩ := hw
                obtain ⟨hk23, hw⟩ := hw
                obtain ⟨hi24, hw⟩ := hw
                refine m_iast C hW hS ho22 hk23 hi24 dX12_job_113 (fun H locs hW hS => ?_)
                refine m_aldN C dX12_job_114 rfl h0 ?_
                refine m_getR C hW rfl hk1 f_X12_57 rfl dX12_job_115 ?_
                refine lv_iload C.1 C.2.1 dX12_job_118 h4 ?_
                refine lv_iconst (v := 0) C.1 C.2.1 dX12_job_120 (by decide) ?_
                obtain ⟨b25, ho25, hw⟩ := hw
                obtain ⟨hk26, hw⟩ := hw
                obtain ⟨hi27, hw⟩ := hw
                refine m_iast C hW hS ho25 hk26 hi27 dX12_job_121 (fun H locs hW hS => ?_)
                refine m_aldN C dX12_job_122 rfl h0 ?_
                refine lv_iload C.1 C.2.1 dX12_job_123 h4 ?_
                refine m_rI (m_runV (As := [.int x9]) (rest := []) C hW hS hL (c_X12_done hw) v_X12_141 ⟨rfl, rfl⟩ ⟨Nat.le_of_ble_eq_true rfl, Nat.le_of_ble_eq_true rfl⟩ rfl hk1 rfl rfl (Nat.le_of_ble_eq_true rfl) dX12_job_125 ⟨Nat.le_of_ble_eq_true rfl, Nat.le_of_ble_eq_true rfl⟩) hS (fun r29 S28 H locs hw hW hS => ?_)
                exact m_iret C hW hS hw dX12_job_128
              · have hw := hw.1 hc8
                refine lv_bipush (v := (-8)) C.1 C.2.1 dX12_job_55 (by decide) ?_
                exact m_iret C hW hS hw dX12_job_57
            · have hw := hw.2 hc7
              refine lv_bipush (v := (-2)) C.1 C.2.1 dX12_job_42 (by decide) ?_
              exact m_iret C hW hS hw dX12_job_44
    · have hw := hw.2 hc3
      refine lv_iconst (v := (-1)) C.1 C.2.1 dX12_job_17 (by decide) ?_
      exact m_iret C hW hS hw dX12_job_18
def wp_X12_after_L113 (l0 : Nat) (l1 : Int32) (l2 : Int32) (l3 : Int32) (K164 : Hp → Prop) (Q : Int32 → Hp → Prop) : Nat → Hp → Int32 → Prop
  | 0, _, _ => False
  | n + 1, S, l4 => hK S l0 = 14 ∧ ((hI S l0 4) ≤ l4 → K164 S) ∧ (¬ ((hI S l0 4) ≤ l4) → ∃ J33 : Prop, J33 = (∃ b38 : Nat, (hR S l0 11) = some b38 ∧ hK S b38 = 17 ∧ vp_in ((200 * l3) + l4) (hN S b38) ∧ wp_X12_after_L113 l0 l1 l2 l3 K164 Q n (sI S b38 (((200 * l3) + l4) : Int32).toNatClampNeg 1) (l4 + 1)) ∧ (l4 = l2 → J33 ) ∧ (¬ (l4 = l2) → ∃ b34 : Nat, (hR S l0 11) = some b34 ∧ hK S b34 = 17 ∧ vp_in ((200 * l2) + l4) (hN S b34) ∧ ((hI S b34 (((200 * l2) + l4) : Int32).toNatClampNeg) = 0 → wp_X12_after_L113 l0 l1 l2 l3 K164 Q n S (l4 + 1)) ∧ (¬ ((hI S b34 (((200 * l2) + l4) : Int32).toNatClampNeg) = 0) → J33 )))
def wp_X12_after_L79 (l0 : Nat) (l1 : Int32) (l2 : Int32) (Q : Int32 → Hp → Prop) : Nat → Hp → Int32 → Prop
  | 0, _, _ => False
  | n + 1, S, l3 => hK S l0 = 14 ∧ ((hI S l0 4) ≤ l3 → wp_X12_done S l0 0 (fun r23 S22 => Q r23 S22)) ∧ (¬ ((hI S l0 4) ≤ l3) → ∃ J25 : Prop, J25 = (wp_X12_after_L113 l0 l1 l2 l3 (fun (S41 : Hp) => wp_X12_after_L79 l0 l1 l2 Q n S41 (l3 + 1)) Q FU S 0) ∧ (l3 = l1 → J25 ) ∧ (¬ (l3 = l1) → ∃ b26 : Nat, (hR S l0 11) = some b26 ∧ hK S b26 = 17 ∧ vp_in ((200 * l3) + l1) (hN S b26) ∧ ((hI S b26 (((200 * l3) + l1) : Int32).toNatClampNeg) = 0 → wp_X12_after_L79 l0 l1 l2 Q n S (l3 + 1)) ∧ (¬ ((hI S b26 (((200 * l3) + l1) : Int32).toNatClampNeg) = 0) → J25 )))
def wp_X12_after (S : Hp) (a0 : Nat) (a1 : Int32) (a2 : Int32) (Q : Int32 → Hp → Prop) : Prop := hK S a0 = 14 ∧ wp_X12_isJob (sI S a0 0 0) a0 a1 (fun r3 S2 => (r3 = 0 → Q (-1) S2) ∧ (¬ (r3 = 0) → hK S2 a0 = 14 ∧ wp_X12_isJob S2 a0 a2 (fun r7 S6 => (r7 = 0 → Q (-1) S6) ∧ (¬ (r7 = 0) → hK S6 a0 = 14 ∧ ∃ b10 : Nat, (hR S6 a0 10) = some b10 ∧ hK S6 b10 = 17 ∧ vp_in ((200 * a1) + a2) (hN S6 b10) ∧ ((hI S6 b10 (((200 * a1) + a2) : Int32).toNatClampNeg) = 0 → (a1 = a2 → Q (-4) S6) ∧ (¬ (a1 = a2) → ∃ b15 : Nat, (hR S6 a0 11) = some b15 ∧ hK S6 b15 = 17 ∧ vp_in ((200 * a2) + a1) (hN S6 b15) ∧ ((hI S6 b15 (((200 * a2) + a1) : Int32).toNatClampNeg) = 0 → vp_in ((200 * a1) + a2) (hN S6 b10) ∧ wp_X12_after_L79 a0 a1 a2 Q FU (sI S6 b10 (((200 * a1) + a2) : Int32).toNatClampNeg 1) 0) ∧ (¬ ((hI S6 b15 (((200 * a2) + a1) : Int32).toNatClampNeg) = 0) → Q (-4) S6))) ∧ (¬ ((hI S6 b10 (((200 * a1) + a2) : Int32).toNatClampNeg) = 0) → Q (-3) S6)))))
set_option maxRecDepth 100000 in
set_option maxHeartbeats 4000000 in
theorem w_X12_after_L113 {p : Program} {l : Launch} {e : Env} {s : State} {m : MethodId} {args : Array Value} {below : List Frame} {meth : Method} {c : Code} {G : GX} {Q : Int32 → Hp → Prop} {K164 : Hp → Prop} {l0 : Nat} {l1 : Int32} {l2 : Int32} {l3 : Int32} (C : Cx p s m args meth c cX12_after 5 RX12 (some .int) "after" G)
    (k164 : ∀ (S : Hp) (H : Heap) (locs : List Loc) (ls : Array Slot), wd G S H → va_S G.2.2.1 s.heap H locs → LV ls 5 → ls[0]? = some (.val (va_rf (some l0))) → ls[1]? = some (.val (.int l1)) → ls[2]? = some (.val (.int l2)) → ls[3]? = some (.val (.int l3)) → K164 S → W p l e ({ frames := 1, cells := 0, slots := 0, locals := 21 } : Room) s m args below meth c H locs 0 0 (MQ below (QI G Q) args s 0 0 G.2.2.1) (F0 m 164 ls [])) :
    ∀ (n : Nat) (S : Hp) (l4 : Int32) (H : Heap) (locs : List Loc) (ls : Array Slot), wd G S H → va_S G.2.2.1 s.heap H locs → LV ls 5 → ls[0]? = some (.val (va_rf (some l0))) → ls[1]? = some (.val (.int l1)) → ls[2]? = some (.val (.int l2)) → ls[3]? = some (.val (.int l3)) → ls[4]? = some (.val (.int l4)) → wp_X12_after_L113 l0 l1 l2 l3 K164 Q n S l4 → W p l e ({ frames := 1, cells := 0, slots := 0, locals := 21 } : Room) s m args below meth c H locs 0 0 (MQ below (QI G Q) args s 0 0 G.2.2.1) (F0 m 113 ls []) := by
  intro n
  induction n with
  | zero =>
    intro S l4 H locs ls hW hS hL h0 h1 h2 h3 h4 hw
    exact False.elim hw
  | succ n ih =>
    intro S l4 H locs ls hW hS hL h0 h1 h2 h3 h4 hw
    unfold wp_X12_after_L113 at hw
    refine lv_iload C.1 C.2.1 dX12_after_113 h4 ?_
    refine m_aldN C dX12_after_115 rfl h0 ?_
    obtain ⟨hk30, hw⟩ := hw
    refine m_getI C hW rfl hk30 f_X12_128 rfl dX12_after_116 ?_
    refine lv_icmp_ge (tgt := 164) C.1 C.2.1 dX12_after_119 (by decide) (fun hc31 => ?_) (fun hc31 => ?_)
    · have hw := hw.1 hc31
      exact k164 S H locs ls hW hS hL h0 h1 h2 h3 hw
    · have hw := hw.2 hc31
      refine lv_iload C.1 C.2.1 dX12_after_122 h4 ?_
      refine lv_iload_n C.1 C.2.1 dX12_after_124 rfl h2 ?_
      obtain ⟨J33, eJ33, hw⟩ := hw
      have wJ33 : ∀  (ls : Array Slot), LV ls 5 → ls[0]? = some (.val (va_rf (some l0))) → ls[1]? = some (.val (.int l1)) → ls[2]? = some (.val (.int l2)) → ls[3]? = some (.val (.int l3)) → ls[4]? = some (.val (.int l4)) → J33  → W p l e ({ frames := 1, cells := 0, slots := 0, locals := 21 } : Room) s m args below meth c H locs 0 0 (MQ below (QI G Q) args s 0 0 G.2.2.1) (F0 m 144 ls []) := by
        intro  ls hL h0 h1 h2 h3 h4 hw
        rw [eJ33] at hw
        refine m_aldN C dX12_after_144 rfl h0 ?_
        refine m_getR C hW rfl hk30 f_X12_30 rfl dX12_after_145 ?_
        refine lv_sipush (v := 200) C.1 C.2.1 dX12_after_148 (by decide) ?_
        refine lv_iload_n C.1 C.2.1 dX12_after_151 rfl h3 ?_
        refine lv_imul C.1 C.2.1 dX12_after_152 ?_
        refine lv_iload C.1 C.2.1 dX12_after_153 h4 ?_
        refine lv_iadd C.1 C.2.1 dX12_after_155 ?_
        refine lv_iconst (v := 1) C.1 C.2.1 dX12_after_156 (by decide) ?_
        obtain ⟨b38, ho38, hw⟩ := hw
        obtain ⟨hk39, hw⟩ := hw
        obtain ⟨hi40, hw⟩ := hw
        refine m_zast C hW hS ho38 hk39 hi40 (by decide) dX12_after_157 (fun H locs hW hS => ?_)
        refine m_iinc (v := (l4 + 1)) C hL dX12_after_158 h4 rfl (by decide) (fun ls hL hn9 hk9 => ?_)
        have h0 := hk9 0 _ h0 (by decide) (Or.inl (by decide))
        have h1 := hk9 1 _ h1 (by decide) (Or.inl (by decide))
        have h2 := hk9 2 _ h2 (by decide) (Or.inl (by decide))
        have h3 := hk9 3 _ h3 (by decide) (Or.inr (rfl))
        have h4 := hn9
        refine lv_goto (tgt := 113) C.1 C.2.1 dX12_after_161 (by decide) ?_
        exact ih (sI S b38 (((200 * l3) + l4) : Int32).toNatClampNeg 1) (l4 + 1) H locs ls hW hS hL h0 h1 h2 h3 h4 hw
      refine lv_icmp_eq (tgt := 144) C.1 C.2.1 dX12_after_125 (by decide) (fun hc32 => ?_) (fun hc32 => ?_)
      · have hw := hw.1 hc32
        exact wJ33  ls hL h0 h1 h2 h3 h4 hw
      · have hw := hw.2 hc32
        refine m_aldN C dX12_after_128 rfl h0 ?_
        refine m_getR C hW rfl hk30 f_X12_30 rfl dX12_after_129 ?_
        refine lv_sipush (v := 200) C.1 C.2.1 dX12_after_132 (by decide) ?_
        refine lv_iload_n C.1 C.2.1 dX12_after_135 rfl h2 ?_
        refine lv_imul C.1 C.2.1 dX12_after_136 ?_
        refine lv_iload C.1 C.2.1 dX12_after_137 h4 ?_
        refine lv_iadd C.1 C.2.1 dX12_after_139 ?_
        obtain ⟨b34, ho34, hw⟩ := hw
        obtain ⟨hk35, hw⟩ := hw
        obtain ⟨hi36, hw⟩ := hw
        refine m_zald C hW ho34 hk35 hi36 dX12_after_140 ?_
        refine lv_if_eq (tgt := 158) C.1 C.2.1 dX12_after_141 (by decide) (fun hc37 => ?_) (fun hc37 => ?_)
        · have hw := hw.1 hc37
          refine m_iinc (v := (l4 + 1)) C hL dX12_after_158 h4 rfl (by decide) (fun ls hL hn9 hk9 => ?_)
          have h0 := hk9 0 _ h0 (by decide) (Or.inl (by decide))
          have h1 := hk9 1 _ h1 (by decide) (Or.inl (by decide))
          have h2 := hk9 2 _ h2 (by decide) (Or.inl (by decide))
          have h3 := hk9 3 _ h3 (by decide) (Or.inr (rfl))
          have h4 := hn9
          refine lv_goto (tgt := 113) C.1 C.2.1 dX12_after_161 (by decide) ?_
          exact ih S (l4 + 1) H locs ls hW hS hL h0 h1 h2 h3 h4 hw
        · have hw := hw.2 hc37
          exact wJ33  ls hL h0 h1 h2 h3 h4 hw
set_option maxRecDepth 100000 in
set_option maxHeartbeats 4000000 in
theorem w_X12_after_L79 {p : Program} {l : Launch} {e : Env} {s : State} {m : MethodId} {args : Array Value} {below : List Frame} {meth : Method} {c : Code} {G : GX} {Q : Int32 → Hp → Prop} {l0 : Nat} {l1 : Int32} {l2 : Int32} (C : Cx p s m args meth c cX12_after 5 RX12 (some .int) "after" G) :
    ∀ (n : Nat) (S : Hp) (l3 : Int32) (H : Heap) (locs : List Loc) (ls : Array Slot), wd G S H → va_S G.2.2.1 s.heap H locs → LV ls 5 → ls[0]? = some (.val (va_rf (some l0))) → ls[1]? = some (.val (.int l1)) → ls[2]? = some (.val (.int l2)) → ls[3]? = some (.val (.int l3)) → wp_X12_after_L79 l0 l1 l2 Q n S l3 → W p l e ({ frames := 1, cells := 0, slots := 0, locals := 21 } : Room) s m args below meth c H locs 0 0 (MQ below (QI G Q) args s 0 0 G.2.2.1) (F0 m 79 ls []) := by
  intro n
  induction n with
  | zero =>
    intro S l3 H locs ls hW hS hL h0 h1 h2 h3 hw
    exact False.elim hw
  | succ n ih =>
    intro S l3 H locs ls hW hS hL h0 h1 h2 h3 hw
    unfold wp_X12_after_L79 at hw
    refine lv_iload_n C.1 C.2.1 dX12_after_79 rfl h3 ?_
    refine m_aldN C dX12_after_80 rfl h0 ?_
    obtain ⟨hk20, hw⟩ := hw
    refine m_getI C hW rfl hk20 f_X12_128 rfl dX12_after_81 ?_
    refine lv_icmp_ge (tgt := 170) C.1 C.2.1 dX12_after_84 (by decide) (fun hc21 => ?_) (fun hc21 => ?_)
    · have hw := hw.1 hc21
      refine m_aldN C dX12_after_170 rfl h0 ?_
      refine lv_iconst (v := 0) C.1 C.2.1 dX12_after_171 (by decide) ?_
      refine m_rI (m_runV (As := [.int 0]) (rest := []) C hW hS hL (c_X12_done hw) v_X12_141 ⟨rfl, rfl⟩ ⟨Nat.le_of_ble_eq_true rfl, Nat.le_of_ble_eq_true rfl⟩ rfl hk20 rfl rfl (Nat.le_of_ble_eq_true rfl) dX12_after_172 ⟨Nat.le_of_ble_eq_true rfl, Nat.le_of_ble_eq_true rfl⟩) hS (fun r23 S22 H locs hw hW hS => ?_)
      exact m_iret C hW hS hw dX12_after_175
    · have hw := hw.2 hc21
      refine lv_iload_n C.1 C.2.1 dX12_after_87 rfl h3 ?_
      refine lv_iload_n C.1 C.2.1 dX12_after_88 rfl h1 ?_
      obtain ⟨J25, eJ25, hw⟩ := hw
      have wJ25 : ∀  (ls : Array Slot), LV ls 5 → ls[0]? = some (.val (va_rf (some l0))) → ls[1]? = some (.val (.int l1)) → ls[2]? = some (.val (.int l2)) → ls[3]? = some (.val (.int l3)) → J25  → W p l e ({ frames := 1, cells := 0, slots := 0, locals := 21 } : Room) s m args below meth c H locs 0 0 (MQ below (QI G Q) args s 0 0 G.2.2.1) (F0 m 110 ls []) := by
        intro  ls hL h0 h1 h2 h3 hw
        rw [eJ25] at hw
        refine lv_iconst (v := 0) C.1 C.2.1 dX12_after_110 (by decide) ?_
        refine m_ist C hL dX12_after_111 (by decide) (fun ls hL hn9 hk9 => ?_)
        have h0 := hk9 0 _ h0 (by decide) (Or.inl (by decide))
        have h1 := hk9 1 _ h1 (by decide) (Or.inl (by decide))
        have h2 := hk9 2 _ h2 (by decide) (Or.inl (by decide))
        have h3 := hk9 3 _ h3 (by decide) (Or.inr (rfl))
        have h4 := hn9
        refine w_X12_after_L113 C ?_ FU S 0 H locs ls hW hS hL h0 h1 h2 h3 h4 hw
        · intro S41 H locs ls hW hS hL h0 h1 h2 h3 hw
          refine m_iinc (v := (l3 + 1)) C hL dX12_after_164 h3 rfl (by decide) (fun ls hL hn9 hk9 => ?_)
          have h0 := hk9 0 _ h0 (by decide) (Or.inl (by decide))
          have h1 := hk9 1 _ h1 (by decide) (Or.inl (by decide))
          have h2 := hk9 2 _ h2 (by decide) (Or.inr (rfl))
          have h3 := hn9
          refine lv_goto (tgt := 79) C.1 C.2.1 dX12_after_167 (by decide) ?_
          exact ih S41 (l3 + 1) H locs ls hW hS hL h0 h1 h2 h3 hw
      refine lv_icmp_eq (tgt := 110) C.1 C.2.1 dX12_after_89 (by decide) (fun hc24 => ?_) (fun hc24 => ?_)
      · have hw := hw.1 hc24
        exact wJ25  ls hL h0 h1 h2 h3 hw
      · have hw := hw.2 hc24
        refine m_aldN C dX12_after_92 rfl h0 ?_
        refine m_getR C hW rfl hk20 f_X12_30 rfl dX12_after_93 ?_
        refine lv_sipush (v := 200) C.1 C.2.1 dX12_after_96 (by decide) ?_
        refine lv_iload_n C.1 C.2.1 dX12_after_99 rfl h3 ?_
        refine lv_imul C.1 C.2.1 dX12_after_100 ?_
        refine lv_iload_n C.1 C.2.1 dX12_after_101 rfl h1 ?_
        refine lv_iadd C.1 C.2.1 dX12_after_102 ?_
        obtain ⟨b26, ho26, hw⟩ := hw
        obtain ⟨hk27, hw⟩ := hw
        obtain ⟨hi28, hw⟩ := hw
        refine m_zald C hW ho26 hk27 hi28 dX12_after_103 ?_
        refine lv_if_ne (tgt := 110) C.1 C.2.1 dX12_after_104 (by decide) (fun hc29 => ?_) (fun hc29 => ?_)
        · have hw := hw.2 hc29
          exact wJ25  ls hL h0 h1 h2 h3 hw
        · have hw := hw.1 hc29
          refine lv_goto (tgt := 164) C.1 C.2.1 dX12_after_107 (by decide) ?_
          refine m_iinc (v := (l3 + 1)) C hL dX12_after_164 h3 rfl (by decide) (fun ls hL hn9 hk9 => ?_)
          have h0 := hk9 0 _ h0 (by decide) (Or.inl (by decide))
          have h1 := hk9 1 _ h1 (by decide) (Or.inl (by decide))
          have h2 := hk9 2 _ h2 (by decide) (Or.inr (rfl))
          have h3 := hn9
          refine lv_goto (tgt := 79) C.1 C.2.1 dX12_after_167 (by decide) ?_
          exact ih S (l3 + 1) H locs ls hW hS hL h0 h1 h2 h3 hw
set_option maxRecDepth 100000 in
set_option maxHeartbeats 4000000 in
theorem c_X12_after {l : Launch} {G : GX} {S : Hp} {a0 : Nat} {a1 : Int32} {a2 : Int32} {Q : Int32 → Hp → Prop} (hw : wp_X12_after S a0 a1 a2 Q) : Met l yX12_after (Cond.code yX12_after cX12_after 5 (some .int) :: TS) { frames := 1, cells := 0, slots := 0, locals := 21 } (Pk G S [va_rf (some a0), .int a1, .int a2]) (QI G Q) 0 0 G.2.2.1 := by
  refine m_met (by decide) ?_
  intro p e s m below meth c H locs C hW hS
  have C : Cx p s m ([va_rf (some a0), .int a1, .int a2] : List Value).toArray meth c cX12_after 5 RX12 (some .int) "after" G := C
  obtain ⟨ls, hent, hL, hla⟩ := m_entry m (vs := [va_rf (some a0), .int a1, .int a2]) (nn := 5) [1, 1, 1] rfl (by decide)
  rw [hent]
  have h0 : ls[0]? = some (.val (va_rf (some a0))) := hla (0, va_rf (some a0)) (List.mem_of_getElem? (i := 0) rfl)
  have h1 : ls[1]? = some (.val (.int a1)) := hla (1, .int a1) (List.mem_of_getElem? (i := 1) rfl)
  have h2 : ls[2]? = some (.val (.int a2)) := hla (2, .int a2) (List.mem_of_getElem? (i := 2) rfl)
  clear hla
  generalize ([va_rf (some a0), .int a1, .int a2] : List Value).toArray = args at C ⊢
  unfold wp_X12_after at hw
  refine m_aldN C dX12_after_0 rfl h0 ?_
  refine lv_iconst (v := 0) C.1 C.2.1 dX12_after_1 (by decide) ?_
  obtain ⟨hk1, hw⟩ := hw
  refine m_putI C hW hS rfl hk1 p_X12_124 (fun z => by cases z) rfl dX12_after_2 (fun H locs hW hS => ?_)
  refine m_aldN C dX12_after_5 rfl h0 ?_
  refine lv_iload_n C.1 C.2.1 dX12_after_6 rfl h1 ?_
  refine m_rI (m_runV (As := [.int a1]) (rest := []) C hW hS hL (c_X12_isJob hw) v_X12_154 ⟨rfl, rfl⟩ ⟨Nat.le_of_ble_eq_true rfl, Nat.le_of_ble_eq_true rfl⟩ rfl hk1 rfl rfl (Nat.le_of_ble_eq_true rfl) dX12_after_7 ⟨Nat.le_of_ble_eq_true rfl, Nat.le_of_ble_eq_true rfl⟩) hS (fun r3 S2 H locs hw hW hS => ?_)
  refine lv_if_eq (tgt := 21) C.1 C.2.1 dX12_after_10 (by decide) (fun hc4 => ?_) (fun hc4 => ?_)
  · have hw := hw.1 hc4
    refine lv_iconst (v := (-1)) C.1 C.2.1 dX12_after_21 (by decide) ?_
    exact m_iret C hW hS hw dX12_after_22
  · have hw := hw.2 hc4
    refine m_aldN C dX12_after_13 rfl h0 ?_
    refine lv_iload_n C.1 C.2.1 dX12_after_14 rfl h2 ?_
    obtain ⟨hk5, hw⟩ := hw
    refine m_rI (m_runV (As := [.int a2]) (rest := []) C hW hS hL (c_X12_isJob hw) v_X12_154 ⟨rfl, rfl⟩ ⟨Nat.le_of_ble_eq_true rfl, Nat.le_of_ble_eq_true rfl⟩ rfl hk5 rfl rfl (Nat.le_of_ble_eq_true rfl) dX12_after_15 ⟨Nat.le_of_ble_eq_true rfl, Nat.le_of_ble_eq_true rfl⟩) hS (fun r7 S6 H locs hw hW hS => ?_)
    refine lv_if_ne (tgt := 23) C.1 C.2.1 dX12_after_18 (by decide) (fun hc8 => ?_) (fun hc8 => ?_)
    · have hw := hw.2 hc8
      refine m_aldN C dX12_after_23 rfl h0 ?_
      obtain ⟨hk9, hw⟩ := hw
      refine m_getR C hW rfl hk9 f_X12_26 rfl dX12_after_24 ?_
      refine lv_sipush (v := 200) C.1 C.2.1 dX12_after_27 (by decide) ?_
      refine lv_iload_n C.1 C.2.1 dX12_after_30 rfl h1 ?_
      refine lv_imul C.1 C.2.1 dX12_after_31 ?_
      refine lv_iload_n C.1 C.2.1 dX12_after_32 rfl h2 ?_
      refine lv_iadd C.1 C.2.1 dX12_after_33 ?_
      obtain ⟨b10, ho10, hw⟩ := hw
      obtain ⟨hk11, hw⟩ := hw
      obtain ⟨hi12, hw⟩ := hw
      refine m_zald C hW ho10 hk11 hi12 dX12_after_34 ?_
      refine lv_if_eq (tgt := 41) C.1 C.2.1 dX12_after_35 (by decide) (fun hc13 => ?_) (fun hc13 => ?_)
      · have hw := hw.1 hc13
        refine lv_iload_n C.1 C.2.1 dX12_after_41 rfl h1 ?_
        refine lv_iload_n C.1 C.2.1 dX12_after_42 rfl h2 ?_
        refine lv_icmp_eq (tgt := 61) C.1 C.2.1 dX12_after_43 (by decide) (fun hc14 => ?_) (fun hc14 => ?_)
        · have hw := hw.1 hc14
          refine lv_bipush (v := (-4)) C.1 C.2.1 dX12_after_61 (by decide) ?_
          exact m_iret C hW hS hw dX12_after_63
        · have hw := hw.2 hc14
          refine m_aldN C dX12_after_46 rfl h0 ?_
          refine m_getR C hW rfl hk9 f_X12_30 rfl dX12_after_47 ?_
          refine lv_sipush (v := 200) C.1 C.2.1 dX12_after_50 (by decide) ?_
          refine lv_iload_n C.1 C.2.1 dX12_after_53 rfl h2 ?_
          refine lv_imul C.1 C.2.1 dX12_after_54 ?_
          refine lv_iload_n C.1 C.2.1 dX12_after_55 rfl h1 ?_
          refine lv_iadd C.1 C.2.1 dX12_after_56 ?_
          obtain ⟨b15, ho15, hw⟩ := hw
          obtain ⟨hk16, hw⟩ := hw
          obtain ⟨hi17, hw⟩ := hw
          refine m_zald C hW ho15 hk16 hi17 dX12_after_57 ?_
          refine lv_if_eq (tgt := 64) C.1 C.2.1 dX12_after_58 (by decide) (fun hc18 => ?_) (fun hc18 => ?_)
          · have hw := hw.1 hc18
            refine m_aldN C dX12_after_64 rfl h0 ?_
            refine m_getR C hW rfl hk9 f_X12_26 rfl dX12_after_65 ?_
            refine lv_sipush (v := 200) C.1 C.2.1 dX12_after_68 (by decide) ?_
            refine lv_iload_n C.1 C.2.1 dX12_after_71 rfl h1 ?_
            refine lv_imul C.1 C.2.1 dX12_after_72 ?_
            refine lv_iload_n C.1 C.2.1 dX12_after_73 rfl h2 ?_
            refine lv_iadd C.1 C.2.1 dX12_after_74 ?_
            refine lv_iconst (v := 1) C.1 C.2.1 dX12_after_75 (by decide) ?_
            obtain ⟨hi19, hw⟩ := hw
            refine m_zast C hW hS ho10 hk11 hi19 (by decide) dX12_after_76 (fun H locs hW hS => ?_)
            refine lv_iconst (v := 0) C.1 C.2.1 dX12_after_77 (by decide) ?_
            refine m_istN C hL dX12_after_78 rfl (by decide) (fun ls hL hn9 hk9 => ?_)
            have h0 := hk9 0 _ h0 (by decide) (Or.inl (by decide))
            have h1 := hk9 1 _ h1 (by decide) (Or.inl (by decide))
            have h2 := hk9 2 _ h2 (by decide) (Or.inr (rfl))
            have h3 := hn9
            exact w_X12_after_L79 C  FU (sI S6 b10 (((200 * a1) + a2) : Int32).toNatClampNeg 1) 0 H locs ls hW hS hL h0 h1 h2 h3 hw
          · have hw := hw.2 hc18
            refine lv_bipush (v := (-4)) C.1 C.2.1 dX12_after_61 (by decide) ?_
            exact m_iret C hW hS hw dX12_after_63
      · have hw := hw.2 hc13
        refine lv_bipush (v := (-3)) C.1 C.2.1 dX12_after_38 (by decide) ?_
        exact m_iret C hW hS hw dX12_after_40
    · have hw := hw.1 hc8
      refine lv_iconst (v := (-1)) C.1 C.2.1 dX12_after_21 (by decide) ?_
      exact m_iret C hW hS hw dX12_after_22
def wp_X12_needs (S : Hp) (a0 : Nat) (a1 : Int32) (a2 : Int32) (Q : Int32 → Hp → Prop) : Prop := hK S a0 = 14 ∧ wp_X12_isJob (sI S a0 0 0) a0 a1 (fun r3 S2 => (r3 = 0 → Q (-1) S2) ∧ (¬ (r3 = 0) → (a2 < 0 → Q (-1) S2) ∧ (¬ (a2 < 0) → hK S2 a0 = 14 ∧ (a2 < (hI S2 a0 3) → ∃ b8 : Nat, (hR S2 a0 12) = some b8 ∧ hK S2 b8 = 17 ∧ vp_in ((40 * a1) + a2) (hN S2 b8) ∧ ((hI S2 b8 (((40 * a1) + a2) : Int32).toNatClampNeg) = 0 → vp_in ((40 * a1) + a2) (hN S2 b8) ∧ wp_X12_done (sI S2 b8 (((40 * a1) + a2) : Int32).toNatClampNeg 1) a0 0 (fun r14 S13 => Q r14 S13)) ∧ (¬ ((hI S2 b8 (((40 * a1) + a2) : Int32).toNatClampNeg) = 0) → Q (-3) S2)) ∧ (¬ (a2 < (hI S2 a0 3)) → Q (-1) S2))))
set_option maxRecDepth 100000 in
set_option maxHeartbeats 4000000 in
theorem c_X12_needs {l : Launch} {G : GX} {S : Hp} {a0 : Nat} {a1 : Int32} {a2 : Int32} {Q : Int32 → Hp → Prop} (hw : wp_X12_needs S a0 a1 a2 Q) : Met l yX12_needs (Cond.code yX12_needs cX12_needs 3 (some .int) :: TS) { frames := 1, cells := 0, slots := 0, locals := 21 } (Pk G S [va_rf (some a0), .int a1, .int a2]) (QI G Q) 0 0 G.2.2.1 := by
  refine m_met (by decide) ?_
  intro p e s m below meth c H locs C hW hS
  have C : Cx p s m ([va_rf (some a0), .int a1, .int a2] : List Value).toArray meth c cX12_needs 3 RX12 (some .int) "needs" G := C
  obtain ⟨ls, hent, hL, hla⟩ := m_entry m (vs := [va_rf (some a0), .int a1, .int a2]) (nn := 3) [1, 1, 1] rfl (by decide)
  rw [hent]
  have h0 : ls[0]? = some (.val (va_rf (some a0))) := hla (0, va_rf (some a0)) (List.mem_of_getElem? (i := 0) rfl)
  have h1 : ls[1]? = some (.val (.int a1)) := hla (1, .int a1) (List.mem_of_getElem? (i := 1) rfl)
  have h2 : ls[2]? = some (.val (.int a2)) := hla (2, .int a2) (List.mem_of_getElem? (i := 2) rfl)
  clear hla
  generalize ([va_rf (some a0), .int a1, .int a2] : List Value).toArray = args at C ⊢
  unfold wp_X12_needs at hw
  refine m_aldN C dX12_needs_0 rfl h0 ?_
  refine lv_iconst (v := 0) C.1 C.2.1 dX12_needs_1 (by decide) ?_
  obtain ⟨hk1, hw⟩ := hw
  refine m_putI C hW hS rfl hk1 p_X12_124 (fun z => by cases z) rfl dX12_needs_2 (fun H locs hW hS => ?_)
  refine m_aldN C dX12_needs_5 rfl h0 ?_
  refine lv_iload_n C.1 C.2.1 dX12_needs_6 rfl h1 ?_
  refine m_rI (m_runV (As := [.int a1]) (rest := []) C hW hS hL (c_X12_isJob hw) v_X12_154 ⟨rfl, rfl⟩ ⟨Nat.le_of_ble_eq_true rfl, Nat.le_of_ble_eq_true rfl⟩ rfl hk1 rfl rfl (Nat.le_of_ble_eq_true rfl) dX12_needs_7 ⟨Nat.le_of_ble_eq_true rfl, Nat.le_of_ble_eq_true rfl⟩) hS (fun r3 S2 H locs hw hW hS => ?_)
  refine lv_if_eq (tgt := 25) C.1 C.2.1 dX12_needs_10 (by decide) (fun hc4 => ?_) (fun hc4 => ?_)
  · have hw := hw.1 hc4
    refine lv_iconst (v := (-1)) C.1 C.2.1 dX12_needs_25 (by decide) ?_
    exact m_iret C hW hS hw dX12_needs_26
  · have hw := hw.2 hc4
    refine lv_iload_n C.1 C.2.1 dX12_needs_13 rfl h2 ?_
    refine lv_if_lt (tgt := 25) C.1 C.2.1 dX12_needs_14 (by decide) (fun hc5 => ?_) (fun hc5 => ?_)
    · have hw := hw.1 hc5
      refine lv_iconst (v := (-1)) C.1 C.2.1 dX12_needs_25 (by decide) ?_
      exact m_iret C hW hS hw dX12_needs_26
    · have hw := hw.2 hc5
      refine lv_iload_n C.1 C.2.1 dX12_needs_17 rfl h2 ?_
      refine m_aldN C dX12_needs_18 rfl h0 ?_
      obtain ⟨hk6, hw⟩ := hw
      refine m_getI C hW rfl hk6 f_X12_145 rfl dX12_needs_19 ?_
      refine lv_icmp_lt (tgt := 27) C.1 C.2.1 dX12_needs_22 (by decide) (fun hc7 => ?_) (fun hc7 => ?_)
      · have hw := hw.1 hc7
        refine m_aldN C dX12_needs_27 rfl h0 ?_
        refine m_getR C hW rfl hk6 f_X12_33 rfl dX12_needs_28 ?_
        refine lv_bipush (v := 40) C.1 C.2.1 dX12_needs_31 (by decide) ?_
        refine lv_iload_n C.1 C.2.1 dX12_needs_33 rfl h1 ?_
        refine lv_imul C.1 C.2.1 dX12_needs_34 ?_
        refine lv_iload_n C.1 C.2.1 dX12_needs_35 rfl h2 ?_
        refine lv_iadd C.1 C.2.1 dX12_needs_36 ?_
        obtain ⟨b8, ho8, hw⟩ := hw
        obtain ⟨hk9, hw⟩ := hw
        obtain ⟨hi10, hw⟩ := hw
        refine m_zald C hW ho8 hk9 hi10 dX12_needs_37 ?_
        refine lv_if_eq (tgt := 44) C.1 C.2.1 dX12_needs_38 (by decide) (fun hc11 => ?_) (fun hc11 => ?_)
        · have hw := hw.1 hc11
          refine m_aldN C dX12_needs_44 rfl h0 ?_
          refine m_getR C hW rfl hk6 f_X12_33 rfl dX12_needs_45 ?_
          refine lv_bipush (v := 40) C.1 C.2.1 dX12_needs_48 (by decide) ?_
          refine lv_iload_n C.1 C.2.1 dX12_needs_50 rfl h1 ?_
          refine lv_imul C.1 C.2.1 dX12_needs_51 ?_
          refine lv_iload_n C.1 C.2.1 dX12_needs_52 rfl h2 ?_
          refine lv_iadd C.1 C.2.1 dX12_needs_53 ?_
          refine lv_iconst (v := 1) C.1 C.2.1 dX12_needs_54 (by decide) ?_
          obtain ⟨hi12, hw⟩ := hw
          refine m_zast C hW hS ho8 hk9 hi12 (by decide) dX12_needs_55 (fun H locs hW hS => ?_)
          refine m_aldN C dX12_needs_56 rfl h0 ?_
          refine lv_iconst (v := 0) C.1 C.2.1 dX12_needs_57 (by decide) ?_
          refine m_rI (m_runV (As := [.int 0]) (rest := []) C hW hS hL (c_X12_done hw) v_X12_141 ⟨rfl, rfl⟩ ⟨Nat.le_of_ble_eq_true rfl, Nat.le_of_ble_eq_true rfl⟩ rfl hk6 rfl rfl (Nat.le_of_ble_eq_true rfl) dX12_needs_58 ⟨Nat.le_of_ble_eq_true rfl, Nat.le_of_ble_eq_true rfl⟩) hS (fun r14 S13 H locs hw hW hS => ?_)
          exact m_iret C hW hS hw dX12_needs_61
        · have hw := hw.2 hc11
          refine lv_bipush (v := (-3)) C.1 C.2.1 dX12_needs_41 (by decide) ?_
          exact m_iret C hW hS hw dX12_needs_43
      · have hw := hw.2 hc7
        refine lv_iconst (v := (-1)) C.1 C.2.1 dX12_needs_25 (by decide) ?_
        exact m_iret C hW hS hw dX12_needs_26
def wp_X12_uses (S : Hp) (a0 : Nat) (a1 : Int32) (a2 : Int32) (a3 : Int32) (Q : Int32 → Hp → Prop) : Prop := hK S a0 = 14 ∧ wp_X12_isJob (sI S a0 0 0) a0 a1 (fun r3 S2 => (r3 = 0 → Q (-1) S2) ∧ (¬ (r3 = 0) → wp_X12_isStock S2 a2 (fun r6 S5 => (r6 = 0 → Q (-1) S5) ∧ (¬ (r6 = 0) → (a3 < 1 → Q (-2) S5) ∧ (¬ (a3 < 1) → (a3 ≤ 1000000 → hK S5 a0 = 14 ∧ ∃ b11 : Nat, (hR S5 a0 13) = some b11 ∧ hK S5 b11 = 15 ∧ vp_in ((60 * a1) + a2) (hN S5 b11) ∧ wp_X12_done (sI S5 b11 (((60 * a1) + a2) : Int32).toNatClampNeg a3) a0 0 (fun r15 S14 => Q r15 S14)) ∧ (¬ (a3 ≤ 1000000) → Q (-2) S5))))))
set_option maxRecDepth 100000 in
set_option maxHeartbeats 4000000 in
theorem c_X12_uses {l : Launch} {G : GX} {S : Hp} {a0 : Nat} {a1 : Int32} {a2 : Int32} {a3 : Int32} {Q : Int32 → Hp → Prop} (hw : wp_X12_uses S a0 a1 a2 a3 Q) : Met l yX12_uses (Cond.code yX12_uses cX12_uses 4 (some .int) :: TS) { frames := 1, cells := 0, slots := 0, locals := 21 } (Pk G S [va_rf (some a0), .int a1, .int a2, .int a3]) (QI G Q) 0 0 G.2.2.1 := by
  refine m_met (by decide) ?_
  intro p e s m below meth c H locs C hW hS
  have C : Cx p s m ([va_rf (some a0), .int a1, .int a2, .int a3] : List Value).toArray meth c cX12_uses 4 RX12 (some .int) "uses" G := C
  obtain ⟨ls, hent, hL, hla⟩ := m_entry m (vs := [va_rf (some a0), .int a1, .int a2, .int a3]) (nn := 4) [1, 1, 1, 1] rfl (by decide)
  rw [hent]
  have h0 : ls[0]? = some (.val (va_rf (some a0))) := hla (0, va_rf (some a0)) (List.mem_of_getElem? (i := 0) rfl)
  have h1 : ls[1]? = some (.val (.int a1)) := hla (1, .int a1) (List.mem_of_getElem? (i := 1) rfl)
  have h2 : ls[2]? = some (.val (.int a2)) := hla (2, .int a2) (List.mem_of_getElem? (i := 2) rfl)
  have h3 : ls[3]? = some (.val (.int a3)) := hla (3, .int a3) (List.mem_of_getElem? (i := 3) rfl)
  clear hla
  generalize ([va_rf (some a0), .int a1, .int a2, .int a3] : List Value).toArray = args at C ⊢
  unfold wp_X12_uses at hw
  refine m_aldN C dX12_uses_0 rfl h0 ?_
  refine lv_iconst (v := 0) C.1 C.2.1 dX12_uses_1 (by decide) ?_
  obtain ⟨hk1, hw⟩ := hw
  refine m_putI C hW hS rfl hk1 p_X12_124 (fun z => by cases z) rfl dX12_uses_2 (fun H locs hW hS => ?_)
  refine m_aldN C dX12_uses_5 rfl h0 ?_
  refine lv_iload_n C.1 C.2.1 dX12_uses_6 rfl h1 ?_
  refine m_rI (m_runV (As := [.int a1]) (rest := []) C hW hS hL (c_X12_isJob hw) v_X12_154 ⟨rfl, rfl⟩ ⟨Nat.le_of_ble_eq_true rfl, Nat.le_of_ble_eq_true rfl⟩ rfl hk1 rfl rfl (Nat.le_of_ble_eq_true rfl) dX12_uses_7 ⟨Nat.le_of_ble_eq_true rfl, Nat.le_of_ble_eq_true rfl⟩) hS (fun r3 S2 H locs hw hW hS => ?_)
  refine lv_if_eq (tgt := 20) C.1 C.2.1 dX12_uses_10 (by decide) (fun hc4 => ?_) (fun hc4 => ?_)
  · have hw := hw.1 hc4
    refine lv_iconst (v := (-1)) C.1 C.2.1 dX12_uses_20 (by decide) ?_
    exact m_iret C hW hS hw dX12_uses_21
  · have hw := hw.2 hc4
    refine lv_iload_n C.1 C.2.1 dX12_uses_13 rfl h2 ?_
    refine m_rI (m_runS (As := [.int a2]) (rest := []) C hW hS hL (c_X12_isStock hw) s_X12_148 ⟨rfl, rfl⟩ ⟨Nat.le_of_ble_eq_true rfl, Nat.le_of_ble_eq_true rfl⟩ rfl rfl (Nat.le_of_ble_eq_true rfl) dX12_uses_14 ⟨Nat.le_of_ble_eq_true rfl, Nat.le_of_ble_eq_true rfl⟩) hS (fun r6 S5 H locs hw hW hS => ?_)
    refine lv_if_ne (tgt := 22) C.1 C.2.1 dX12_uses_17 (by decide) (fun hc7 => ?_) (fun hc7 => ?_)
    · have hw := hw.2 hc7
      refine lv_iload_n C.1 C.2.1 dX12_uses_22 rfl h3 ?_
      refine lv_iconst (v := 1) C.1 C.2.1 dX12_uses_23 (by decide) ?_
      refine lv_icmp_lt (tgt := 33) C.1 C.2.1 dX12_uses_24 (by decide) (fun hc8 => ?_) (fun hc8 => ?_)
      · have hw := hw.1 hc8
        refine lv_bipush (v := (-2)) C.1 C.2.1 dX12_uses_33 (by decide) ?_
        exact m_iret C hW hS hw dX12_uses_35
      · have hw := hw.2 hc8
        refine lv_iload_n C.1 C.2.1 dX12_uses_27 rfl h3 ?_
        refine lv_ldc (v := 1000000) C.1 C.2.1 C.2.2.2.1 (C.2.2.2.2.1 _ tw_1302) dX12_uses_28 ?_
        refine lv_icmp_le (tgt := 36) C.1 C.2.1 dX12_uses_30 (by decide) (fun hc9 => ?_) (fun hc9 => ?_)
        · have hw := hw.1 hc9
          refine m_aldN C dX12_uses_36 rfl h0 ?_
          obtain ⟨hk10, hw⟩ := hw
          refine m_getR C hW rfl hk10 f_X12_36 rfl dX12_uses_37 ?_
          refine lv_bipush (v := 60) C.1 C.2.1 dX12_uses_40 (by decide) ?_
          refine lv_iload_n C.1 C.2.1 dX12_uses_42 rfl h1 ?_
          refine lv_imul C.1 C.2.1 dX12_uses_43 ?_
          refine lv_iload_n C.1 C.2.1 dX12_uses_44 rfl h2 ?_
          refine lv_iadd C.1 C.2.1 dX12_uses_45 ?_
          refine lv_iload_n C.1 C.2.1 dX12_uses_46 rfl h3 ?_
          obtain ⟨b11, ho11, hw⟩ := hw
          obtain ⟨hk12, hw⟩ := hw
          obtain ⟨hi13, hw⟩ := hw
          refine m_iast C hW hS ho11 hk12 hi13 dX12_uses_47 (fun H locs hW hS => ?_)
          refine m_aldN C dX12_uses_48 rfl h0 ?_
          refine lv_iconst (v := 0) C.1 C.2.1 dX12_uses_49 (by decide) ?_
          refine m_rI (m_runV (As := [.int 0]) (rest := []) C hW hS hL (c_X12_done hw) v_X12_141 ⟨rfl, rfl⟩ ⟨Nat.le_of_ble_eq_true rfl, Nat.le_of_ble_eq_true rfl⟩ rfl hk10 rfl rfl (Nat.le_of_ble_eq_true rfl) dX12_uses_50 ⟨Nat.le_of_ble_eq_true rfl, Nat.le_of_ble_eq_true rfl⟩) hS (fun r15 S14 H locs hw hW hS => ?_)
          exact m_iret C hW hS hw dX12_uses_53
        · have hw := hw.2 hc9
          refine lv_bipush (v := (-2)) C.1 C.2.1 dX12_uses_33 (by decide) ?_
          exact m_iret C hW hS hw dX12_uses_35
    · have hw := hw.1 hc7
      refine lv_iconst (v := (-1)) C.1 C.2.1 dX12_uses_20 (by decide) ?_
      exact m_iret C hW hS hw dX12_uses_21
def wp_X12_gives (S : Hp) (a0 : Nat) (a1 : Int32) (a2 : Int32) (a3 : Int32) (Q : Int32 → Hp → Prop) : Prop := hK S a0 = 14 ∧ wp_X12_isJob (sI S a0 0 0) a0 a1 (fun r3 S2 => (r3 = 0 → Q (-1) S2) ∧ (¬ (r3 = 0) → wp_X12_isStock S2 a2 (fun r6 S5 => (r6 = 0 → Q (-1) S5) ∧ (¬ (r6 = 0) → (a3 < 1 → Q (-2) S5) ∧ (¬ (a3 < 1) → (a3 ≤ 1000000 → hK S5 a0 = 14 ∧ ∃ b11 : Nat, (hR S5 a0 14) = some b11 ∧ hK S5 b11 = 15 ∧ vp_in ((60 * a1) + a2) (hN S5 b11) ∧ wp_X12_done (sI S5 b11 (((60 * a1) + a2) : Int32).toNatClampNeg a3) a0 0 (fun r15 S14 => Q r15 S14)) ∧ (¬ (a3 ≤ 1000000) → Q (-2) S5))))))
set_option maxRecDepth 100000 in
set_option maxHeartbeats 4000000 in
theorem c_X12_gives {l : Launch} {G : GX} {S : Hp} {a0 : Nat} {a1 : Int32} {a2 : Int32} {a3 : Int32} {Q : Int32 → Hp → Prop} (hw : wp_X12_gives S a0 a1 a2 a3 Q) : Met l yX12_gives (Cond.code yX12_gives cX12_gives 4 (some .int) :: TS) { frames := 1, cells := 0, slots := 0, locals := 21 } (Pk G S [va_rf (some a0), .int a1, .int a2, .int a3]) (QI G Q) 0 0 G.2.2.1 := by
  refine m_met (by decide) ?_
  intro p e s m below meth c H locs C hW hS
  have C : Cx p s m ([va_rf (some a0), .int a1, .int a2, .int a3] : List Value).toArray meth c cX12_gives 4 RX12 (some .int) "gives" G := C
  obtain ⟨ls, hent, hL, hla⟩ := m_entry m (vs := [va_rf (some a0), .int a1, .int a2, .int a3]) (nn := 4) [1, 1, 1, 1] rfl (by decide)
  rw [hent]
  have h0 : ls[0]? = some (.val (va_rf (some a0))) := hla (0, va_rf (some a0)) (List.mem_of_getElem? (i := 0) rfl)
  have h1 : ls[1]? = some (.val (.int a1)) := hla (1, .int a1) (List.mem_of_getElem? (i := 1) rfl)
  have h2 : ls[2]? = some (.val (.int a2)) := hla (2, .int a2) (List.mem_of_getElem? (i := 2) rfl)
  have h3 : ls[3]? = some (.val (.int a3)) := hla (3, .int a3) (List.mem_of_getElem? (i := 3) rfl)
  clear hla
  generalize ([va_rf (some a0), .int a1, .int a2, .int a3] : List Value).toArray = args at C ⊢
  unfold wp_X12_gives at hw
  refine m_aldN C dX12_gives_0 rfl h0 ?_
  refine lv_iconst (v := 0) C.1 C.2.1 dX12_gives_1 (by decide) ?_
  obtain ⟨hk1, hw⟩ := hw
  refine m_putI C hW hS rfl hk1 p_X12_124 (fun z => by cases z) rfl dX12_gives_2 (fun H locs hW hS => ?_)
  refine m_aldN C dX12_gives_5 rfl h0 ?_
  refine lv_iload_n C.1 C.2.1 dX12_gives_6 rfl h1 ?_
  refine m_rI (m_runV (As := [.int a1]) (rest := []) C hW hS hL (c_X12_isJob hw) v_X12_154 ⟨rfl, rfl⟩ ⟨Nat.le_of_ble_eq_true rfl, Nat.le_of_ble_eq_true rfl⟩ rfl hk1 rfl rfl (Nat.le_of_ble_eq_true rfl) dX12_gives_7 ⟨Nat.le_of_ble_eq_true rfl, Nat.le_of_ble_eq_true rfl⟩) hS (fun r3 S2 H locs hw hW hS => ?_)
  refine lv_if_eq (tgt := 20) C.1 C.2.1 dX12_gives_10 (by decide) (fun hc4 => ?_) (fun hc4 => ?_)
  · have hw := hw.1 hc4
    refine lv_iconst (v := (-1)) C.1 C.2.1 dX12_gives_20 (by decide) ?_
    exact m_iret C hW hS hw dX12_gives_21
  · have hw := hw.2 hc4
    refine lv_iload_n C.1 C.2.1 dX12_gives_13 rfl h2 ?_
    refine m_rI (m_runS (As := [.int a2]) (rest := []) C hW hS hL (c_X12_isStock hw) s_X12_148 ⟨rfl, rfl⟩ ⟨Nat.le_of_ble_eq_true rfl, Nat.le_of_ble_eq_true rfl⟩ rfl rfl (Nat.le_of_ble_eq_true rfl) dX12_gives_14 ⟨Nat.le_of_ble_eq_true rfl, Nat.le_of_ble_eq_true rfl⟩) hS (fun r6 S5 H locs hw hW hS => ?_)
    refine lv_if_ne (tgt := 22) C.1 C.2.1 dX12_gives_17 (by decide) (fun hc7 => ?_) (fun hc7 => ?_)
    · have hw := hw.2 hc7
      refine lv_iload_n C.1 C.2.1 dX12_gives_22 rfl h3 ?_
      refine lv_iconst (v := 1) C.1 C.2.1 dX12_gives_23 (by decide) ?_
      refine lv_icmp_lt (tgt := 33) C.1 C.2.1 dX12_gives_24 (by decide) (fun hc8 => ?_) (fun hc8 => ?_)
      · have hw := hw.1 hc8
        refine lv_bipush (v := (-2)) C.1 C.2.1 dX12_gives_33 (by decide) ?_
        exact m_iret C hW hS hw dX12_gives_35
      · have hw := hw.2 hc8
        refine lv_iload_n C.1 C.2.1 dX12_gives_27 rfl h3 ?_
        refine lv_ldc (v := 1000000) C.1 C.2.1 C.2.2.2.1 (C.2.2.2.2.1 _ tw_1302) dX12_gives_28 ?_
        refine lv_icmp_le (tgt := 36) C.1 C.2.1 dX12_gives_30 (by decide) (fun hc9 => ?_) (fun hc9 => ?_)
        · have hw := hw.1 hc9
          refine m_aldN C dX12_gives_36 rfl h0 ?_
          obtain ⟨hk10, hw⟩ := hw
          refine m_getR C hW rfl hk10 f_X12_39 rfl dX12_gives_37 ?_
          refine lv_bipush (v := 60) C.1 C.2.1 dX12_gives_40 (by decide) ?_
          refine lv_iload_n C.1 C.2.1 dX12_gives_42 rfl h1 ?_
          refine lv_imul C.1 C.2.1 dX12_gives_43 ?_
          refine lv_iload_n C.1 C.2.1 dX12_gives_44 rfl h2 ?_
          refine lv_iadd C.1 C.2.1 dX12_gives_45 ?_
          refine lv_iload_n C.1 C.2.1 dX12_gives_46 rfl h3 ?_
          obtain ⟨b11, ho11, hw⟩ := hw
          obtain ⟨hk12, hw⟩ := hw
          obtain ⟨hi13, hw⟩ := hw
          refine m_iast C hW hS ho11 hk12 hi13 dX12_gives_47 (fun H locs hW hS => ?_)
          refine m_aldN C dX12_gives_48 rfl h0 ?_
          refine lv_iconst (v := 0) C.1 C.2.1 dX12_gives_49 (by decide) ?_
          refine m_rI (m_runV (As := [.int 0]) (rest := []) C hW hS hL (c_X12_done hw) v_X12_141 ⟨rfl, rfl⟩ ⟨Nat.le_of_ble_eq_true rfl, Nat.le_of_ble_eq_true rfl⟩ rfl hk10 rfl rfl (Nat.le_of_ble_eq_true rfl) dX12_gives_50 ⟨Nat.le_of_ble_eq_true rfl, Nat.le_of_ble_eq_true rfl⟩) hS (fun r15 S14 H locs hw hW hS => ?_)
          exact m_iret C hW hS hw dX12_gives_53
        · have hw := hw.2 hc9
          refine lv_bipush (v := (-2)) C.1 C.2.1 dX12_gives_33 (by decide) ?_
          exact m_iret C hW hS hw dX12_gives_35
    · have hw := hw.1 hc7
      refine lv_iconst (v := (-1)) C.1 C.2.1 dX12_gives_20 (by decide) ?_
      exact m_iret C hW hS hw dX12_gives_21
def wp_X12_body (S : Hp) (a0 : Nat) (a1 : Int32) (a2 : Int32) (a3 : Int32) (a4 : Int32) (Q : Int32 → Hp → Prop) : Prop := hK S a0 = 14 ∧ wp_X12_isJob (sI S a0 0 0) a0 a1 (fun r3 S2 => (r3 = 0 → Q (-1) S2) ∧ (¬ (r3 = 0) → (a2 < 0 → Q (-2) S2) ∧ (¬ (a2 < 0) → (a2 ≤ 5 → hK S2 a0 = 14 ∧ ∃ b8 : Nat, (hR S2 a0 15) = some b8 ∧ hK S2 b8 = 15 ∧ vp_in a1 (hN S2 b8) ∧ ∃ b11 : Nat, (hR (sI S2 b8 (a1 : Int32).toNatClampNeg a2) a0 16) = some b11 ∧ hK (sI S2 b8 (a1 : Int32).toNatClampNeg a2) b11 = 15 ∧ vp_in a1 (hN (sI S2 b8 (a1 : Int32).toNatClampNeg a2) b11) ∧ ∃ b14 : Nat, (hR (sI (sI S2 b8 (a1 : Int32).toNatClampNeg a2) b11 (a1 : Int32).toNatClampNeg a3) a0 17) = some b14 ∧ hK (sI (sI S2 b8 (a1 : Int32).toNatClampNeg a2) b11 (a1 : Int32).toNatClampNeg a3) b14 = 15 ∧ vp_in a1 (hN (sI (sI S2 b8 (a1 : Int32).toNatClampNeg a2) b11 (a1 : Int32).toNatClampNeg a3) b14) ∧ wp_X12_done (sI (sI (sI S2 b8 (a1 : Int32).toNatClampNeg a2) b11 (a1 : Int32).toNatClampNeg a3) b14 (a1 : Int32).toNatClampNeg a4) a0 0 (fun r18 S17 => Q r18 S17)) ∧ (¬ (a2 ≤ 5) → Q (-2) S2))))
set_option maxRecDepth 100000 in
set_option maxHeartbeats 4000000 in
theorem c_X12_body {l : Launch} {G : GX} {S : Hp} {a0 : Nat} {a1 : Int32} {a2 : Int32} {a3 : Int32} {a4 : Int32} {Q : Int32 → Hp → Prop} (hw : wp_X12_body S a0 a1 a2 a3 a4 Q) : Met l yX12_body (Cond.code yX12_body cX12_body 5 (some .int) :: TS) { frames := 1, cells := 0, slots := 0, locals := 21 } (Pk G S [va_rf (some a0), .int a1, .int a2, .int a3, .int a4]) (QI G Q) 0 0 G.2.2.1 := by
  refine m_met (by decide) ?_
  intro p e s m below meth c H locs C hW hS
  have C : Cx p s m ([va_rf (some a0), .int a1, .int a2, .int a3, .int a4] : List Value).toArray meth c cX12_body 5 RX12 (some .int) "body" G := C
  obtain ⟨ls, hent, hL, hla⟩ := m_entry m (vs := [va_rf (some a0), .int a1, .int a2, .int a3, .int a4]) (nn := 5) [1, 1, 1, 1, 1] rfl (by decide)
  rw [hent]
  have h0 : ls[0]? = some (.val (va_rf (some a0))) := hla (0, va_rf (some a0)) (List.mem_of_getElem? (i := 0) rfl)
  have h1 : ls[1]? = some (.val (.int a1)) := hla (1, .int a1) (List.mem_of_getElem? (i := 1) rfl)
  have h2 : ls[2]? = some (.val (.int a2)) := hla (2, .int a2) (List.mem_of_getElem? (i := 2) rfl)
  have h3 : ls[3]? = some (.val (.int a3)) := hla (3, .int a3) (List.mem_of_getElem? (i := 3) rfl)
  have h4 : ls[4]? = some (.val (.int a4)) := hla (4, .int a4) (List.mem_of_getElem? (i := 4) rfl)
  clear hla
  generalize ([va_rf (some a0), .int a1, .int a2, .int a3, .int a4] : List Value).toArray = args at C ⊢
  unfold wp_X12_body at hw
  refine m_aldN C dX12_body_0 rfl h0 ?_
  refine lv_iconst (v := 0) C.1 C.2.1 dX12_body_1 (by decide) ?_
  obtain ⟨hk1, hw⟩ := hw
  refine m_putI C hW hS rfl hk1 p_X12_124 (fun z => by cases z) rfl dX12_body_2 (fun H locs hW hS => ?_)
  refine m_aldN C dX12_body_5 rfl h0 ?_
  refine lv_iload_n C.1 C.2.1 dX12_body_6 rfl h1 ?_
  refine m_rI (m_runV (As := [.int a1]) (rest := []) C hW hS hL (c_X12_isJob hw) v_X12_154 ⟨rfl, rfl⟩ ⟨Nat.le_of_ble_eq_true rfl, Nat.le_of_ble_eq_true rfl⟩ rfl hk1 rfl rfl (Nat.le_of_ble_eq_true rfl) dX12_body_7 ⟨Nat.le_of_ble_eq_true rfl, Nat.le_of_ble_eq_true rfl⟩) hS (fun r3 S2 H locs hw hW hS => ?_)
  refine lv_if_ne (tgt := 15) C.1 C.2.1 dX12_body_10 (by decide) (fun hc4 => ?_) (fun hc4 => ?_)
  · have hw := hw.2 hc4
    refine lv_iload_n C.1 C.2.1 dX12_body_15 rfl h2 ?_
    refine lv_if_lt (tgt := 24) C.1 C.2.1 dX12_body_16 (by decide) (fun hc5 => ?_) (fun hc5 => ?_)
    · have hw := hw.1 hc5
      refine lv_bipush (v := (-2)) C.1 C.2.1 dX12_body_24 (by decide) ?_
      exact m_iret C hW hS hw dX12_body_26
    · have hw := hw.2 hc5
      refine lv_iload_n C.1 C.2.1 dX12_body_19 rfl h2 ?_
      refine lv_iconst (v := 5) C.1 C.2.1 dX12_body_20 (by decide) ?_
      refine lv_icmp_le (tgt := 27) C.1 C.2.1 dX12_body_21 (by decide) (fun hc6 => ?_) (fun hc6 => ?_)
      · have hw := hw.1 hc6
        refine m_aldN C dX12_body_27 rfl h0 ?_
        obtain ⟨hk7, hw⟩ := hw
        refine m_getR C hW rfl hk7 f_X12_42 rfl dX12_body_28 ?_
        refine lv_iload_n C.1 C.2.1 dX12_body_31 rfl h1 ?_
        refine lv_iload_n C.1 C.2.1 dX12_body_32 rfl h2 ?_
        obtain ⟨b8, ho8, hw⟩ := hw
        obtain ⟨hk9, hw⟩ := hw
        obtain ⟨hi10, hw⟩ := hw
        refine m_iast C hW hS ho8 hk9 hi10 dX12_body_33 (fun H locs hW hS => ?_)
        refine m_aldN C dX12_body_34 rfl h0 ?_
        refine m_getR C hW rfl hk7 f_X12_45 rfl dX12_body_35 ?_
        refine lv_iload_n C.1 C.2.1 dX12_body_38 rfl h1 ?_
        refine lv_iload_n C.1 C.2.1 dX12_body_39 rfl h3 ?_
        obtain ⟨b11, ho11, hw⟩ := hw
        obtain ⟨hk12, hw⟩ := hw
        obtain ⟨hi13, hw⟩ := hw
        refine m_iast C hW hS ho11 hk12 hi13 dX12_body_40 (fun H locs hW hS => ?_)
        refine m_aldN C dX12_body_41 rfl h0 ?_
        refine m_getR C hW rfl hk7 f_X12_48 rfl dX12_body_42 ?_
        refine lv_iload_n C.1 C.2.1 dX12_body_45 rfl h1 ?_
        refine lv_iload C.1 C.2.1 dX12_body_46 h4 ?_
        obtain ⟨b14, ho14, hw⟩ := hw
        obtain ⟨hk15, hw⟩ := hw
        obtain ⟨hi16, hw⟩ := hw
        refine m_iast C hW hS ho14 hk15 hi16 dX12_body_48 (fun H locs hW hS => ?_)
        refine m_aldN C dX12_body_49 rfl h0 ?_
        refine lv_iconst (v := 0) C.1 C.2.1 dX12_body_50 (by decide) ?_
        refine m_rI (m_runV (As := [.int 0]) (rest := []) C hW hS hL (c_X12_done hw) v_X12_141 ⟨rfl, rfl⟩ ⟨Nat.le_of_ble_eq_true rfl, Nat.le_of_ble_eq_true rfl⟩ rfl hk7 rfl rfl (Nat.le_of_ble_eq_true rfl) dX12_body_51 ⟨Nat.le_of_ble_eq_true rfl, Nat.le_of_ble_eq_true rfl⟩) hS (fun r18 S17 H locs hw hW hS => ?_)
        exact m_iret C hW hS hw dX12_body_54
      · have hw := hw.2 hc6
        refine lv_bipush (v := (-2)) C.1 C.2.1 dX12_body_24 (by decide) ?_
        exact m_iret C hW hS hw dX12_body_26
  · have hw := hw.1 hc4
    refine lv_iconst (v := (-1)) C.1 C.2.1 dX12_body_13 (by decide) ?_
    exact m_iret C hW hS hw dX12_body_14
def wp_X12_piece (S : Hp) (a0 : Nat) (a1 : Int32) (a2 : Int32) (Q : Int32 → Hp → Prop) : Prop := hK S a0 = 14 ∧ wp_X12_isJob (sI S a0 0 0) a0 a1 (fun r3 S2 => (r3 = 0 → Q (-1) S2) ∧ (¬ (r3 = 0) → hK S2 a0 = 14 ∧ ∃ b6 : Nat, (hR S2 a0 19) = some b6 ∧ hK S2 b6 = 15 ∧ vp_in a1 (hN S2 b6) ∧ ∀ x9 : Int32, x9 = (if 0 < (hI S2 b6 (a1 : Int32).toNatClampNeg) then (hI S2 b6 (a1 : Int32).toNatClampNeg) else 0) → (x9 = 30 → Q (-8) S2) ∧ (¬ (x9 = 30) → ∃ b11 : Nat, (hR S2 a0 18) = some b11 ∧ hK S2 b11 = 15 ∧ vp_in ((30 * a1) + x9) (hN S2 b11) ∧ ∃ b14 : Nat, (hR (sI S2 b11 (((30 * a1) + x9) : Int32).toNatClampNeg a2) a0 19) = some b14 ∧ hK (sI S2 b11 (((30 * a1) + x9) : Int32).toNatClampNeg a2) b14 = 15 ∧ vp_in a1 (hN (sI S2 b11 (((30 * a1) + x9) : Int32).toNatClampNeg a2) b14) ∧ wp_X12_done (sI (sI S2 b11 (((30 * a1) + x9) : Int32).toNatClampNeg a2) b14 (a1 : Int32).toNatClampNeg (x9 + 1)) a0 0 (fun r18 S17 => Q r18 S17))))
set_option maxRecDepth 100000 in
set_option maxHeartbeats 4000000 in
theorem c_X12_piece {l : Launch} {G : GX} {S : Hp} {a0 : Nat} {a1 : Int32} {a2 : Int32} {Q : Int32 → Hp → Prop} (hw : wp_X12_piece S a0 a1 a2 Q) : Met l yX12_piece (Cond.code yX12_piece cX12_piece 4 (some .int) :: TS) { frames := 1, cells := 0, slots := 0, locals := 21 } (Pk G S [va_rf (some a0), .int a1, .int a2]) (QI G Q) 0 0 G.2.2.1 := by
  refine m_met (by decide) ?_
  intro p e s m below meth c H locs C hW hS
  have C : Cx p s m ([va_rf (some a0), .int a1, .int a2] : List Value).toArray meth c cX12_piece 4 RX12 (some .int) "piece" G := C
  obtain ⟨ls, hent, hL, hla⟩ := m_entry m (vs := [va_rf (some a0), .int a1, .int a2]) (nn := 4) [1, 1, 1] rfl (by decide)
  rw [hent]
  have h0 : ls[0]? = some (.val (va_rf (some a0))) := hla (0, va_rf (some a0)) (List.mem_of_getElem? (i := 0) rfl)
  have h1 : ls[1]? = some (.val (.int a1)) := hla (1, .int a1) (List.mem_of_getElem? (i := 1) rfl)
  have h2 : ls[2]? = some (.val (.int a2)) := hla (2, .int a2) (List.mem_of_getElem? (i := 2) rfl)
  clear hla
  generalize ([va_rf (some a0), .int a1, .int a2] : List Value).toArray = args at C ⊢
  unfold wp_X12_piece at hw
  refine m_aldN C dX12_piece_0 rfl h0 ?_
  refine lv_iconst (v := 0) C.1 C.2.1 dX12_piece_1 (by decide) ?_
  obtain ⟨hk1, hw⟩ := hw
  refine m_putI C hW hS rfl hk1 p_X12_124 (fun z => by cases z) rfl dX12_piece_2 (fun H locs hW hS => ?_)
  refine m_aldN C dX12_piece_5 rfl h0 ?_
  refine lv_iload_n C.1 C.2.1 dX12_piece_6 rfl h1 ?_
  refine m_rI (m_runV (As := [.int a1]) (rest := []) C hW hS hL (c_X12_isJob hw) v_X12_154 ⟨rfl, rfl⟩ ⟨Nat.le_of_ble_eq_true rfl, Nat.le_of_ble_eq_true rfl⟩ rfl hk1 rfl rfl (Nat.le_of_ble_eq_true rfl) dX12_piece_7 ⟨Nat.le_of_ble_eq_true rfl, Nat.le_of_ble_eq_true rfl⟩) hS (fun r3 S2 H locs hw hW hS => ?_)
  refine lv_if_ne (tgt := 15) C.1 C.2.1 dX12_piece_10 (by decide) (fun hc4 => ?_) (fun hc4 => ?_)
  · have hw := hw.2 hc4
    refine lv_iconst (v := 0) C.1 C.2.1 dX12_piece_15 (by decide) ?_
    refine m_aldN C dX12_piece_16 rfl h0 ?_
    obtain ⟨hk5, hw⟩ := hw
    refine m_getR C hW rfl hk5 f_X12_54 rfl dX12_piece_17 ?_
    refine lv_iload_n C.1 C.2.1 dX12_piece_20 rfl h1 ?_
    obtain ⟨b6, ho6, hw⟩ := hw
    obtain ⟨hk7, hw⟩ := hw
    obtain ⟨hi8, hw⟩ := hw
    refine m_iald C hW ho6 hk7 hi8 dX12_piece_21 ?_
    refine va_mmax C.1 C.2.1 (C.2.2.1.trans hL.1.symm) C.2.2.2.1 (C.2.2.2.2.1 _ tw_1336) (C.2.2.2.2.1 _ tw_601) (C.2.2.2.2.1 _ tw_20) (C.2.2.2.2.1 _ tw_602) (Nat.le_of_ble_eq_true rfl) (Nat.le_of_ble_eq_true rfl) (Nat.le_of_ble_eq_true rfl) (Nat.le_of_ble_eq_true rfl) dX12_piece_22 ?_
    refine lv_topi (fun x9 ex9 => ?_)
    have hw := hw x9 ex9
    refine m_istN C hL dX12_piece_25 rfl (by decide) (fun ls hL hn9 hk9 => ?_)
    have h0 := hk9 0 _ h0 (by decide) (Or.inl (by decide))
    have h1 := hk9 1 _ h1 (by decide) (Or.inl (by decide))
    have h2 := hk9 2 _ h2 (by decide) (Or.inr (rfl))
    have h3 := hn9
    refine lv_iload_n C.1 C.2.1 dX12_piece_26 rfl h3 ?_
    refine lv_bipush (v := 30) C.1 C.2.1 dX12_piece_27 (by decide) ?_
    refine lv_icmp_ne (tgt := 35) C.1 C.2.1 dX12_piece_29 (by decide) (fun hc10 => ?_) (fun hc10 => ?_)
    · have hw := hw.2 hc10
      refine m_aldN C dX12_piece_35 rfl h0 ?_
      refine m_getR C hW rfl hk5 f_X12_51 rfl dX12_piece_36 ?_
      refine lv_bipush (v := 30) C.1 C.2.1 dX12_piece_39 (by decide) ?_
      refine lv_iload_n C.1 C.2.1 dX12_piece_41 rfl h1 ?_
      refine lv_imul C.1 C.2.1 dX12_piece_42 ?_
      refine lv_iload_n C.1 C.2.1 dX12_piece_43 rfl h3 ?_
      refine lv_iadd C.1 C.2.1 dX12_piece_44 ?_
      refine lv_iload_n C.1 C.2.1 dX12_piece_45 rfl h2 ?_
      obtain ⟨b11, ho11, hw⟩ := hw
      obtain ⟨hk12, hw⟩ := hw
      obtain ⟨hi13, hw⟩ := hw
      refine m_iast C hW hS ho11 hk12 hi13 dX12_piece_46 (fun H locs hW hS => ?_)
      refine m_aldN C dX12_piece_47 rfl h0 ?_
      refine m_getR C hW rfl hk5 f_X12_54 rfl dX12_piece_48 ?_
      refine lv_iload_n C.1 C.2.1 dX12_piece_51 rfl h1 ?_
      refine lv_iload_n C.1 C.2.1 dX12_piece_52 rfl h3 ?_
      refine lv_iconst (v := 1) C.1 C.2.1 dX12_piece_53 (by decide) ?_
      refine lv_iadd C.1 C.2.1 dX12_piece_54 ?_
      obtain ⟨b14, ho14, hw⟩ := hw
      obtain ⟨hk15, hw⟩ := hw
      obtain ⟨hi16, hw⟩ := hw
      refine m_iast C hW hS ho14 hk15 hi16 dX12_piece_55 (fun H locs hW hS => ?_)
      refine m_aldN C dX12_piece_56 rfl h0 ?_
      refine lv_iconst (v := 0) C.1 C.2.1 dX12_piece_57 (by decide) ?_
      refine m_rI (m_runV (As := [.int 0]) (rest := []) C hW hS hL (c_X12_done hw) v_X12_141 ⟨rfl, rfl⟩ ⟨Nat.le_of_ble_eq_true rfl, Nat.le_of_ble_eq_true rfl⟩ rfl hk5 rfl rfl (Nat.le_of_ble_eq_true rfl) dX12_piece_58 ⟨Nat.le_of_ble_eq_true rfl, Nat.le_of_ble_eq_true rfl⟩) hS (fun r18 S17 H locs hw hW hS => ?_)
      exact m_iret C hW hS hw dX12_piece_61
    · have hw := hw.1 hc10
      refine lv_bipush (v := (-8)) C.1 C.2.1 dX12_piece_32 (by decide) ?_
      exact m_iret C hW hS hw dX12_piece_34
  · have hw := hw.1 hc4
    refine lv_iconst (v := (-1)) C.1 C.2.1 dX12_piece_13 (by decide) ?_
    exact m_iret C hW hS hw dX12_piece_14
def wp_X12_strip (S : Hp) (a0 : Nat) (a1 : Int32) (Q : Int32 → Hp → Prop) : Prop := hK S a0 = 14 ∧ wp_X12_isJob (sI S a0 0 0) a0 a1 (fun r3 S2 => (r3 = 0 → Q (-1) S2) ∧ (¬ (r3 = 0) → hK S2 a0 = 14 ∧ ∃ b6 : Nat, (hR S2 a0 19) = some b6 ∧ hK S2 b6 = 15 ∧ vp_in a1 (hN S2 b6) ∧ ((hI S2 b6 (a1 : Int32).toNatClampNeg) = (-1) → Q (-3) S2) ∧ (¬ ((hI S2 b6 (a1 : Int32).toNatClampNeg) = (-1)) → vp_in a1 (hN S2 b6) ∧ wp_X12_done (sI S2 b6 (a1 : Int32).toNatClampNeg (-1)) a0 0 (fun r12 S11 => Q r12 S11))))
set_option maxRecDepth 100000 in
set_option maxHeartbeats 4000000 in
theorem c_X12_strip {l : Launch} {G : GX} {S : Hp} {a0 : Nat} {a1 : Int32} {Q : Int32 → Hp → Prop} (hw : wp_X12_strip S a0 a1 Q) : Met l yX12_strip (Cond.code yX12_strip cX12_strip 2 (some .int) :: TS) { frames := 1, cells := 0, slots := 0, locals := 21 } (Pk G S [va_rf (some a0), .int a1]) (QI G Q) 0 0 G.2.2.1 := by
  refine m_met (by decide) ?_
  intro p e s m below meth c H locs C hW hS
  have C : Cx p s m ([va_rf (some a0), .int a1] : List Value).toArray meth c cX12_strip 2 RX12 (some .int) "strip" G := C
  obtain ⟨ls, hent, hL, hla⟩ := m_entry m (vs := [va_rf (some a0), .int a1]) (nn := 2) [1, 1] rfl (by decide)
  rw [hent]
  have h0 : ls[0]? = some (.val (va_rf (some a0))) := hla (0, va_rf (some a0)) (List.mem_of_getElem? (i := 0) rfl)
  have h1 : ls[1]? = some (.val (.int a1)) := hla (1, .int a1) (List.mem_of_getElem? (i := 1) rfl)
  clear hla
  generalize ([va_rf (some a0), .int a1] : List Value).toArray = args at C ⊢
  unfold wp_X12_strip at hw
  refine m_aldN C dX12_strip_0 rfl h0 ?_
  refine lv_iconst (v := 0) C.1 C.2.1 dX12_strip_1 (by decide) ?_
  obtain ⟨hk1, hw⟩ := hw
  refine m_putI C hW hS rfl hk1 p_X12_124 (fun z => by cases z) rfl dX12_strip_2 (fun H locs hW hS => ?_)
  refine m_aldN C dX12_strip_5 rfl h0 ?_
  refine lv_iload_n C.1 C.2.1 dX12_strip_6 rfl h1 ?_
  refine m_rI (m_runV (As := [.int a1]) (rest := []) C hW hS hL (c_X12_isJob hw) v_X12_154 ⟨rfl, rfl⟩ ⟨Nat.le_of_ble_eq_true rfl, Nat.le_of_ble_eq_true rfl⟩ rfl hk1 rfl rfl (Nat.le_of_ble_eq_true rfl) dX12_strip_7 ⟨Nat.le_of_ble_eq_true rfl, Nat.le_of_ble_eq_true rfl⟩) hS (fun r3 S2 H locs hw hW hS => ?_)
  refine lv_if_ne (tgt := 15) C.1 C.2.1 dX12_strip_10 (by decide) (fun hc4 => ?_) (fun hc4 => ?_)
  · have hw := hw.2 hc4
    refine m_aldN C dX12_strip_15 rfl h0 ?_
    obtain ⟨hk5, hw⟩ := hw
    refine m_getR C hW rfl hk5 f_X12_54 rfl dX12_strip_16 ?_
    refine lv_iload_n C.1 C.2.1 dX12_strip_19 rfl h1 ?_
    obtain ⟨b6, ho6, hw⟩ := hw
    obtain ⟨hk7, hw⟩ := hw
    obtain ⟨hi8, hw⟩ := hw
    refine m_iald C hW ho6 hk7 hi8 dX12_strip_20 ?_
    refine lv_iconst (v := (-1)) C.1 C.2.1 dX12_strip_21 (by decide) ?_
    refine lv_icmp_ne (tgt := 28) C.1 C.2.1 dX12_strip_22 (by decide) (fun hc9 => ?_) (fun hc9 => ?_)
    · have hw := hw.2 hc9
      refine m_aldN C dX12_strip_28 rfl h0 ?_
      refine m_getR C hW rfl hk5 f_X12_54 rfl dX12_strip_29 ?_
      refine lv_iload_n C.1 C.2.1 dX12_strip_32 rfl h1 ?_
      refine lv_iconst (v := (-1)) C.1 C.2.1 dX12_strip_33 (by decide) ?_
      obtain ⟨hi10, hw⟩ := hw
      refine m_iast C hW hS ho6 hk7 hi10 dX12_strip_34 (fun H locs hW hS => ?_)
      refine m_aldN C dX12_strip_35 rfl h0 ?_
      refine lv_iconst (v := 0) C.1 C.2.1 dX12_strip_36 (by decide) ?_
      refine m_rI (m_runV (As := [.int 0]) (rest := []) C hW hS hL (c_X12_done hw) v_X12_141 ⟨rfl, rfl⟩ ⟨Nat.le_of_ble_eq_true rfl, Nat.le_of_ble_eq_true rfl⟩ rfl hk5 rfl rfl (Nat.le_of_ble_eq_true rfl) dX12_strip_37 ⟨Nat.le_of_ble_eq_true rfl, Nat.le_of_ble_eq_true rfl⟩) hS (fun r12 S11 H locs hw hW hS => ?_)
      exact m_iret C hW hS hw dX12_strip_40
    · have hw := hw.1 hc9
      refine lv_bipush (v := (-3)) C.1 C.2.1 dX12_strip_25 (by decide) ?_
      exact m_iret C hW hS hw dX12_strip_27
  · have hw := hw.1 hc4
    refine lv_iconst (v := (-1)) C.1 C.2.1 dX12_strip_13 (by decide) ?_
    exact m_iret C hW hS hw dX12_strip_14
def wp_X12_plan (S : Hp) (a0 : Nat) (a1 : Int32) (a2 : Int32) (a3 : Int32) (Q : Int32 → Hp → Prop) : Prop := hK S a0 = 14 ∧ wp_X12_isJob (sI S a0 0 0) a0 a1 (fun r3 S2 => (r3 = 0 → Q (-1) S2) ∧ (¬ (r3 = 0) → (a2 < 1 → Q (-2) S2) ∧ (¬ (a2 < 1) → hK S2 a0 = 14 ∧ ∃ b7 : Nat, (hR S2 a0 8) = some b7 ∧ hK S2 b7 = 15 ∧ vp_in a1 (hN S2 b7) ∧ ((hI S2 b7 (a1 : Int32).toNatClampNeg) < a2 → Q (-2) S2) ∧ (¬ ((hI S2 b7 (a1 : Int32).toNatClampNeg) < a2) → (a3 < 1 → Q (-2) S2) ∧ (¬ (a3 < 1) → (a3 ≤ 9 → ∃ b13 : Nat, (hR S2 a0 20) = some b13 ∧ hK S2 b13 = 15 ∧ vp_in a1 (hN S2 b13) ∧ ∃ b16 : Nat, (hR (sI S2 b13 (a1 : Int32).toNatClampNeg a2) a0 21) = some b16 ∧ hK (sI S2 b13 (a1 : Int32).toNatClampNeg a2) b16 = 15 ∧ vp_in a1 (hN (sI S2 b13 (a1 : Int32).toNatClampNeg a2) b16) ∧ wp_X12_done (sI (sI S2 b13 (a1 : Int32).toNatClampNeg a2) b16 (a1 : Int32).toNatClampNeg a3) a0 0 (fun r20 S19 => Q r20 S19)) ∧ (¬ (a3 ≤ 9) → Q (-2) S2))))))
set_option maxRecDepth 100000 in
set_option maxHeartbeats 4000000 in
theorem c_X12_plan {l : Launch} {G : GX} {S : Hp} {a0 : Nat} {a1 : Int32} {a2 : Int32} {a3 : Int32} {Q : Int32 → Hp → Prop} (hw : wp_X12_plan S a0 a1 a2 a3 Q) : Met l yX12_plan (Cond.code yX12_plan cX12_plan 4 (some .int) :: TS) { frames := 1, cells := 0, slots := 0, locals := 21 } (Pk G S [va_rf (some a0), .int a1, .int a2, .int a3]) (QI G Q) 0 0 G.2.2.1 := by
  refine m_met (by decide) ?_
  intro p e s m below meth c H locs C hW hS
  have C : Cx p s m ([va_rf (some a0), .int a1, .int a2, .int a3] : List Value).toArray meth c cX12_plan 4 RX12 (some .int) "plan" G := C
  obtain ⟨ls, hent, hL, hla⟩ := m_entry m (vs := [va_rf (some a0), .int a1, .int a2, .int a3]) (nn := 4) [1, 1, 1, 1] rfl (by decide)
  rw [hent]
  have h0 : ls[0]? = some (.val (va_rf (some a0))) := hla (0, va_rf (some a0)) (List.mem_of_getElem? (i := 0) rfl)
  have h1 : ls[1]? = some (.val (.int a1)) := hla (1, .int a1) (List.mem_of_getElem? (i := 1) rfl)
  have h2 : ls[2]? = some (.val (.int a2)) := hla (2, .int a2) (List.mem_of_getElem? (i := 2) rfl)
  have h3 : ls[3]? = some (.val (.int a3)) := hla (3, .int a3) (List.mem_of_getElem? (i := 3) rfl)
  clear hla
  generalize ([va_rf (some a0), .int a1, .int a2, .int a3] : List Value).toArray = args at C ⊢
  unfold wp_X12_plan at hw
  refine m_aldN C dX12_plan_0 rfl h0 ?_
  refine lv_iconst (v := 0) C.1 C.2.1 dX12_plan_1 (by decide) ?_
  obtain ⟨hk1, hw⟩ := hw
  refine m_putI C hW hS rfl hk1 p_X12_124 (fun z => by cases z) rfl dX12_plan_2 (fun H locs hW hS => ?_)
  refine m_aldN C dX12_plan_5 rfl h0 ?_
  refine lv_iload_n C.1 C.2.1 dX12_plan_6 rfl h1 ?_
  refine m_rI (m_runV (As := [.int a1]) (rest := []) C hW hS hL (c_X12_isJob hw) v_X12_154 ⟨rfl, rfl⟩ ⟨Nat.le_of_ble_eq_true rfl, Nat.le_of_ble_eq_true rfl⟩ rfl hk1 rfl rfl (Nat.le_of_ble_eq_true rfl) dX12_plan_7 ⟨Nat.le_of_ble_eq_true rfl, Nat.le_of_ble_eq_true rfl⟩) hS (fun r3 S2 H locs hw hW hS => ?_)
  refine lv_if_ne (tgt := 15) C.1 C.2.1 dX12_plan_10 (by decide) (fun hc4 => ?_) (fun hc4 => ?_)
  · have hw := hw.2 hc4
    refine lv_iload_n C.1 C.2.1 dX12_plan_15 rfl h2 ?_
    refine lv_iconst (v := 1) C.1 C.2.1 dX12_plan_16 (by decide) ?_
    refine lv_icmp_lt (tgt := 41) C.1 C.2.1 dX12_plan_17 (by decide) (fun hc5 => ?_) (fun hc5 => ?_)
    · have hw := hw.1 hc5
      refine lv_bipush (v := (-2)) C.1 C.2.1 dX12_plan_41 (by decide) ?_
      exact m_iret C hW hS hw dX12_plan_43
    · have hw := hw.2 hc5
      refine lv_iload_n C.1 C.2.1 dX12_plan_20 rfl h2 ?_
      refine m_aldN C dX12_plan_21 rfl h0 ?_
      obtain ⟨hk6, hw⟩ := hw
      refine m_getR C hW rfl hk6 f_X12_19 rfl dX12_plan_22 ?_
      refine lv_iload_n C.1 C.2.1 dX12_plan_25 rfl h1 ?_
      obtain ⟨b7, ho7, hw⟩ := hw
      obtain ⟨hk8, hw⟩ := hw
      obtain ⟨hi9, hw⟩ := hw
      refine m_iald C hW ho7 hk8 hi9 dX12_plan_26 ?_
      refine lv_icmp_gt (tgt := 41) C.1 C.2.1 dX12_plan_27 (by decide) (fun hc10 => ?_) (fun hc10 => ?_)
      · have hw := hw.1 hc10
        refine lv_bipush (v := (-2)) C.1 C.2.1 dX12_plan_41 (by decide) ?_
        exact m_iret C hW hS hw dX12_plan_43
      · have hw := hw.2 hc10
        refine lv_iload_n C.1 C.2.1 dX12_plan_30 rfl h3 ?_
        refine lv_iconst (v := 1) C.1 C.2.1 dX12_plan_31 (by decide) ?_
        refine lv_icmp_lt (tgt := 41) C.1 C.2.1 dX12_plan_32 (by decide) (fun hc11 => ?_) (fun hc11 => ?_)
        · have hw := hw.1 hc11
          refine lv_bipush (v := (-2)) C.1 C.2.1 dX12_plan_41 (by decide) ?_
          exact m_iret C hW hS hw dX12_plan_43
        · have hw := hw.2 hc11
          refine lv_iload_n C.1 C.2.1 dX12_plan_35 rfl h3 ?_
          refine lv_bipush (v := 9) C.1 C.2.1 dX12_plan_36 (by decide) ?_
          refine lv_icmp_le (tgt := 44) C.1 C.2.1 dX12_plan_38 (by decide) (fun hc12 => ?_) (fun hc12 => ?_)
          · have hw := hw.1 hc12
            refine m_aldN C dX12_plan_44 rfl h0 ?_
            refine m_getR C hW rfl hk6 f_X12_57 rfl dX12_plan_45 ?_
            refine lv_iload_n C.1 C.2.1 dX12_plan_48 rfl h1 ?_
            refine lv_iload_n C.1 C.2.1 dX12_plan_49 rfl h2 ?_
            obtain ⟨b13, ho13, hw⟩ := hw
            obtain ⟨hk14, hw⟩ := hw
            obtain ⟨hi15, hw⟩ := hw
            refine m_iast C hW hS ho13 hk14 hi15 dX12_plan_50 (fun H locs hW hS => ?_)
            refine m_aldN C dX12_plan_51 rfl h0 ?_
            refine m_getR C hW rfl hk6 f_X12_60 rfl dX12_plan_52 ?_
            refine lv_iload_n C.1 C.2.1 dX12_plan_55 rfl h1 ?_
            refine lv_iload_n C.1 C.2.1 dX12_plan_56 rfl h3 ?_
            obtain ⟨b16, ho16, hw⟩ := hw
            obtain ⟨hk17, hw⟩ := hw
            obtain ⟨hi18, hw⟩ := hw
            refine m_iast C hW hS ho16 hk17 hi18 dX12_plan_57 (fun H locs hW hS => ?_)
            refine m_aldN C dX12_plan_58 rfl h0 ?_
            refine lv_iconst (v := 0) C.1 C.2.1 dX12_plan_59 (by decide) ?_
            refine m_rI (m_runV (As := [.int 0]) (rest := []) C hW hS hL (c_X12_done hw) v_X12_141 ⟨rfl, rfl⟩ ⟨Nat.le_of_ble_eq_true rfl, Nat.le_of_ble_eq_true rfl⟩ rfl hk6 rfl rfl (Nat.le_of_ble_eq_true rfl) dX12_plan_60 ⟨Nat.le_of_ble_eq_true rfl, Nat.le_of_ble_eq_true rfl⟩) hS (fun r20 S19 H locs hw hW hS => ?_)
            exact m_iret C hW hS hw dX12_plan_63
          · have hw := hw.2 hc12
            refine lv_bipush (v := (-2)) C.1 C.2.1 dX12_plan_41 (by decide) ?_
            exact m_iret C hW hS hw dX12_plan_43
  · have hw := hw.1 hc4
    refine lv_iconst (v := (-1)) C.1 C.2.1 dX12_plan_13 (by decide) ?_
    exact m_iret C hW hS hw dX12_plan_14
def wp_X12_clearPlan_L9 (l0 : Nat) (Q : Int32 → Hp → Prop) : Nat → Hp → Int32 → Int32 → Prop
  | 0, _, _, _ => False
  | n + 1, S, l1, l2 => hK S l0 = 14 ∧ ((hI S l0 4) ≤ l2 → wp_X12_done S l0 l1 (fun r5 S4 => Q r5 S4)) ∧ (¬ ((hI S l0 4) ≤ l2) → ∃ b6 : Nat, (hR S l0 20) = some b6 ∧ hK S b6 = 15 ∧ vp_in l2 (hN S b6) ∧ ((hI S b6 (l2 : Int32).toNatClampNeg) ≤ 0 → ∀ x10 : Int32, x10 = (l1 + 0) → vp_in l2 (hN S b6) ∧ wp_X12_clearPlan_L9 l0 Q n (sI S b6 (l2 : Int32).toNatClampNeg 0) x10 (l2 + 1)) ∧ (¬ ((hI S b6 (l2 : Int32).toNatClampNeg) ≤ 0) → ∀ x12 : Int32, x12 = (l1 + 1) → vp_in l2 (hN S b6) ∧ wp_X12_clearPlan_L9 l0 Q n (sI S b6 (l2 : Int32).toNatClampNeg 0) x12 (l2 + 1)))
def wp_X12_clearPlan (S : Hp) (a0 : Nat) (Q : Int32 → Hp → Prop) : Prop := hK S a0 = 14 ∧ wp_X12_clearPlan_L9 a0 Q FU (sI S a0 0 0) 0 0
set_option maxRecDepth 100000 in
set_option maxHeartbeats 4000000 in
theorem w_X12_clearPlan_L9 {p : Program} {l : Launch} {e : Env} {s : State} {m : MethodId} {args : Array Value} {below : List Frame} {meth : Method} {c : Code} {G : GX} {Q : Int32 → Hp → Prop} {l0 : Nat} (C : Cx p s m args meth c cX12_clearPlan 3 RX12 (some .int) "clearPlan" G) :
    ∀ (n : Nat) (S : Hp) (l1 : Int32) (l2 : Int32) (H : Heap) (locs : List Loc) (ls : Array Slot), wd G S H → va_S G.2.2.1 s.heap H locs → LV ls 3 → ls[0]? = some (.val (va_rf (some l0))) → ls[1]? = some (.val (.int l1)) → ls[2]? = some (.val (.int l2)) → wp_X12_clearPlan_L9 l0 Q n S l1 l2 → W p l e ({ frames := 1, cells := 0, slots := 0, locals := 21 } : Room) s m args below meth c H locs 0 0 (MQ below (QI G Q) args s 0 0 G.2.2.1) (F0 m 9 ls []) := by
  intro n
  induction n with
  | zero =>
    intro S l1 l2 H locs ls hW hS hL h0 h1 h2 hw
    exact False.elim hw
  | succ n ih =>
    intro S l1 l2 H locs ls hW hS hL h0 h1 h2 hw
    unfold wp_X12_clearPlan_L9 at hw
    refine lv_iload_n C.1 C.2.1 dX12_clearPlan_9 rfl h2 ?_
    refine m_aldN C dX12_clearPlan_10 rfl h0 ?_
    obtain ⟨hk2, hw⟩ := hw
    refine m_getI C hW rfl hk2 f_X12_128 rfl dX12_clearPlan_11 ?_
    refine lv_icmp_ge (tgt := 47) C.1 C.2.1 dX12_clearPlan_14 (by decide) (fun hc3 => ?_) (fun hc3 => ?_)
    · have hw := hw.1 hc3
      refine m_aldN C dX12_clearPlan_47 rfl h0 ?_
      refine lv_iload_n C.1 C.2.1 dX12_clearPlan_48 rfl h1 ?_
      refine m_rI (m_runV (As := [.int l1]) (rest := []) C hW hS hL (c_X12_done hw) v_X12_141 ⟨rfl, rfl⟩ ⟨Nat.le_of_ble_eq_true rfl, Nat.le_of_ble_eq_true rfl⟩ rfl hk2 rfl rfl (Nat.le_of_ble_eq_true rfl) dX12_clearPlan_49 ⟨Nat.le_of_ble_eq_true rfl, Nat.le_of_ble_eq_true rfl⟩) hS (fun r5 S4 H locs hw hW hS => ?_)
      exact m_iret C hW hS hw dX12_clearPlan_52
    · have hw := hw.2 hc3
      refine lv_iload_n C.1 C.2.1 dX12_clearPlan_17 rfl h1 ?_
      refine m_aldN C dX12_clearPlan_18 rfl h0 ?_
      refine m_getR C hW rfl hk2 f_X12_57 rfl dX12_clearPlan_19 ?_
      refine lv_iload_n C.1 C.2.1 dX12_clearPlan_22 rfl h2 ?_
      obtain ⟨b6, ho6, hw⟩ := hw
      obtain ⟨hk7, hw⟩ := hw
      obtain ⟨hi8, hw⟩ := hw
      refine m_iald C hW ho6 hk7 hi8 dX12_clearPlan_23 ?_
      refine lv_if_le (tgt := 31) C.1 C.2.1 dX12_clearPlan_24 (by decide) (fun hc9 => ?_) (fun hc9 => ?_)
      · have hw := hw.1 hc9
        refine lv_iconst (v := 0) C.1 C.2.1 dX12_clearPlan_31 (by decide) ?_
        refine lv_iadd C.1 C.2.1 dX12_clearPlan_32 ?_
        refine lv_topi (fun x10 ex10 => ?_)
        have hw := hw x10 ex10
        refine m_istN C hL dX12_clearPlan_33 rfl (by decide) (fun ls hL hn9 hk9 => ?_)
        have h0 := hk9 0 _ h0 (by decide) (Or.inr (va_rf_cat _))
        have h2 := hk9 2 _ h2 (by decide) (Or.inl (by decide))
        have h1 := hn9
        refine m_aldN C dX12_clearPlan_34 rfl h0 ?_
        refine m_getR C hW rfl hk2 f_X12_57 rfl dX12_clearPlan_35 ?_
        refine lv_iload_n C.1 C.2.1 dX12_clearPlan_38 rfl h2 ?_
        refine lv_iconst (v := 0) C.1 C.2.1 dX12_clearPlan_39 (by decide) ?_
        obtain ⟨hi11, hw⟩ := hw
        refine m_iast C hW hS ho6 hk7 hi11 dX12_clearPlan_40 (fun H locs hW hS => ?_)
        refine m_iinc (v := (l2 + 1)) C hL dX12_clearPlan_41 h2 rfl (by decide) (fun ls hL hn9 hk9 => ?_)
        have h0 := hk9 0 _ h0 (by decide) (Or.inl (by decide))
        have h1 := hk9 1 _ h1 (by decide) (Or.inr (rfl))
        have h2 := hn9
        refine lv_goto (tgt := 9) C.1 C.2.1 dX12_clearPlan_44 (by decide) ?_
        exact ih (sI S b6 (l2 : Int32).toNatClampNeg 0) x10 (l2 + 1) H locs ls hW hS hL h0 h1 h2 hw
      · have hw := hw.2 hc9
        refine lv_iconst (v := 1) C.1 C.2.1 dX12_clearPlan_27 (by decide) ?_
        refine lv_goto (tgt := 32) C.1 C.2.1 dX12_clearPlan_28 (by decide) ?_
        refine lv_iadd C.1 C.2.1 dX12_clearPlan_32 ?_
        refine lv_topi (fun x12 ex12 => ?_)
        have hw := hw x12 ex12
        refine m_istN C hL dX12_clearPlan_33 rfl (by decide) (fun ls hL hn9 hk9 => ?_)
        have h0 := hk9 0 _ h0 (by decide) (Or.inr (va_rf_cat _))
        have h2 := hk9 2 _ h2 (by decide) (Or.inl (by decide))
        have h1 := hn9
        refine m_aldN C dX12_clearPlan_34 rfl h0 ?_
        refine m_getR C hW rfl hk2 f_X12_57 rfl dX12_clearPlan_35 ?_
        refine lv_iload_n C.1 C.2.1 dX12_clearPlan_38 rfl h2 ?_
        refine lv_iconst (v := 0) C.1 C.2.1 dX12_clearPlan_39 (by decide) ?_
        obtain ⟨hi13, hw⟩ := hw
        refine m_iast C hW hS ho6 hk7 hi13 dX12_clearPlan_40 (fun H locs hW hS => ?_)
        refine m_iinc (v := (l2 + 1)) C hL dX12_clearPlan_41 h2 rfl (by decide) (fun ls hL hn9 hk9 => ?_)
        have h0 := hk9 0 _ h0 (by decide) (Or.inl (by decide))
        have h1 := hk9 1 _ h1 (by decide) (Or.inr (rfl))
        have h2 := hn9
        refine lv_goto (tgt := 9) C.1 C.2.1 dX12_clearPlan_44 (by decide) ?_
        exact ih (sI S b6 (l2 : Int32).toNatClampNeg 0) x12 (l2 + 1) H locs ls hW hS hL h0 h1 h2 hw
set_option maxRecDepth 100000 in
set_option maxHeartbeats 4000000 in
theorem c_X12_clearPlan {l : Launch} {G : GX} {S : Hp} {a0 : Nat} {Q : Int32 → Hp → Prop} (hw : wp_X12_clearPlan S a0 Q) : Met l yX12_clearPlan (Cond.code yX12_clearPlan cX12_clearPlan 3 (some .int) :: TS) { frames := 1, cells := 0, slots := 0, locals := 21 } (Pk G S [va_rf (some a0)]) (QI G Q) 0 0 G.2.2.1 := by
  refine m_met (by decide) ?_
  intro p e s m below meth c H locs C hW hS
  have C : Cx p s m ([va_rf (some a0)] : List Value).toArray meth c cX12_clearPlan 3 RX12 (some .int) "clearPlan" G := C
  obtain ⟨ls, hent, hL, hla⟩ := m_entry m (vs := [va_rf (some a0)]) (nn := 3) [1] rfl (by decide)
  rw [hent]
  have h0 : ls[0]? = some (.val (va_rf (some a0))) := hla (0, va_rf (some a0)) (List.mem_of_getElem? (i := 0) rfl)
  clear hla
  generalize ([va_rf (some a0)] : List Value).toArray = args at C ⊢
  unfold wp_X12_clearPlan at hw
  refine m_aldN C dX12_clearPlan_0 rfl h0 ?_
  refine lv_iconst (v := 0) C.1 C.2.1 dX12_clearPlan_1 (by decide) ?_
  obtain ⟨hk1, hw⟩ := hw
  refine m_putI C hW hS rfl hk1 p_X12_124 (fun z => by cases z) rfl dX12_clearPlan_2 (fun H locs hW hS => ?_)
  refine lv_iconst (v := 0) C.1 C.2.1 dX12_clearPlan_5 (by decide) ?_
  refine m_istN C hL dX12_clearPlan_6 rfl (by decide) (fun ls hL hn9 hk9 => ?_)
  have h0 := hk9 0 _ h0 (by decide) (Or.inr (va_rf_cat _))
  have h1 := hn9
  refine lv_iconst (v := 0) C.1 C.2.1 dX12_clearPlan_7 (by decide) ?_
  refine m_istN C hL dX12_clearPlan_8 rfl (by decide) (fun ls hL hn9 hk9 => ?_)
  have h0 := hk9 0 _ h0 (by decide) (Or.inl (by decide))
  have h1 := hk9 1 _ h1 (by decide) (Or.inr (rfl))
  have h2 := hn9
  exact w_X12_clearPlan_L9 C  FU (sI S a0 0 0) 0 0 H locs ls hW hS hL h0 h1 h2 hw
def wp_X12_number (S : Hp) (a0 : Nat) (a1 : Int32) (a2 : Int32) (Q : Int32 → Hp → Prop) : Prop := hK S a0 = 14 ∧ ∃ b2 : Nat, (hR S a0 18) = some b2 ∧ hK S b2 = 15 ∧ vp_in ((30 * a1) + a2) (hN S b2) ∧ Q (hI S b2 (((30 * a1) + a2) : Int32).toNatClampNeg) S
set_option maxRecDepth 100000 in
set_option maxHeartbeats 4000000 in
theorem c_X12_number {l : Launch} {G : GX} {S : Hp} {a0 : Nat} {a1 : Int32} {a2 : Int32} {Q : Int32 → Hp → Prop} (hw : wp_X12_number S a0 a1 a2 Q) : Met l yX12_number (Cond.code yX12_number cX12_number 3 (some .int) :: TS) { frames := 0, cells := 0, slots := 0, locals := 0 } (Pk G S [va_rf (some a0), .int a1, .int a2]) (QI G Q) 0 0 G.2.2.1 := by
  refine m_met (by decide) ?_
  intro p e s m below meth c H locs C hW hS
  have C : Cx p s m ([va_rf (some a0), .int a1, .int a2] : List Value).toArray meth c cX12_number 3 RX12 (some .int) "number" G := C
  obtain ⟨ls, hent, hL, hla⟩ := m_entry m (vs := [va_rf (some a0), .int a1, .int a2]) (nn := 3) [1, 1, 1] rfl (by decide)
  rw [hent]
  have h0 : ls[0]? = some (.val (va_rf (some a0))) := hla (0, va_rf (some a0)) (List.mem_of_getElem? (i := 0) rfl)
  have h1 : ls[1]? = some (.val (.int a1)) := hla (1, .int a1) (List.mem_of_getElem? (i := 1) rfl)
  have h2 : ls[2]? = some (.val (.int a2)) := hla (2, .int a2) (List.mem_of_getElem? (i := 2) rfl)
  clear hla
  generalize ([va_rf (some a0), .int a1, .int a2] : List Value).toArray = args at C ⊢
  unfold wp_X12_number at hw
  refine m_aldN C dX12_number_0 rfl h0 ?_
  obtain ⟨hk1, hw⟩ := hw
  refine m_getR C hW rfl hk1 f_X12_51 rfl dX12_number_1 ?_
  refine lv_bipush (v := 30) C.1 C.2.1 dX12_number_4 (by decide) ?_
  refine lv_iload_n C.1 C.2.1 dX12_number_6 rfl h1 ?_
  refine lv_imul C.1 C.2.1 dX12_number_7 ?_
  refine lv_iload_n C.1 C.2.1 dX12_number_8 rfl h2 ?_
  refine lv_iadd C.1 C.2.1 dX12_number_9 ?_
  obtain ⟨b2, ho2, hw⟩ := hw
  obtain ⟨hk3, hw⟩ := hw
  obtain ⟨hi4, hw⟩ := hw
  refine m_iald C hW ho2 hk3 hi4 dX12_number_10 ?_
  exact m_iret C hW hS hw dX12_number_11
def wp_X12_cuts_L27 (l0 : Nat) (l1 : Int32) (l2 : Int32) (l3 : Int64) (l5 : Int64) (K66 : Hp → Prop) (Q : Int32 → Hp → Prop) : Nat → Hp → Int32 → Prop
  | 0, _, _ => False
  | n + 1, S, l7 => (l2 ≤ l7 → K66 S) ∧ (¬ (l2 ≤ l7) → hK S l0 = 14 ∧ wp_X12_number S l0 l1 l7 (fun r17 S16 => (r17 < 1 → Q 20 S16) ∧ (¬ (r17 < 1) → hK S16 l0 = 14 ∧ wp_X12_number S16 l0 l1 l7 (fun r21 S20 => (((r21 : Int32).toInt64) ≤ l3 → wp_X12_cuts_L27 l0 l1 l2 l3 l5 K66 Q n S20 (l7 + 1)) ∧ (¬ (((r21 : Int32).toInt64) ≤ l3) → Q 20 S20)))))
def wp_X12_cuts_L79 (l0 : Nat) (l1 : Int32) (l2 : Int32) (l3 : Int64) (l5 : Int64) (K108 : Hp → Prop) (Q : Int32 → Hp → Prop) : Nat → Hp → Int32 → Prop
  | 0, _, _ => False
  | n + 1, S, l7 => (30 ≤ l7 → K108 S) ∧ (¬ (30 ≤ l7) → hK S l0 = 14 ∧ ∃ b27 : Nat, (hR S l0 42) = some b27 ∧ hK S b27 = 17 ∧ vp_in l7 (hN S b27) ∧ ∃ b30 : Nat, (hR (sI S b27 (l7 : Int32).toNatClampNeg 0) l0 43) = some b30 ∧ hK (sI S b27 (l7 : Int32).toNatClampNeg 0) b30 = 16 ∧ vp_in l7 (hN (sI S b27 (l7 : Int32).toNatClampNeg 0) b30) ∧ wp_X12_cuts_L79 l0 l1 l2 l3 l5 K108 Q n (sJ (sI S b27 (l7 : Int32).toNatClampNeg 0) b30 (l7 : Int32).toNatClampNeg 0) (l7 + 1))
def wp_X12_cuts_L126 (l0 : Nat) (l1 : Int32) (l2 : Int32) (l3 : Int64) (l5 : Int64) (l7 : Int32) (l8 : Int32) (K175 : Hp → Int32 → Prop) (Q : Int32 → Hp → Prop) : Nat → Hp → Int32 → Int32 → Prop
  | 0, _, _, _ => False
  | n + 1, S, l9, l10 => (l2 ≤ l10 → K175 S l9) ∧ (¬ (l2 ≤ l10) → hK S l0 = 14 ∧ ∃ b38 : Nat, (hR S l0 42) = some b38 ∧ hK S b38 = 17 ∧ vp_in l10 (hN S b38) ∧ ((hI S b38 (l10 : Int32).toNatClampNeg) = 0 → (l9 = (-1) → wp_X12_cuts_L126 l0 l1 l2 l3 l5 l7 l8 K175 Q n S l10 (l10 + 1)) ∧ (¬ (l9 = (-1)) → wp_X12_number S l0 l1 l10 (fun r44 S43 => hK S43 l0 = 14 ∧ wp_X12_number S43 l0 l1 l9 (fun r47 S46 => (r44 ≤ r47 → wp_X12_cuts_L126 l0 l1 l2 l3 l5 l7 l8 K175 Q n S46 l9 (l10 + 1)) ∧ (¬ (r44 ≤ r47) → wp_X12_cuts_L126 l0 l1 l2 l3 l5 l7 l8 K175 Q n S46 l10 (l10 + 1)))))) ∧ (¬ ((hI S b38 (l10 : Int32).toNatClampNeg) = 0) → wp_X12_cuts_L126 l0 l1 l2 l3 l5 l7 l8 K175 Q n S l9 (l10 + 1)))
def wp_X12_cuts_L186 (l0 : Nat) (l1 : Int32) (l2 : Int32) (l3 : Int64) (l5 : Int64) (l7 : Int32) (l8 : Int32) (l9 : Int32) (K223 : Hp → Int32 → Prop) (Q : Int32 → Hp → Prop) : Nat → Hp → Int32 → Prop
  | 0, _, _ => False
  | n + 1, S, l10 => (l7 ≤ l10 → K223 S l10) ∧ (¬ (l7 ≤ l10) → hK S l0 = 14 ∧ ∃ b57 : Nat, (hR S l0 43) = some b57 ∧ hK S b57 = 16 ∧ vp_in l10 (hN S b57) ∧ wp_X12_number S l0 l1 l9 (fun r61 S60 => ((((hJ S b57 (l10 : Int32).toNatClampNeg) + l5) + ((r61 : Int32).toInt64)) ≤ l3 → K223 S60 l10) ∧ (¬ ((((hJ S b57 (l10 : Int32).toNatClampNeg) + l5) + ((r61 : Int32).toInt64)) ≤ l3) → wp_X12_cuts_L186 l0 l1 l2 l3 l5 l7 l8 l9 K223 Q n S60 (l10 + 1))))
def wp_X12_cuts_L114 (l0 : Nat) (l1 : Int32) (l2 : Int32) (l3 : Int64) (l5 : Int64) (Q : Int32 → Hp → Prop) : Nat → Hp → Int32 → Int32 → Prop
  | 0, _, _, _ => False
  | n + 1, S, l7, l8 => (l2 ≤ l8 → hK S l0 = 14 ∧ Q 0 (sI S l0 41 l7)) ∧ (¬ (l2 ≤ l8) → wp_X12_cuts_L126 l0 l1 l2 l3 l5 l7 l8 (fun (S49 : Hp) (x50 : Int32) => hK S49 l0 = 14 ∧ ∃ b52 : Nat, (hR S49 l0 42) = some b52 ∧ hK S49 b52 = 17 ∧ vp_in x50 (hN S49 b52) ∧ wp_X12_cuts_L186 l0 l1 l2 l3 l5 l7 l8 x50 (fun (S63 : Hp) (x64 : Int32) => hK S63 l0 = 14 ∧ ∃ b66 : Nat, (hR S63 l0 43) = some b66 ∧ hK S63 b66 = 16 ∧ vp_in x64 (hN S63 b66) ∧ wp_X12_number S63 l0 l1 x50 (fun r70 S69 => ∃ J72 : Option Nat → Int32 → Int64 → Int64 → Int64 → Prop, J72 = (fun (o73 : Option Nat) (x74 : Int32) (z75 : Int64) (z76 : Int64) (z77 : Int64) => ∃ b78 : Nat, o73 = some b78 ∧ hK S69 b78 = 16 ∧ vp_in x74 (hN S69 b78) ∧ (x64 = l7 → hK (sJ S69 b78 (x74 : Int32).toNatClampNeg (z75 + (z76 + z77))) l0 = 14 ∧ ∃ b87 : Nat, (hR (sJ S69 b78 (x74 : Int32).toNatClampNeg (z75 + (z76 + z77))) l0 40) = some b87 ∧ hK (sJ S69 b78 (x74 : Int32).toNatClampNeg (z75 + (z76 + z77))) b87 = 16 ∧ vp_in x50 (hN (sJ S69 b78 (x74 : Int32).toNatClampNeg (z75 + (z76 + z77))) b87) ∧ wp_X12_cuts_L114 l0 l1 l2 l3 l5 Q n (sJ (sJ S69 b78 (x74 : Int32).toNatClampNeg (z75 + (z76 + z77))) b87 (x50 : Int32).toNatClampNeg ((x64 : Int32).toInt64)) (l7 + 1) (l8 + 1)) ∧ (¬ (x64 = l7) → hK (sJ S69 b78 (x74 : Int32).toNatClampNeg (z75 + (z76 + z77))) l0 = 14 ∧ ∃ b83 : Nat, (hR (sJ S69 b78 (x74 : Int32).toNatClampNeg (z75 + (z76 + z77))) l0 40) = some b83 ∧ hK (sJ S69 b78 (x74 : Int32).toNatClampNeg (z75 + (z76 + z77))) b83 = 16 ∧ vp_in x50 (hN (sJ S69 b78 (x74 : Int32).toNatClampNeg (z75 + (z76 + z77))) b83) ∧ wp_X12_cuts_L114 l0 l1 l2 l3 l5 Q n (sJ (sJ S69 b78 (x74 : Int32).toNatClampNeg (z75 + (z76 + z77))) b83 (x50 : Int32).toNatClampNeg ((x64 : Int32).toInt64)) l7 (l8 + 1))) ∧ (x64 = l7 → J72 (hR S63 l0 43) x64 (hJ S63 b66 (x64 : Int32).toNatClampNeg) ((r70 : Int32).toInt64) 0) ∧ (¬ (x64 = l7) → J72 (hR S63 l0 43) x64 (hJ S63 b66 (x64 : Int32).toNatClampNeg) ((r70 : Int32).toInt64) l5))) Q FU (sI S49 b52 (x50 : Int32).toNatClampNeg 1) 0) Q FU S (-1) 0)
def wp_X12_cuts (S : Hp) (a0 : Nat) (a1 : Int32) (Q : Int32 → Hp → Prop) : Prop := hK S a0 = 14 ∧ ∃ b2 : Nat, (hR S a0 19) = some b2 ∧ hK S b2 = 15 ∧ vp_in a1 (hN S b2) ∧ ∀ x5 : Int32, x5 = (hI S b2 (a1 : Int32).toNatClampNeg) → ∃ b6 : Nat, (hR S a0 16) = some b6 ∧ hK S b6 = 15 ∧ vp_in a1 (hN S b6) ∧ ∀ z9 : Int64, z9 = (((hI S b6 (a1 : Int32).toNatClampNeg) : Int32).toInt64) → ∃ b10 : Nat, (hR S a0 17) = some b10 ∧ hK S b10 = 15 ∧ vp_in a1 (hN S b10) ∧ ∀ z13 : Int64, z13 = (((hI S b10 (a1 : Int32).toNatClampNeg) : Int32).toInt64) → wp_X12_cuts_L27 a0 a1 x5 z9 z13 (fun (S23 : Hp) => (0 ≤ z13 → wp_X12_cuts_L79 a0 a1 x5 z9 z13 (fun (S33 : Hp) => wp_X12_cuts_L114 a0 a1 x5 z9 z13 Q FU S33 0 0) Q FU S23 0) ∧ (¬ (0 ≤ z13) → Q 20 S23)) Q FU S 0
set_option maxRecDepth 100000 in
set_option maxHeartbeats 4000000 in
theorem w_X12_cuts_L27 {p : Program} {l : Launch} {e : Env} {s : State} {m : MethodId} {args : Array Value} {below : List Frame} {meth : Method} {c : Code} {G : GX} {Q : Int32 → Hp → Prop} {K66 : Hp → Prop} {l0 : Nat} {l1 : Int32} {l2 : Int32} {l3 : Int64} {l5 : Int64} (C : Cx p s m args meth c cX12_cuts 11 RX12 (some .int) "cuts" G)
    (k66 : ∀ (S : Hp) (H : Heap) (locs : List Loc) (ls : Array Slot), wd G S H → va_S G.2.2.1 s.heap H locs → LV ls 11 → ls[0]? = some (.val (va_rf (some l0))) → ls[1]? = some (.val (.int l1)) → ls[2]? = some (.val (.int l2)) → ls[3]? = some (.val (.long l3)) → ls[5]? = some (.val (.long l5)) → K66 S → W p l e ({ frames := 1, cells := 0, slots := 0, locals := 22 } : Room) s m args below meth c H locs 0 0 (MQ below (QI G Q) args s 0 0 G.2.2.1) (F0 m 66 ls [])) :
    ∀ (n : Nat) (S : Hp) (l7 : Int32) (H : Heap) (locs : List Loc) (ls : Array Slot), wd G S H → va_S G.2.2.1 s.heap H locs → LV ls 11 → ls[0]? = some (.val (va_rf (some l0))) → ls[1]? = some (.val (.int l1)) → ls[2]? = some (.val (.int l2)) → ls[3]? = some (.val (.long l3)) → ls[5]? = some (.val (.long l5)) → ls[7]? = some (.val (.int l7)) → wp_X12_cuts_L27 l0 l1 l2 l3 l5 K66 Q n S l7 → W p l e ({ frames := 1, cells := 0, slots := 0, locals := 22 } : Room) s m args below meth c H locs 0 0 (MQ below (QI G Q) args s 0 0 G.2.2.1) (F0 m 27 ls []) := by
  intro n
  induction n with
  | zero =>
    intro S l7 H locs ls hW hS hL h0 h1 h2 h3 h5 h7 hw
    exact False.elim hw
  | succ n ih =>
    intro S l7 H locs ls hW hS hL h0 h1 h2 h3 h5 h7 hw
    unfold wp_X12_cuts_L27 at hw
    refine lv_iload C.1 C.2.1 dX12_cuts_27 h7 ?_
    refine lv_iload_n C.1 C.2.1 dX12_cuts_29 rfl h2 ?_
    refine lv_icmp_ge (tgt := 66) C.1 C.2.1 dX12_cuts_30 (by decide) (fun hc14 => ?_) (fun hc14 => ?_)
    · have hw := hw.1 hc14
      exact k66 S H locs ls hW hS hL h0 h1 h2 h3 h5 hw
    · have hw := hw.2 hc14
      refine m_aldN C dX12_cuts_33 rfl h0 ?_
      refine lv_iload_n C.1 C.2.1 dX12_cuts_34 rfl h1 ?_
      refine lv_iload C.1 C.2.1 dX12_cuts_35 h7 ?_
      obtain ⟨hk15, hw⟩ := hw
      refine m_rI (m_runV (As := [.int l1, .int l7]) (rest := []) C hW hS hL (c_X12_number hw) v_X12_181 ⟨rfl, rfl⟩ ⟨Nat.le_of_ble_eq_true rfl, Nat.le_of_ble_eq_true rfl⟩ rfl hk15 rfl rfl (Nat.le_of_ble_eq_true rfl) dX12_cuts_37 ⟨Nat.le_of_ble_eq_true rfl, Nat.le_of_ble_eq_true rfl⟩) hS (fun r17 S16 H locs hw hW hS => ?_)
      refine lv_iconst (v := 1) C.1 C.2.1 dX12_cuts_40 (by decide) ?_
      refine lv_icmp_lt (tgt := 57) C.1 C.2.1 dX12_cuts_41 (by decide) (fun hc18 => ?_) (fun hc18 => ?_)
      · have hw := hw.1 hc18
        refine lv_bipush (v := 20) C.1 C.2.1 dX12_cuts_57 (by decide) ?_
        exact m_iret C hW hS hw dX12_cuts_59
      · have hw := hw.2 hc18
        refine m_aldN C dX12_cuts_44 rfl h0 ?_
        refine lv_iload_n C.1 C.2.1 dX12_cuts_45 rfl h1 ?_
        refine lv_iload C.1 C.2.1 dX12_cuts_46 h7 ?_
        obtain ⟨hk19, hw⟩ := hw
        refine m_rI (m_runV (As := [.int l1, .int l7]) (rest := []) C hW hS hL (c_X12_number hw) v_X12_181 ⟨rfl, rfl⟩ ⟨Nat.le_of_ble_eq_true rfl, Nat.le_of_ble_eq_true rfl⟩ rfl hk19 rfl rfl (Nat.le_of_ble_eq_true rfl) dX12_cuts_48 ⟨Nat.le_of_ble_eq_true rfl, Nat.le_of_ble_eq_true rfl⟩) hS (fun r21 S20 H locs hw hW hS => ?_)
        refine lv_i2l (v := ((r21 : Int32).toInt64)) C.1 C.2.1 dX12_cuts_51 rfl ?_
        refine lv_lload_n C.1 C.2.1 dX12_cuts_52 rfl h3 ?_
        refine W.lcmp C.1 C.2.1 dX12_cuts_53 ?_
        refine lv_if_le (tgt := 60) C.1 C.2.1 dX12_cuts_54 (by decide) (fun hc22 => ?_) (fun hc22 => ?_)
        · have hw := hw.1 ((q_le _ _).mp hc22)
          refine m_iinc (v := (l7 + 1)) C hL dX12_cuts_60 h7 rfl (by decide) (fun ls hL hn9 hk9 => ?_)
          have h0 := hk9 0 _ h0 (by decide) (Or.inl (by decide))
          have h1 := hk9 1 _ h1 (by decide) (Or.inl (by decide))
          have h2 := hk9 2 _ h2 (by decide) (Or.inl (by decide))
          have h3 := hk9 3 _ h3 (by decide) (Or.inl (by decide))
          have h5 := hk9 5 _ h5 (by decide) (Or.inl (by decide))
          have h7 := hn9
          refine lv_goto (tgt := 27) C.1 C.2.1 dX12_cuts_63 (by decide) ?_
          exact ih S20 (l7 + 1) H locs ls hW hS hL h0 h1 h2 h3 h5 h7 hw
        · have hw := hw.2 (fun z => hc22 ((q_le _ _).mpr z))
          refine lv_bipush (v := 20) C.1 C.2.1 dX12_cuts_57 (by decide) ?_
          exact m_iret C hW hS hw dX12_cuts_59
set_option maxRecDepth 100000 in
set_option maxHeartbeats 4000000 in
theorem w_X12_cuts_L79 {p : Program} {l : Launch} {e : Env} {s : State} {m : MethodId} {args : Array Value} {below : List Frame} {meth : Method} {c : Code} {G : GX} {Q : Int32 → Hp → Prop} {K108 : Hp → Prop} {l0 : Nat} {l1 : Int32} {l2 : Int32} {l3 : Int64} {l5 : Int64} (C : Cx p s m args meth c cX12_cuts 11 RX12 (some .int) "cuts" G)
    (k108 : ∀ (S : Hp) (H : Heap) (locs : List Loc) (ls : Array Slot), wd G S H → va_S G.2.2.1 s.heap H locs → LV ls 11 → ls[0]? = some (.val (va_rf (some l0))) → ls[1]? = some (.val (.int l1)) → ls[2]? = some (.val (.int l2)) → ls[3]? = some (.val (.long l3)) → ls[5]? = some (.val (.long l5)) → K108 S → W p l e ({ frames := 1, cells := 0, slots := 0, locals := 22 } : Room) s m args below meth c H locs 0 0 (MQ below (QI G Q) args s 0 0 G.2.2.1) (F0 m 108 ls [])) :
    ∀ (n : Nat) (S : Hp) (l7 : Int32) (H : Heap) (locs : List Loc) (ls : Array Slot), wd G S H → va_S G.2.2.1 s.heap H locs → LV ls 11 → ls[0]? = some (.val (va_rf (some l0))) → ls[1]? = some (.val (.int l1)) → ls[2]? = some (.val (.int l2)) → ls[3]? = some (.val (.long l3)) → ls[5]? = some (.val (.long l5)) → ls[7]? = some (.val (.int l7)) → wp_X12_cuts_L79 l0 l1 l2 l3 l5 K108 Q n S l7 → W p l e ({ frames := 1, cells := 0, slots := 0, locals := 22 } : Room) s m args below meth c H locs 0 0 (MQ below (QI G Q) args s 0 0 G.2.2.1) (F0 m 79 ls []) := by
  intro n
  induction n with
  | zero =>
    intro S l7 H locs ls hW hS hL h0 h1 h2 h3 h5 h7 hw
    exact False.elim hw
  | succ n ih =>
    intro S l7 H locs ls hW hS hL h0 h1 h2 h3 h5 h7 hw
    unfold wp_X12_cuts_L79 at hw
    refine lv_iload C.1 C.2.1 dX12_cuts_79 h7 ?_
    refine lv_bipush (v := 30) C.1 C.2.1 dX12_cuts_81 (by decide) ?_
    refine lv_icmp_ge (tgt := 108) C.1 C.2.1 dX12_cuts_83 (by decide) (fun hc25 => ?_) (fun hc25 => ?_)
    · have hw := hw.1 hc25
      exact k108 S H locs ls hW hS hL h0 h1 h2 h3 h5 hw
    · have hw := hw.2 hc25
      refine m_aldN C dX12_cuts_86 rfl h0 ?_
      obtain ⟨hk26, hw⟩ := hw
      refine m_getR C hW rfl hk26 f_X12_106 rfl dX12_cuts_87 ?_
      refine lv_iload C.1 C.2.1 dX12_cuts_90 h7 ?_
      refine lv_iconst (v := 0) C.1 C.2.1 dX12_cuts_92 (by decide) ?_
      obtain ⟨b27, ho27, hw⟩ := hw
      obtain ⟨hk28, hw⟩ := hw
      obtain ⟨hi29, hw⟩ := hw
      refine m_zast C hW hS ho27 hk28 hi29 (by decide) dX12_cuts_93 (fun H locs hW hS => ?_)
      refine m_aldN C dX12_cuts_94 rfl h0 ?_
      refine m_getR C hW rfl hk26 f_X12_109 rfl dX12_cuts_95 ?_
      refine lv_iload C.1 C.2.1 dX12_cuts_98 h7 ?_
      refine lv_lconst (v := 0) C.1 C.2.1 dX12_cuts_100 (by decide) ?_
      obtain ⟨b30, ho30, hw⟩ := hw
      obtain ⟨hk31, hw⟩ := hw
      obtain ⟨hi32, hw⟩ := hw
      refine m_last C hW hS ho30 hk31 hi32 dX12_cuts_101 (fun H locs hW hS => ?_)
      refine m_iinc (v := (l7 + 1)) C hL dX12_cuts_102 h7 rfl (by decide) (fun ls hL hn9 hk9 => ?_)
      have h0 := hk9 0 _ h0 (by decide) (Or.inl (by decide))
      have h1 := hk9 1 _ h1 (by decide) (Or.inl (by decide))
      have h2 := hk9 2 _ h2 (by decide) (Or.inl (by decide))
      have h3 := hk9 3 _ h3 (by decide) (Or.inl (by decide))
      have h5 := hk9 5 _ h5 (by decide) (Or.inl (by decide))
      have h7 := hn9
      refine lv_goto (tgt := 79) C.1 C.2.1 dX12_cuts_105 (by decide) ?_
      exact ih (sJ (sI S b27 (l7 : Int32).toNatClampNeg 0) b30 (l7 : Int32).toNatClampNeg 0) (l7 + 1) H locs ls hW hS hL h0 h1 h2 h3 h5 h7 hw
set_option maxRecDepth 100000 in
set_option maxHeartbeats 4000000 in
theorem w_X12_cuts_L126 {p : Program} {l : Launch} {e : Env} {s : State} {m : MethodId} {args : Array Value} {below : List Frame} {meth : Method} {c : Code} {G : GX} {Q : Int32 → Hp → Prop} {K175 : Hp → Int32 → Prop} {l0 : Nat} {l1 : Int32} {l2 : Int32} {l3 : Int64} {l5 : Int64} {l7 : Int32} {l8 : Int32} (C : Cx p s m args meth c cX12_cuts 11 RX12 (some .int) "cuts" G)
    (k175 : ∀ (S : Hp) (l9 : Int32) (H : Heap) (locs : List Loc) (ls : Array Slot), wd G S H → va_S G.2.2.1 s.heap H locs → LV ls 11 → ls[0]? = some (.val (va_rf (some l0))) → ls[1]? = some (.val (.int l1)) → ls[2]? = some (.val (.int l2)) → ls[3]? = some (.val (.long l3)) → ls[5]? = some (.val (.long l5)) → ls[7]? = some (.val (.int l7)) → ls[8]? = some (.val (.int l8)) → ls[9]? = some (.val (.int l9)) → K175 S l9 → W p l e ({ frames := 1, cells := 0, slots := 0, locals := 22 } : Room) s m args below meth c H locs 0 0 (MQ below (QI G Q) args s 0 0 G.2.2.1) (F0 m 175 ls [])) :
    ∀ (n : Nat) (S : Hp) (l9 : Int32) (l10 : Int32) (H : Heap) (locs : List Loc) (ls : Array Slot), wd G S H → va_S G.2.2.1 s.heap H locs → LV ls 11 → ls[0]? = some (.val (va_rf (some l0))) → ls[1]? = some (.val (.int l1)) → ls[2]? = some (.val (.int l2)) → ls[3]? = some (.val (.long l3)) → ls[5]? = some (.val (.long l5)) → ls[7]? = some (.val (.int l7)) → ls[8]? = some (.val (.int l8)) → ls[9]? = some (.val (.int l9)) → ls[10]? = some (.val (.int l10)) → wp_X12_cuts_L126 l0 l1 l2 l3 l5 l7 l8 K175 Q n S l9 l10 → W p l e ({ frames := 1, cells := 0, slots := 0, locals := 22 } : Room) s m args below meth c H locs 0 0 (MQ below (QI G Q) args s 0 0 G.2.2.1) (F0 m 126 ls []) := by
  intro n
  induction n with
  | zero =>
    intro S l9 l10 H locs ls hW hS hL h0 h1 h2 h3 h5 h7 h8 h9 h10 hw
    exact False.elim hw
  | succ n ih =>
    intro S l9 l10 H locs ls hW hS hL h0 h1 h2 h3 h5 h7 h8 h9 h10 hw
    unfold wp_X12_cuts_L126 at hw
    refine lv_iload C.1 C.2.1 dX12_cuts_126 h10 ?_
    refine lv_iload_n C.1 C.2.1 dX12_cuts_128 rfl h2 ?_
    refine lv_icmp_ge (tgt := 175) C.1 C.2.1 dX12_cuts_129 (by decide) (fun hc36 => ?_) (fun hc36 => ?_)
    · have hw := hw.1 hc36
      exact k175 S l9 H locs ls hW hS hL h0 h1 h2 h3 h5 h7 h8 h9 hw
    · have hw := hw.2 hc36
      refine m_aldN C dX12_cuts_132 rfl h0 ?_
      obtain ⟨hk37, hw⟩ := hw
      refine m_getR C hW rfl hk37 f_X12_106 rfl dX12_cuts_133 ?_
      refine lv_iload C.1 C.2.1 dX12_cuts_136 h10 ?_
      obtain ⟨b38, ho38, hw⟩ := hw
      obtain ⟨hk39, hw⟩ := hw
      obtain ⟨hi40, hw⟩ := hw
      refine m_zald C hW ho38 hk39 hi40 dX12_cuts_138 ?_
      refine lv_if_ne (tgt := 169) C.1 C.2.1 dX12_cuts_139 (by decide) (fun hc41 => ?_) (fun hc41 => ?_)
      · have hw := hw.2 hc41
        refine m_iinc (v := (l10 + 1)) C hL dX12_cuts_169 h10 rfl (by decide) (fun ls hL hn9 hk9 => ?_)
        have h0 := hk9 0 _ h0 (by decide) (Or.inl (by decide))
        have h1 := hk9 1 _ h1 (by decide) (Or.inl (by decide))
        have h2 := hk9 2 _ h2 (by decide) (Or.inl (by decide))
        have h3 := hk9 3 _ h3 (by decide) (Or.inl (by decide))
        have h5 := hk9 5 _ h5 (by decide) (Or.inl (by decide))
        have h7 := hk9 7 _ h7 (by decide) (Or.inl (by decide))
        have h8 := hk9 8 _ h8 (by decide) (Or.inl (by decide))
        have h9 := hk9 9 _ h9 (by decide) (Or.inr (rfl))
        have h10 := hn9
        refine lv_goto (tgt := 126) C.1 C.2.1 dX12_cuts_172 (by decide) ?_
        exact ih S l9 (l10 + 1) H locs ls hW hS hL h0 h1 h2 h3 h5 h7 h8 h9 h10 hw
      · have hw := hw.1 hc41
        refine lv_iload C.1 C.2.1 dX12_cuts_142 h9 ?_
        refine lv_iconst (v := (-1)) C.1 C.2.1 dX12_cuts_144 (by decide) ?_
        refine lv_icmp_eq (tgt := 165) C.1 C.2.1 dX12_cuts_145 (by decide) (fun hc42 => ?_) (fun hc42 => ?_)
        · have hw := hw.1 hc42
          refine lv_iload C.1 C.2.1 dX12_cuts_165 h10 ?_
          refine m_ist C hL dX12_cuts_167 (by decide) (fun ls hL hn9 hk9 => ?_)
          have h0 := hk9 0 _ h0 (by decide) (Or.inl (by decide))
          have h1 := hk9 1 _ h1 (by decide) (Or.inl (by decide))
          have h2 := hk9 2 _ h2 (by decide) (Or.inl (by decide))
          have h3 := hk9 3 _ h3 (by decide) (Or.inl (by decide))
          have h5 := hk9 5 _ h5 (by decide) (Or.inl (by decide))
          have h7 := hk9 7 _ h7 (by decide) (Or.inl (by decide))
          have h8 := hk9 8 _ h8 (by decide) (Or.inr (rfl))
          have h10 := hk9 10 _ h10 (by decide) (Or.inl (by decide))
          have h9 := hn9
          refine m_iinc (v := (l10 + 1)) C hL dX12_cuts_169 h10 rfl (by decide) (fun ls hL hn9 hk9 => ?_)
          have h0 := hk9 0 _ h0 (by decide) (Or.inl (by decide))
          have h1 := hk9 1 _ h1 (by decide) (Or.inl (by decide))
          have h2 := hk9 2 _ h2 (by decide) (Or.inl (by decide))
          have h3 := hk9 3 _ h3 (by decide) (Or.inl (by decide))
          have h5 := hk9 5 _ h5 (by decide) (Or.inl (by decide))
          have h7 := hk9 7 _ h7 (by decide) (Or.inl (by decide))
          have h8 := hk9 8 _ h8 (by decide) (Or.inl (by decide))
          have h9 := hk9 9 _ h9 (by decide) (Or.inr (rfl))
          have h10 := hn9
          refine lv_goto (tgt := 126) C.1 C.2.1 dX12_cuts_172 (by decide) ?_
          exact ih S l10 (l10 + 1) H locs ls hW hS hL h0 h1 h2 h3 h5 h7 h8 h9 h10 hw
        · have hw := hw.2 hc42
          refine m_aldN C dX12_cuts_148 rfl h0 ?_
          refine lv_iload_n C.1 C.2.1 dX12_cuts_149 rfl h1 ?_
          refine lv_iload C.1 C.2.1 dX12_cuts_150 h10 ?_
          refine m_rI (m_runV (As := [.int l1, .int l10]) (rest := []) C hW hS hL (c_X12_number hw) v_X12_181 ⟨rfl, rfl⟩ ⟨Nat.le_of_ble_eq_true rfl, Nat.le_of_ble_eq_true rfl⟩ rfl hk37 rfl rfl (Nat.le_of_ble_eq_true rfl) dX12_cuts_152 ⟨Nat.le_of_ble_eq_true rfl, Nat.le_of_ble_eq_true rfl⟩) hS (fun r44 S43 H locs hw hW hS => ?_)
          refine m_aldN C dX12_cuts_155 rfl h0 ?_
          refine lv_iload_n C.1 C.2.1 dX12_cuts_156 rfl h1 ?_
          refine lv_iload C.1 C.2.1 dX12_cuts_157 h9 ?_
          obtain ⟨hk45, hw⟩ := hw
          refine m_rI (m_runV (As := [.int l1, .int l9]) (rest := [.int r44]) C hW hS hL (c_X12_number hw) v_X12_181 ⟨rfl, rfl⟩ ⟨Nat.le_of_ble_eq_true rfl, Nat.le_of_ble_eq_true rfl⟩ rfl hk45 rfl rfl (Nat.le_of_ble_eq_true rfl) dX12_cuts_159 ⟨Nat.le_of_ble_eq_true rfl, Nat.le_of_ble_eq_true rfl⟩) hS (fun r47 S46 H locs hw hW hS => ?_)
          refine lv_icmp_le (tgt := 169) C.1 C.2.1 dX12_cuts_162 (by decide) (fun hc48 => ?_) (fun hc48 => ?_)
          · have hw := hw.1 hc48
            refine m_iinc (v := (l10 + 1)) C hL dX12_cuts_169 h10 rfl (by decide) (fun ls hL hn9 hk9 => ?_)
            have h0 := hk9 0 _ h0 (by decide) (Or.inl (by decide))
            have h1 := hk9 1 _ h1 (by decide) (Or.inl (by decide))
            have h2 := hk9 2 _ h2 (by decide) (Or.inl (by decide))
            have h3 := hk9 3 _ h3 (by decide) (Or.inl (by decide))
            have h5 := hk9 5 _ h5 (by decide) (Or.inl (by decide))
            have h7 := hk9 7 _ h7 (by decide) (Or.inl (by decide))
            have h8 := hk9 8 _ h8 (by decide) (Or.inl (by decide))
            have h9 := hk9 9 _ h9 (by decide) (Or.inr (rfl))
            have h10 := hn9
            refine lv_goto (tgt := 126) C.1 C.2.1 dX12_cuts_172 (by decide) ?_
            exact ih S46 l9 (l10 + 1) H locs ls hW hS hL h0 h1 h2 h3 h5 h7 h8 h9 h10 hw
          · have hw := hw.2 hc48
            refine lv_iload C.1 C.2.1 dX12_cuts_165 h10 ?_
            refine m_ist C hL dX12_cuts_167 (by decide) (fun ls hL hn9 hk9 => ?_)
            have h0 := hk9 0 _ h0 (by decide) (Or.inl (by decide))
            have h1 := hk9 1 _ h1 (by decide) (Or.inl (by decide))
            have h2 := hk9 2 _ h2 (by decide) (Or.inl (by decide))
            have h3 := hk9 3 _ h3 (by decide) (Or.inl (by decide))
            have h5 := hk9 5 _ h5 (by decide) (Or.inl (by decide))
            have h7 := hk9 7 _ h7 (by decide) (Or.inl (by decide))
            have h8 := hk9 8 _ h8 (by decide) (Or.inr (rfl))
            have h10 := hk9 10 _ h10 (by decide) (Or.inl (by decide))
            have h9 := hn9
            refine m_iinc (v := (l10 + 1)) C hL dX12_cuts_169 h10 rfl (by decide) (fun ls hL hn9 hk9 => ?_)
            have h0 := hk9 0 _ h0 (by decide) (Or.inl (by decide))
            have h1 := hk9 1 _ h1 (by decide) (Or.inl (by decide))
            have h2 := hk9 2 _ h2 (by decide) (Or.inl (by decide))
            have h3 := hk9 3 _ h3 (by decide) (Or.inl (by decide))
            have h5 := hk9 5 _ h5 (by decide) (Or.inl (by decide))
            have h7 := hk9 7 _ h7 (by decide) (Or.inl (by decide))
            have h8 := hk9 8 _ h8 (by decide) (Or.inl (by decide))
            have h9 := hk9 9 _ h9 (by decide) (Or.inr (rfl))
            have h10 := hn9
            refine lv_goto (tgt := 126) C.1 C.2.1 dX12_cuts_172 (by decide) ?_
            exact ih S46 l10 (l10 + 1) H locs ls hW hS hL h0 h1 h2 h3 h5 h7 h8 h9 h10 hw
set_option maxRecDepth 100000 in
set_option maxHeartbeats 4000000 in
theorem w_X12_cuts_L186 {p : Program} {l : Launch} {e : Env} {s : State} {m : MethodId} {args : Array Value} {below : List Frame} {meth : Method} {c : Code} {G : GX} {Q : Int32 → Hp → Prop} {K223 : Hp → Int32 → Prop} {l0 : Nat} {l1 : Int32} {l2 : Int32} {l3 : Int64} {l5 : Int64} {l7 : Int32} {l8 : Int32} {l9 : Int32} (C : Cx p s m args meth c cX12_cuts 11 RX12 (some .int) "cuts" G)
    (k223 : ∀ (S : Hp) (l10 : Int32) (H : Heap) (locs : List Loc) (ls : Array Slot), wd G S H → va_S G.2.2.1 s.heap H locs → LV ls 11 → ls[0]? = some (.val (va_rf (some l0))) → ls[1]? = some (.val (.int l1)) → ls[2]? = some (.val (.int l2)) → ls[3]? = some (.val (.long l3)) → ls[5]? = some (.val (.long l5)) → ls[7]? = some (.val (.int l7)) → ls[8]? = some (.val (.int l8)) → ls[9]? = some (.val (.int l9)) → ls[10]? = some (.val (.int l10)) → K223 S l10 → W p l e ({ frames := 1, cells := 0, slots := 0, locals := 22 } : Room) s m args below meth c H locs 0 0 (MQ below (QI G Q) args s 0 0 G.2.2.1) (F0 m 223 ls [])) :
    ∀ (n : Nat) (S : Hp) (l10 : Int32) (H : Heap) (locs : List Loc) (ls : Array Slot), wd G S H → va_S G.2.2.1 s.heap H locs → LV ls 11 → ls[0]? = some (.val (va_rf (some l0))) → ls[1]? = some (.val (.int l1)) → ls[2]? = some (.val (.int l2)) → ls[3]? = some (.val (.long l3)) → ls[5]? = some (.val (.long l5)) → ls[7]? = some (.val (.int l7)) → ls[8]? = some (.val (.int l8)) → ls[9]? = some (.val (.int l9)) → ls[10]? = some (.val (.int l10)) → wp_X12_cuts_L186 l0 l1 l2 l3 l5 l7 l8 l9 K223 Q n S l10 → W p l e ({ frames := 1, cells := 0, slots := 0, locals := 22 } : Room) s m args below meth c H locs 0 0 (MQ below (QI G Q) args s 0 0 G.2.2.1) (F0 m 186 ls []) := by
  intro n
  induction n with
  | zero =>
    intro S l10 H locs ls hW hS hL h0 h1 h2 h3 h5 h7 h8 h9 h10 hw
    exact False.elim hw
  | succ n ih =>
    intro S l10 H locs ls hW hS hL h0 h1 h2 h3 h5 h7 h8 h9 h10 hw
    unfold wp_X12_cuts_L186 at hw
    refine lv_iload C.1 C.2.1 dX12_cuts_186 h10 ?_
    refine lv_iload C.1 C.2.1 dX12_cuts_188 h7 ?_
    refine lv_icmp_ge (tgt := 223) C.1 C.2.1 dX12_cuts_190 (by decide) (fun hc55 => ?_) (fun hc55 => ?_)
    · have hw := hw.1 hc55
      exact k223 S l10 H locs ls hW hS hL h0 h1 h2 h3 h5 h7 h8 h9 h10 hw
    · have hw := hw.2 hc55
      refine m_aldN C dX12_cuts_193 rfl h0 ?_
      obtain ⟨hk56, hw⟩ := hw
      refine m_getR C hW rfl hk56 f_X12_109 rfl dX12_cuts_194 ?_
      refine lv_iload C.1 C.2.1 dX12_cuts_197 h10 ?_
      obtain ⟨b57, ho57, hw⟩ := hw
      obtain ⟨hk58, hw⟩ := hw
      obtain ⟨hi59, hw⟩ := hw
      refine m_lald C hW ho57 hk58 hi59 dX12_cuts_199 ?_
      refine lv_lload C.1 C.2.1 dX12_cuts_200 h5 ?_
      refine lv_ladd C.1 C.2.1 dX12_cuts_202 ?_
      refine m_aldN C dX12_cuts_203 rfl h0 ?_
      refine lv_iload_n C.1 C.2.1 dX12_cuts_204 rfl h1 ?_
      refine lv_iload C.1 C.2.1 dX12_cuts_205 h9 ?_
      refine m_rI (m_runV (As := [.int l1, .int l9]) (rest := [.long ((hJ S b57 (l10 : Int32).toNatClampNeg) + l5)]) C hW hS hL (c_X12_number hw) v_X12_181 ⟨rfl, rfl⟩ ⟨Nat.le_of_ble_eq_true rfl, Nat.le_of_ble_eq_true rfl⟩ rfl hk56 rfl rfl (Nat.le_of_ble_eq_true rfl) dX12_cuts_207 ⟨Nat.le_of_ble_eq_true rfl, Nat.le_of_ble_eq_true rfl⟩) hS (fun r61 S60 H locs hw hW hS => ?_)
      refine lv_i2l (v := ((r61 : Int32).toInt64)) C.1 C.2.1 dX12_cuts_210 rfl ?_
      refine lv_ladd C.1 C.2.1 dX12_cuts_211 ?_
      refine lv_lload_n C.1 C.2.1 dX12_cuts_212 rfl h3 ?_
      refine W.lcmp C.1 C.2.1 dX12_cuts_213 ?_
      refine lv_if_le (tgt := 223) C.1 C.2.1 dX12_cuts_214 (by decide) (fun hc62 => ?_) (fun hc62 => ?_)
      · have hw := hw.1 ((q_le _ _).mp hc62)
        exact k223 S60 l10 H locs ls hW hS hL h0 h1 h2 h3 h5 h7 h8 h9 h10 hw
      · have hw := hw.2 (fun z => hc62 ((q_le _ _).mpr z))
        refine m_iinc (v := (l10 + 1)) C hL dX12_cuts_217 h10 rfl (by decide) (fun ls hL hn9 hk9 => ?_)
        have h0 := hk9 0 _ h0 (by decide) (Or.inl (by decide))
        have h1 := hk9 1 _ h1 (by decide) (Or.inl (by decide))
        have h2 := hk9 2 _ h2 (by decide) (Or.inl (by decide))
        have h3 := hk9 3 _ h3 (by decide) (Or.inl (by decide))
        have h5 := hk9 5 _ h5 (by decide) (Or.inl (by decide))
        have h7 := hk9 7 _ h7 (by decide) (Or.inl (by decide))
        have h8 := hk9 8 _ h8 (by decide) (Or.inl (by decide))
        have h9 := hk9 9 _ h9 (by decide) (Or.inr (rfl))
        have h10 := hn9
        refine lv_goto (tgt := 186) C.1 C.2.1 dX12_cuts_220 (by decide) ?_
        exact ih S60 (l10 + 1) H locs ls hW hS hL h0 h1 h2 h3 h5 h7 h8 h9 h10 hw
set_option maxRecDepth 100000 in
set_option maxHeartbeats 4000000 in
theorem w_X12_cuts_L114 {p : Program} {l : Launch} {e : Env} {s : State} {m : MethodId} {args : Array Value} {below : List Frame} {meth : Method} {c : Code} {G : GX} {Q : Int32 → Hp → Prop} {l0 : Nat} {l1 : Int32} {l2 : Int32} {l3 : Int64} {l5 : Int64} (C : Cx p s m args meth c cX12_cuts 11 RX12 (some .int) "cuts" G) :
    ∀ (n : Nat) (S : Hp) (l7 : Int32) (l8 : Int32) (H : Heap) (locs : List Loc) (ls : Array Slot), wd G S H → va_S G.2.2.1 s.heap H locs → LV ls 11 → ls[0]? = some (.val (va_rf (some l0))) → ls[1]? = some (.val (.int l1)) → ls[2]? = some (.val (.int l2)) → ls[3]? = some (.val (.long l3)) → ls[5]? = some (.val (.long l5)) → ls[7]? = some (.val (.int l7)) → ls[8]? = some (.val (.int l8)) → wp_X12_cuts_L114 l0 l1 l2 l3 l5 Q n S l7 l8 → W p l e ({ frames := 1, cells := 0, slots := 0, locals := 22 } : Room) s m args below meth c H locs 0 0 (MQ below (QI G Q) args s 0 0 G.2.2.1) (F0 m 114 ls []) := by
  intro n
  induction n with
  | zero =>
    intro S l7 l8 H locs ls hW hS hL h0 h1 h2 h3 h5 h7 h8 hw
    exact False.elim hw
  | succ n ih =>
    intro S l7 l8 H locs ls hW hS hL h0 h1 h2 h3 h5 h7 h8 hw
    unfold wp_X12_cuts_L114 at hw
    refine lv_iload C.1 C.2.1 dX12_cuts_114 h8 ?_
    refine lv_iload_n C.1 C.2.1 dX12_cuts_116 rfl h2 ?_
    refine lv_icmp_ge (tgt := 281) C.1 C.2.1 dX12_cuts_117 (by decide) (fun hc34 => ?_) (fun hc34 => ?_)
    · have hw := hw.1 hc34
      refine m_aldN C dX12_cuts_281 rfl h0 ?_
      refine lv_iload C.1 C.2.1 dX12_cuts_282 h7 ?_
      obtain ⟨hk35, hw⟩ := hw
      refine m_putI C hW hS rfl hk35 p_X12_163 (fun z => by cases z) rfl dX12_cuts_284 (fun H locs hW hS => ?_)
      refine lv_iconst (v := 0) C.1 C.2.1 dX12_cuts_287 (by decide) ?_
      exact m_iret C hW hS hw dX12_cuts_288
    · have hw := hw.2 hc34
      refine lv_iconst (v := (-1)) C.1 C.2.1 dX12_cuts_120 (by decide) ?_
      refine m_ist C hL dX12_cuts_121 (by decide) (fun ls hL hn9 hk9 => ?_)
      have h0 := hk9 0 _ h0 (by decide) (Or.inl (by decide))
      have h1 := hk9 1 _ h1 (by decide) (Or.inl (by decide))
      have h2 := hk9 2 _ h2 (by decide) (Or.inl (by decide))
      have h3 := hk9 3 _ h3 (by decide) (Or.inl (by decide))
      have h5 := hk9 5 _ h5 (by decide) (Or.inl (by decide))
      have h7 := hk9 7 _ h7 (by decide) (Or.inl (by decide))
      have h8 := hk9 8 _ h8 (by decide) (Or.inr (rfl))
      have h9 := hn9
      refine lv_iconst (v := 0) C.1 C.2.1 dX12_cuts_123 (by decide) ?_
      refine m_ist C hL dX12_cuts_124 (by decide) (fun ls hL hn9 hk9 => ?_)
      have h0 := hk9 0 _ h0 (by decide) (Or.inl (by decide))
      have h1 := hk9 1 _ h1 (by decide) (Or.inl (by decide))
      have h2 := hk9 2 _ h2 (by decide) (Or.inl (by decide))
      have h3 := hk9 3 _ h3 (by decide) (Or.inl (by decide))
      have h5 := hk9 5 _ h5 (by decide) (Or.inl (by decide))
      have h7 := hk9 7 _ h7 (by decide) (Or.inl (by decide))
      have h8 := hk9 8 _ h8 (by decide) (Or.inl (by decide))
      have h9 := hk9 9 _ h9 (by decide) (Or.inr (rfl))
      have h10 := hn9
      refine w_X12_cuts_L126 C ?_ FU S (-1) 0 H locs ls hW hS hL h0 h1 h2 h3 h5 h7 h8 h9 h10 hw
      · intro S49 x50 H locs ls hW hS hL h0 h1 h2 h3 h5 h7 h8 h9 hw
        refine m_aldN C dX12_cuts_175 rfl h0 ?_
        obtain ⟨hk51, hw⟩ := hw
        refine m_getR C hW rfl hk51 f_X12_106 rfl dX12_cuts_176 ?_
        refine lv_iload C.1 C.2.1 dX12_cuts_179 h9 ?_
        refine lv_iconst (v := 1) C.1 C.2.1 dX12_cuts_181 (by decide) ?_
        obtain ⟨b52, ho52, hw⟩ := hw
        obtain ⟨hk53, hw⟩ := hw
        obtain ⟨hi54, hw⟩ := hw
        refine m_zast C hW hS ho52 hk53 hi54 (by decide) dX12_cuts_182 (fun H locs hW hS => ?_)
        refine lv_iconst (v := 0) C.1 C.2.1 dX12_cuts_183 (by decide) ?_
        refine m_ist C hL dX12_cuts_184 (by decide) (fun ls hL hn9 hk9 => ?_)
        have h0 := hk9 0 _ h0 (by decide) (Or.inl (by decide))
        have h1 := hk9 1 _ h1 (by decide) (Or.inl (by decide))
        have h2 := hk9 2 _ h2 (by decide) (Or.inl (by decide))
        have h3 := hk9 3 _ h3 (by decide) (Or.inl (by decide))
        have h5 := hk9 5 _ h5 (by decide) (Or.inl (by decide))
        have h7 := hk9 7 _ h7 (by decide) (Or.inl (by decide))
        have h8 := hk9 8 _ h8 (by decide) (Or.inl (by decide))
        have h9 := hk9 9 _ h9 (by decide) (Or.inr (rfl))
        have h10 := hn9
        refine w_X12_cuts_L186 C ?_ FU (sI S49 b52 (x50 : Int32).toNatClampNeg 1) 0 H locs ls hW hS hL h0 h1 h2 h3 h5 h7 h8 h9 h10 hw
        · intro S63 x64 H locs ls hW hS hL h0 h1 h2 h3 h5 h7 h8 h9 h10 hw
          refine m_aldN C dX12_cuts_223 rfl h0 ?_
          obtain ⟨hk65, hw⟩ := hw
          refine m_getR C hW rfl hk65 f_X12_109 rfl dX12_cuts_224 ?_
          refine lv_iload C.1 C.2.1 dX12_cuts_227 h10 ?_
          refine lv_dup2_11 C.1 C.2.1 dX12_cuts_229 (rfl) (va_rf_cat _) ?_
          obtain ⟨b66, ho66, hw⟩ := hw
          obtain ⟨hk67, hw⟩ := hw
          obtain ⟨hi68, hw⟩ := hw
          refine m_lald C hW ho66 hk67 hi68 dX12_cuts_230 ?_
          refine m_aldN C dX12_cuts_231 rfl h0 ?_
          refine lv_iload_n C.1 C.2.1 dX12_cuts_232 rfl h1 ?_
          refine lv_iload C.1 C.2.1 dX12_cuts_233 h9 ?_
          refine m_rI (m_runV (As := [.int l1, .int x50]) (rest := [.long (hJ S63 b66 (x64 : Int32).toNatClampNeg), .int x64, va_rf (hR S63 l0 43)]) C hW hS hL (c_X12_number hw) v_X12_181 ⟨rfl, rfl⟩ ⟨Nat.le_of_ble_eq_true rfl, Nat.le_of_ble_eq_true rfl⟩ rfl hk65 rfl rfl (by simp only [List.map_cons, List.map_nil, va_rf_cat, List.sum_cons, List.sum_nil] <;> exact Nat.le_of_ble_eq_true rfl) dX12_cuts_235 ⟨Nat.le_of_ble_eq_true rfl, Nat.le_of_ble_eq_true rfl⟩) hS (fun r70 S69 H locs hw hW hS => ?_)
          refine lv_i2l (v := ((r70 : Int32).toInt64)) C.1 C.2.1 dX12_cuts_238 rfl ?_
          refine lv_iload C.1 C.2.1 dX12_cuts_239 h10 ?_
          refine lv_iload C.1 C.2.1 dX12_cuts_241 h7 ?_
          obtain ⟨J72, eJ72, hw⟩ := hw
          have wJ72 : ∀ (o73 : Option Nat) (x74 : Int32) (z75 : Int64) (z76 : Int64) (z77 : Int64) (ls : Array Slot), LV ls 11 → ls[0]? = some (.val (va_rf (some l0))) → ls[1]? = some (.val (.int l1)) → ls[2]? = some (.val (.int l2)) → ls[3]? = some (.val (.long l3)) → ls[5]? = some (.val (.long l5)) → ls[7]? = some (.val (.int l7)) → ls[8]? = some (.val (.int l8)) → ls[9]? = some (.val (.int x50)) → ls[10]? = some (.val (.int x64)) → J72 o73 x74 z75 z76 z77 → W p l e ({ frames := 1, cells := 0, slots := 0, locals := 22 } : Room) s m args below meth c H locs 0 0 (MQ below (QI G Q) args s 0 0 G.2.2.1) (F0 m 252 ls [.long z77, .long z76, .long z75, .int x74, va_rf o73]) := by
            intro o73 x74 z75 z76 z77 ls hL h0 h1 h2 h3 h5 h7 h8 h9 h10 hw
            rw [eJ72] at hw
            refine lv_ladd C.1 C.2.1 dX12_cuts_252 ?_
            refine lv_ladd C.1 C.2.1 dX12_cuts_253 ?_
            obtain ⟨b78, ho78, hw⟩ := hw
            obtain ⟨hk79, hw⟩ := hw
            obtain ⟨hi80, hw⟩ := hw
            refine m_last C hW hS ho78 hk79 hi80 dX12_cuts_254 (fun H locs hW hS => ?_)
            refine lv_iload C.1 C.2.1 dX12_cuts_255 h10 ?_
            refine lv_iload C.1 C.2.1 dX12_cuts_257 h7 ?_
            refine lv_icmp_ne (tgt := 265) C.1 C.2.1 dX12_cuts_259 (by decide) (fun hc81 => ?_) (fun hc81 => ?_)
            · have hw := hw.2 hc81
              refine m_aldN C dX12_cuts_265 rfl h0 ?_
              obtain ⟨hk82, hw⟩ := hw
              refine m_getR C hW rfl hk82 f_X12_103 rfl dX12_cuts_266 ?_
              refine lv_iload C.1 C.2.1 dX12_cuts_269 h9 ?_
              refine lv_iload C.1 C.2.1 dX12_cuts_271 h10 ?_
              refine lv_i2l (v := ((x64 : Int32).toInt64)) C.1 C.2.1 dX12_cuts_273 rfl ?_
              obtain ⟨b83, ho83, hw⟩ := hw
              obtain ⟨hk84, hw⟩ := hw
              obtain ⟨hi85, hw⟩ := hw
              refine m_last C hW hS ho83 hk84 hi85 dX12_cuts_274 (fun H locs hW hS => ?_)
              refine m_iinc (v := (l8 + 1)) C hL dX12_cuts_275 h8 rfl (by decide) (fun ls hL hn9 hk9 => ?_)
              have h0 := hk9 0 _ h0 (by decide) (Or.inl (by decide))
              have h1 := hk9 1 _ h1 (by decide) (Or.inl (by decide))
              have h2 := hk9 2 _ h2 (by decide) (Or.inl (by decide))
              have h3 := hk9 3 _ h3 (by decide) (Or.inl (by decide))
              have h5 := hk9 5 _ h5 (by decide) (Or.inl (by decide))
              have h7 := hk9 7 _ h7 (by decide) (Or.inr (rfl))
              have h8 := hn9
              refine lv_goto (tgt := 114) C.1 C.2.1 dX12_cuts_278 (by decide) ?_
              exact ih (sJ (sJ S69 b78 (x74 : Int32).toNatClampNeg (z75 + (z76 + z77))) b83 (x50 : Int32).toNatClampNeg ((x64 : Int32).toInt64)) l7 (l8 + 1) H locs ls hW hS hL h0 h1 h2 h3 h5 h7 h8 hw
            · have hw := hw.1 hc81
              refine m_iinc (v := (l7 + 1)) C hL dX12_cuts_262 h7 rfl (by decide) (fun ls hL hn9 hk9 => ?_)
              have h0 := hk9 0 _ h0 (by decide) (Or.inl (by decide))
              have h1 := hk9 1 _ h1 (by decide) (Or.inl (by decide))
              have h2 := hk9 2 _ h2 (by decide) (Or.inl (by decide))
              have h3 := hk9 3 _ h3 (by decide) (Or.inl (by decide))
              have h5 := hk9 5 _ h5 (by decide) (Or.inl (by decide))
              have h8 := hk9 8 _ h8 (by decide) (Or.inl (by decide))
              have h9 := hk9 9 _ h9 (by decide) (Or.inl (by decide))
              have h10 := hk9 10 _ h10 (by decide) (Or.inl (by decide))
              have h7 := hn9
              refine m_aldN C dX12_cuts_265 rfl h0 ?_
              obtain ⟨hk86, hw⟩ := hw
              refine m_getR C hW rfl hk86 f_X12_103 rfl dX12_cuts_266 ?_
              refine lv_iload C.1 C.2.1 dX12_cuts_269 h9 ?_
              refine lv_iload C.1 C.2.1 dX12_cuts_271 h10 ?_
              refine lv_i2l (v := ((x64 : Int32).toInt64)) C.1 C.2.1 dX12_cuts_273 rfl ?_
              obtain ⟨b87, ho87, hw⟩ := hw
              obtain ⟨hk88, hw⟩ := hw
              obtain ⟨hi89, hw⟩ := hw
              refine m_last C hW hS ho87 hk88 hi89 dX12_cuts_274 (fun H locs hW hS => ?_)
              refine m_iinc (v := (l8 + 1)) C hL dX12_cuts_275 h8 rfl (by decide) (fun ls hL hn9 hk9 => ?_)
              have h0 := hk9 0 _ h0 (by decide) (Or.inl (by decide))
              have h1 := hk9 1 _ h1 (by decide) (Or.inl (by decide))
              have h2 := hk9 2 _ h2 (by decide) (Or.inl (by decide))
              have h3 := hk9 3 _ h3 (by decide) (Or.inl (by decide))
              have h5 := hk9 5 _ h5 (by decide) (Or.inl (by decide))
              have h7 := hk9 7 _ h7 (by decide) (Or.inr (rfl))
              have h8 := hn9
              refine lv_goto (tgt := 114) C.1 C.2.1 dX12_cuts_278 (by decide) ?_
              exact ih (sJ (sJ S69 b78 (x74 : Int32).toNatClampNeg (z75 + (z76 + z77))) b87 (x50 : Int32).toNatClampNeg ((x64 : Int32).toInt64)) (l7 + 1) (l8 + 1) H locs ls hW hS hL h0 h1 h2 h3 h5 h7 h8 hw
          refine lv_icmp_ne (tgt := 250) C.1 C.2.1 dX12_cuts_243 (by decide) (fun hc71 => ?_) (fun hc71 => ?_)
          · have hw := hw.2 hc71
            refine lv_lload C.1 C.2.1 dX12_cuts_250 h5 ?_
            exact wJ72 (hR S63 l0 43) x64 (hJ S63 b66 (x64 : Int32).toNatClampNeg) ((r70 : Int32).toInt64) l5 ls hL h0 h1 h2 h3 h5 h7 h8 h9 h10 hw
          · have hw := hw.1 hc71
            refine lv_lconst (v := 0) C.1 C.2.1 dX12_cuts_246 (by decide) ?_
            refine lv_goto (tgt := 252) C.1 C.2.1 dX12_cuts_247 (by decide) ?_
            exact wJ72 (hR S63 l0 43) x64 (hJ S63 b66 (x64 : Int32).toNatClampNeg) ((r70 : Int32).toInt64) 0 ls hL h0 h1 h2 h3 h5 h7 h8 h9 h10 hw
set_option maxRecDepth 100000 in
set_option maxHeartbeats 4000000 in
theorem c_X12_cuts {l : Launch} {G : GX} {S : Hp} {a0 : Nat} {a1 : Int32} {Q : Int32 → Hp → Prop} (hw : wp_X12_cuts S a0 a1 Q) : Met l yX12_cuts (Cond.code yX12_cuts cX12_cuts 11 (some .int) :: TS) { frames := 1, cells := 0, slots := 0, locals := 22 } (Pk G S [va_rf (some a0), .int a1]) (QI G Q) 0 0 G.2.2.1 := by
  refine m_met (by decide) ?_
  intro p e s m below meth c H locs C hW hS
  have C : Cx p s m ([va_rf (some a0), .int a1] : List Value).toArray meth c cX12_cuts 11 RX12 (some .int) "cuts" G := C
  obtain ⟨ls, hent, hL, hla⟩ := m_entry m (vs := [va_rf (some a0), .int a1]) (nn := 11) [1, 1] rfl (by decide)
  rw [hent]
  have h0 : ls[0]? = some (.val (va_rf (some a0))) := hla (0, va_rf (some a0)) (List.mem_of_getElem? (i := 0) rfl)
  have h1 : ls[1]? = some (.val (.int a1)) := hla (1, .int a1) (List.mem_of_getElem? (i := 1) rfl)
  clear hla
  generalize ([va_rf (some a0), .int a1] : List Value).toArray = args at C ⊢
  unfold wp_X12_cuts at hw
  refine m_aldN C dX12_cuts_0 rfl h0 ?_
  obtain ⟨hk1, hw⟩ := hw
  refine m_getR C hW rfl hk1 f_X12_54 rfl dX12_cuts_1 ?_
  refine lv_iload_n C.1 C.2.1 dX12_cuts_4 rfl h1 ?_
  obtain ⟨b2, ho2, hw⟩ := hw
  obtain ⟨hk3, hw⟩ := hw
  obtain ⟨hi4, hw⟩ := hw
  refine m_iald C hW ho2 hk3 hi4 dX12_cuts_5 ?_
  refine lv_topi (fun x5 ex5 => ?_)
  have hw := hw x5 ex5
  refine m_istN C hL dX12_cuts_6 rfl (by decide) (fun ls hL hn9 hk9 => ?_)
  have h0 := hk9 0 _ h0 (by decide) (Or.inl (by decide))
  have h1 := hk9 1 _ h1 (by decide) (Or.inr (rfl))
  have h2 := hn9
  refine m_aldN C dX12_cuts_7 rfl h0 ?_
  refine m_getR C hW rfl hk1 f_X12_45 rfl dX12_cuts_8 ?_
  refine lv_iload_n C.1 C.2.1 dX12_cuts_11 rfl h1 ?_
  obtain ⟨b6, ho6, hw⟩ := hw
  obtain ⟨hk7, hw⟩ := hw
  obtain ⟨hi8, hw⟩ := hw
  refine m_iald C hW ho6 hk7 hi8 dX12_cuts_12 ?_
  refine lv_i2l (v := (((hI S b6 (a1 : Int32).toNatClampNeg) : Int32).toInt64)) C.1 C.2.1 dX12_cuts_13 rfl ?_
  refine lv_topl (fun z9 ez9 => ?_)
  have hw := hw z9 ez9
  refine m_lstN C hL dX12_cuts_14 rfl (by decide) (fun ls hL hn9 hk9 => ?_)
  have h0 := hk9 0 _ h0 (by decide) (by decide) (Or.inl (by decide))
  have h1 := hk9 1 _ h1 (by decide) (by decide) (Or.inl (by decide))
  have h2 := hk9 2 _ h2 (by decide) (by decide) (Or.inr (rfl))
  have h3 := hn9
  refine m_aldN C dX12_cuts_15 rfl h0 ?_
  refine m_getR C hW rfl hk1 f_X12_48 rfl dX12_cuts_16 ?_
  refine lv_iload_n C.1 C.2.1 dX12_cuts_19 rfl h1 ?_
  obtain ⟨b10, ho10, hw⟩ := hw
  obtain ⟨hk11, hw⟩ := hw
  obtain ⟨hi12, hw⟩ := hw
  refine m_iald C hW ho10 hk11 hi12 dX12_cuts_20 ?_
  refine lv_i2l (v := (((hI S b10 (a1 : Int32).toNatClampNeg) : Int32).toInt64)) C.1 C.2.1 dX12_cuts_21 rfl ?_
  refine lv_topl (fun z13 ez13 => ?_)
  have hw := hw z13 ez13
  refine m_lst C hL dX12_cuts_22 (by decide) (fun ls hL hn9 hk9 => ?_)
  have h0 := hk9 0 _ h0 (by decide) (by decide) (Or.inl (by decide))
  have h1 := hk9 1 _ h1 (by decide) (by decide) (Or.inl (by decide))
  have h2 := hk9 2 _ h2 (by decide) (by decide) (Or.inl (by decide))
  have h3 := hk9 3 _ h3 (by decide) (by decide) (Or.inl (by decide))
  have h5 := hn9
  refine lv_iconst (v := 0) C.1 C.2.1 dX12_cuts_24 (by decide) ?_
  refine m_ist C hL dX12_cuts_25 (by decide) (fun ls hL hn9 hk9 => ?_)
  have h0 := hk9 0 _ h0 (by decide) (Or.inl (by decide))
  have h1 := hk9 1 _ h1 (by decide) (Or.inl (by decide))
  have h2 := hk9 2 _ h2 (by decide) (Or.inl (by decide))
  have h3 := hk9 3 _ h3 (by decide) (Or.inl (by decide))
  have h5 := hk9 5 _ h5 (by decide) (Or.inl (by decide))
  have h7 := hn9
  refine w_X12_cuts_L27 C ?_ FU S 0 H locs ls hW hS hL h0 h1 h2 h3 h5 h7 hw
  · intro S23 H locs ls hW hS hL h0 h1 h2 h3 h5 hw
    refine lv_lload C.1 C.2.1 dX12_cuts_66 h5 ?_
    refine lv_lconst (v := 0) C.1 C.2.1 dX12_cuts_68 (by decide) ?_
    refine W.lcmp C.1 C.2.1 dX12_cuts_69 ?_
    refine lv_if_ge (tgt := 76) C.1 C.2.1 dX12_cuts_70 (by decide) (fun hc24 => ?_) (fun hc24 => ?_)
    · have hw := hw.1 ((q_ge _ _).mp hc24)
      refine lv_iconst (v := 0) C.1 C.2.1 dX12_cuts_76 (by decide) ?_
      refine m_ist C hL dX12_cuts_77 (by decide) (fun ls hL hn9 hk9 => ?_)
      have h0 := hk9 0 _ h0 (by decide) (Or.inl (by decide))
      have h1 := hk9 1 _ h1 (by decide) (Or.inl (by decide))
      have h2 := hk9 2 _ h2 (by decide) (Or.inl (by decide))
      have h3 := hk9 3 _ h3 (by decide) (Or.inl (by decide))
      have h5 := hk9 5 _ h5 (by decide) (Or.inl (by decide))
      have h7 := hn9
      refine w_X12_cuts_L79 C ?_ FU S23 0 H locs ls hW hS hL h0 h1 h2 h3 h5 h7 hw
      · intro S33 H locs ls hW hS hL h0 h1 h2 h3 h5 hw
        refine lv_iconst (v := 0) C.1 C.2.1 dX12_cuts_108 (by decide) ?_
        refine m_ist C hL dX12_cuts_109 (by decide) (fun ls hL hn9 hk9 => ?_)
        have h0 := hk9 0 _ h0 (by decide) (Or.inl (by decide))
        have h1 := hk9 1 _ h1 (by decide) (Or.inl (by decide))
        have h2 := hk9 2 _ h2 (by decide) (Or.inl (by decide))
        have h3 := hk9 3 _ h3 (by decide) (Or.inl (by decide))
        have h5 := hk9 5 _ h5 (by decide) (Or.inl (by decide))
        have h7 := hn9
        refine lv_iconst (v := 0) C.1 C.2.1 dX12_cuts_111 (by decide) ?_
        refine m_ist C hL dX12_cuts_112 (by decide) (fun ls hL hn9 hk9 => ?_)
        have h0 := hk9 0 _ h0 (by decide) (Or.inl (by decide))
        have h1 := hk9 1 _ h1 (by decide) (Or.inl (by decide))
        have h2 := hk9 2 _ h2 (by decide) (Or.inl (by decide))
        have h3 := hk9 3 _ h3 (by decide) (Or.inl (by decide))
        have h5 := hk9 5 _ h5 (by decide) (Or.inl (by decide))
        have h7 := hk9 7 _ h7 (by decide) (Or.inr (rfl))
        have h8 := hn9
        exact w_X12_cuts_L114 C  FU S33 0 0 H locs ls hW hS hL h0 h1 h2 h3 h5 h7 h8 hw
    · have hw := hw.2 (fun z => hc24 ((q_ge _ _).mpr z))
      refine lv_bipush (v := 20) C.1 C.2.1 dX12_cuts_73 (by decide) ?_
      exact m_iret C hW hS hw dX12_cuts_75
def wp_X12_isBelow_L2 (l0 : Nat) (l1 : Int32) (Q : Int32 → Hp → Prop) : Nat → Hp → Int32 → Prop
  | 0, _, _ => False
  | n + 1, S, l2 => hK S l0 = 14 ∧ ∃ b2 : Nat, (hR S l0 19) = some b2 ∧ hK S b2 = 15 ∧ vp_in l1 (hN S b2) ∧ ((hI S b2 (l1 : Int32).toNatClampNeg) ≤ l2 → ∃ b6 : Nat, (hR S l0 16) = some b6 ∧ hK S b6 = 15 ∧ vp_in l1 (hN S b6) ∧ (0 ≤ (hI S b6 (l1 : Int32).toNatClampNeg) → Q 0 S) ∧ (¬ (0 ≤ (hI S b6 (l1 : Int32).toNatClampNeg)) → Q 1 S)) ∧ (¬ ((hI S b2 (l1 : Int32).toNatClampNeg) ≤ l2) → wp_X12_number S l0 l1 l2 (fun r11 S10 => (0 ≤ r11 → wp_X12_isBelow_L2 l0 l1 Q n S10 (l2 + 1)) ∧ (¬ (0 ≤ r11) → Q 1 S10)))
def wp_X12_isBelow (S : Hp) (a0 : Nat) (a1 : Int32) (Q : Int32 → Hp → Prop) : Prop := wp_X12_isBelow_L2 a0 a1 Q FU S 0
set_option maxRecDepth 100000 in
set_option maxHeartbeats 4000000 in
theorem w_X12_isBelow_L2 {p : Program} {l : Launch} {e : Env} {s : State} {m : MethodId} {args : Array Value} {below : List Frame} {meth : Method} {c : Code} {G : GX} {Q : Int32 → Hp → Prop} {l0 : Nat} {l1 : Int32} (C : Cx p s m args meth c cX12_isBelow 3 RX12 (some .boolean) "isBelow" G) :
    ∀ (n : Nat) (S : Hp) (l2 : Int32) (H : Heap) (locs : List Loc) (ls : Array Slot), wd G S H → va_S G.2.2.1 s.heap H locs → LV ls 3 → ls[0]? = some (.val (va_rf (some l0))) → ls[1]? = some (.val (.int l1)) → ls[2]? = some (.val (.int l2)) → wp_X12_isBelow_L2 l0 l1 Q n S l2 → W p l e ({ frames := 1, cells := 0, slots := 0, locals := 22 } : Room) s m args below meth c H locs 0 0 (MQ below (QI G Q) args s 0 0 G.2.2.1) (F0 m 2 ls []) := by
  intro n
  induction n with
  | zero =>
    intro S l2 H locs ls hW hS hL h0 h1 h2 hw
    exact False.elim hw
  | succ n ih =>
    intro S l2 H locs ls hW hS hL h0 h1 h2 hw
    unfold wp_X12_isBelow_L2 at hw
    refine lv_iload_n C.1 C.2.1 dX12_isBelow_2 rfl h2 ?_
    refine m_aldN C dX12_isBelow_3 rfl h0 ?_
    obtain ⟨hk1, hw⟩ := hw
    refine m_getR C hW rfl hk1 f_X12_54 rfl dX12_isBelow_4 ?_
    refine lv_iload_n C.1 C.2.1 dX12_isBelow_7 rfl h1 ?_
    obtain ⟨b2, ho2, hw⟩ := hw
    obtain ⟨hk3, hw⟩ := hw
    obtain ⟨hi4, hw⟩ := hw
    refine m_iald C hW ho2 hk3 hi4 dX12_isBelow_8 ?_
    refine lv_icmp_ge (tgt := 29) C.1 C.2.1 dX12_isBelow_9 (by decide) (fun hc5 => ?_) (fun hc5 => ?_)
    · have hw := hw.1 hc5
      refine m_aldN C dX12_isBelow_29 rfl h0 ?_
      refine m_getR C hW rfl hk1 f_X12_45 rfl dX12_isBelow_30 ?_
      refine lv_iload_n C.1 C.2.1 dX12_isBelow_33 rfl h1 ?_
      obtain ⟨b6, ho6, hw⟩ := hw
      obtain ⟨hk7, hw⟩ := hw
      obtain ⟨hi8, hw⟩ := hw
      refine m_iald C hW ho6 hk7 hi8 dX12_isBelow_34 ?_
      refine lv_if_ge (tgt := 42) C.1 C.2.1 dX12_isBelow_35 (by decide) (fun hc9 => ?_) (fun hc9 => ?_)
      · have hw := hw.1 hc9
        refine lv_iconst (v := 0) C.1 C.2.1 dX12_isBelow_42 (by decide) ?_
        exact m_zret C hW hS (by decide) hw dX12_isBelow_43
      · have hw := hw.2 hc9
        refine lv_iconst (v := 1) C.1 C.2.1 dX12_isBelow_38 (by decide) ?_
        refine lv_goto (tgt := 43) C.1 C.2.1 dX12_isBelow_39 (by decide) ?_
        exact m_zret C hW hS (by decide) hw dX12_isBelow_43
    · have hw := hw.2 hc5
      refine m_aldN C dX12_isBelow_12 rfl h0 ?_
      refine lv_iload_n C.1 C.2.1 dX12_isBelow_13 rfl h1 ?_
      refine lv_iload_n C.1 C.2.1 dX12_isBelow_14 rfl h2 ?_
      refine m_rI (m_runV (As := [.int l1, .int l2]) (rest := []) C hW hS hL (c_X12_number hw) v_X12_181 ⟨rfl, rfl⟩ ⟨Nat.le_of_ble_eq_true rfl, Nat.le_of_ble_eq_true rfl⟩ rfl hk1 rfl rfl (Nat.le_of_ble_eq_true rfl) dX12_isBelow_15 ⟨Nat.le_of_ble_eq_true rfl, Nat.le_of_ble_eq_true rfl⟩) hS (fun r11 S10 H locs hw hW hS => ?_)
      refine lv_if_ge (tgt := 23) C.1 C.2.1 dX12_isBelow_18 (by decide) (fun hc12 => ?_) (fun hc12 => ?_)
      · have hw := hw.1 hc12
        refine m_iinc (v := (l2 + 1)) C hL dX12_isBelow_23 h2 rfl (by decide) (fun ls hL hn9 hk9 => ?_)
        have h0 := hk9 0 _ h0 (by decide) (Or.inl (by decide))
        have h1 := hk9 1 _ h1 (by decide) (Or.inr (rfl))
        have h2 := hn9
        refine lv_goto (tgt := 2) C.1 C.2.1 dX12_isBelow_26 (by decide) ?_
        exact ih S10 (l2 + 1) H locs ls hW hS hL h0 h1 h2 hw
      · have hw := hw.2 hc12
        refine lv_iconst (v := 1) C.1 C.2.1 dX12_isBelow_21 (by decide) ?_
        exact m_zret C hW hS (by decide) hw dX12_isBelow_22
set_option maxRecDepth 100000 in
set_option maxHeartbeats 4000000 in
theorem c_X12_isBelow {l : Launch} {G : GX} {S : Hp} {a0 : Nat} {a1 : Int32} {Q : Int32 → Hp → Prop} (hw : wp_X12_isBelow S a0 a1 Q) : Met l yX12_isBelow (Cond.code yX12_isBelow cX12_isBelow 3 (some .boolean) :: TS) { frames := 1, cells := 0, slots := 0, locals := 22 } (Pk G S [va_rf (some a0), .int a1]) (QI G Q) 0 0 G.2.2.1 := by
  refine m_met (by decide) ?_
  intro p e s m below meth c H locs C hW hS
  have C : Cx p s m ([va_rf (some a0), .int a1] : List Value).toArray meth c cX12_isBelow 3 RX12 (some .boolean) "isBelow" G := C
  obtain ⟨ls, hent, hL, hla⟩ := m_entry m (vs := [va_rf (some a0), .int a1]) (nn := 3) [1, 1] rfl (by decide)
  rw [hent]
  have h0 : ls[0]? = some (.val (va_rf (some a0))) := hla (0, va_rf (some a0)) (List.mem_of_getElem? (i := 0) rfl)
  have h1 : ls[1]? = some (.val (.int a1)) := hla (1, .int a1) (List.mem_of_getElem? (i := 1) rfl)
  clear hla
  generalize ([va_rf (some a0), .int a1] : List Value).toArray = args at C ⊢
  unfold wp_X12_isBelow at hw
  refine lv_iconst (v := 0) C.1 C.2.1 dX12_isBelow_0 (by decide) ?_
  refine m_istN C hL dX12_isBelow_1 rfl (by decide) (fun ls hL hn9 hk9 => ?_)
  have h0 := hk9 0 _ h0 (by decide) (Or.inl (by decide))
  have h1 := hk9 1 _ h1 (by decide) (Or.inr (rfl))
  have h2 := hn9
  exact w_X12_isBelow_L2 C  FU S 0 H locs ls hW hS hL h0 h1 h2 hw
