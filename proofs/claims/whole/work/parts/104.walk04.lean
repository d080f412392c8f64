def wp_X11_needs (S : Hp) (a0 : Nat) (a1 : Int32) (a2 : Int32) (Q : Int32 → Hp → Prop) : Prop := hK S a0 = 13 ∧ ∃ b2 : Nat, (hR S a0 0) = some b2 ∧ hK S b2 = 11 ∧ wp_X9_hasJob S b2 a1 (fun r5 S4 => (r5 = 0 → Q (-1) S4) ∧ (¬ (r5 = 0) → hK S4 a0 = 13 ∧ ∃ b8 : Nat, (hR S4 a0 0) = some b8 ∧ hK S4 b8 = 11 ∧ wp_X9_hasMachine S4 b8 a2 (fun r11 S10 => (r11 = 0 → Q (-1) S10) ∧ (¬ (r11 = 0) → ∀ z13 : Int64, z13 = (1 <<< ((a2 : Int32).toInt64 &&& 63)) → hK S10 a0 = 13 ∧ ∃ b15 : Nat, (hR S10 a0 0) = some b15 ∧ hK S10 b15 = 11 ∧ ∃ b17 : Nat, (hR S10 b15 5) = some b17 ∧ hK S10 b17 = 19 ∧ vp_in a1 (hN S10 b17) ∧ ∃ b20 : Nat, (hR S10 b17 (a1 : Int32).toNatClampNeg) = some b20 ∧ hK S10 b20 = 6 ∧ (((hJ S10 b20 7) &&& z13) = 0 → ∃ b23 : Nat, (hR S10 a0 3) = some b23 ∧ hK S10 b23 = 10 ∧ wp_X8_empty S10 b23 (fun r26 S25 => hK S25 a0 = 13 ∧ ∃ b28 : Nat, (hR S25 a0 0) = some b28 ∧ hK S25 b28 = 11 ∧ ∃ b30 : Nat, (hR S25 b28 5) = some b30 ∧ hK S25 b30 = 19 ∧ vp_in a1 (hN S25 b30) ∧ ∃ b33 : Nat, (hR S25 b30 (a1 : Int32).toNatClampNeg) = some b33 ∧ hK S25 b33 = 6 ∧ Q 0 (sJ S25 b33 7 ((hJ S25 b33 7) ||| z13)))) ∧ (¬ (((hJ S10 b20 7) &&& z13) = 0) → Q (-3) S10)))))
set_option maxRecDepth 100000 in
set_option maxHeartbeats 4000000 in
theorem c_X11_needs {l : Launch} {G : GX} {S : Hp} {a0 : Nat} {a1 : Int32} {a2 : Int32} {Q : Int32 → Hp → Prop} (hw : wp_X11_needs S a0 a1 a2 Q) : Met l yX11_needs (Cond.code yX11_needs cX11_needs 5 (some .int) :: TS) { frames := 4, cells := 0, slots := 0, locals := 83 } (Pk G S [va_rf (some a0), .int a1, .int a2]) (QI G Q) 0 0 G.2.2.1 := by
  refine m_met (by decide) ?_
  intro p e s m below meth c H locs C hW hS
  have C : Cx p s m ([va_rf (some a0), .int a1, .int a2] : List Value).toArray meth c cX11_needs 5 RX11 (some .int) "needs" G := C
  obtain ⟨ls, hent, hL, hla⟩ := m_entry m (vs := [va_rf (some a0), .int a1, .int a2]) (nn := 5) [1, 1, 1] rfl (by decide)
  rw [hent]
  have h0 : ls[0]? = some (.val (va_rf (some a0))) := hla (0, va_rf (some a0)) (List.mem_of_getElem? (i := 0) rfl)
  have h1 : ls[1]? = some (.val (.int a1)) := hla (1, .int a1) (List.mem_of_getElem? (i := 1) rfl)
  have h2 : ls[2]? = some (.val (.int a2)) := hla (2, .int a2) (List.mem_of_getElem? (i := 2) rfl)
  clear hla
  generalize ([va_rf (some a0), .int a1, .int a2] : List Value).toArray = args at C ⊢
  unfold wp_X11_needs at hw
  refine m_aldN C dX11_needs_0 rfl h0 ?_
  obtain ⟨hk1, hw⟩ := hw
  refine m_getR C hW rfl hk1 f_X11_10 rfl dX11_needs_1 ?_
  refine lv_iload_n C.1 C.2.1 dX11_needs_4 rfl h1 ?_
  obtain ⟨b2, ho2, hw⟩ := hw
  obtain ⟨hk3, hw⟩ := hw
  refine m_rI (m_runV (As := [.int a1]) (rest := []) C hW hS hL (c_X9_hasJob hw) v_X11_90 ⟨rfl, rfl⟩ ⟨Nat.le_of_ble_eq_true rfl, Nat.le_of_ble_eq_true rfl⟩ ho2 hk3 rfl rfl (Nat.le_of_ble_eq_true rfl) dX11_needs_5 ⟨Nat.le_of_ble_eq_true rfl, Nat.le_of_ble_eq_true rfl⟩) hS (fun r5 S4 H locs hw hW hS => ?_)
  refine lv_if_eq (tgt := 22) C.1 C.2.1 dX11_needs_8 (by decide) (fun hc6 => ?_) (fun hc6 => ?_)
  · have hw := hw.1 hc6
    refine lv_iconst (v := (-1)) C.1 C.2.1 dX11_needs_22 (by decide) ?_
    exact m_iret C hW hS hw dX11_needs_23
  · have hw := hw.2 hc6
    refine m_aldN C dX11_needs_11 rfl h0 ?_
    obtain ⟨hk7, hw⟩ := hw
    refine m_getR C hW rfl hk7 f_X11_10 rfl dX11_needs_12 ?_
    refine lv_iload_n C.1 C.2.1 dX11_needs_15 rfl h2 ?_
    obtain ⟨b8, ho8, hw⟩ := hw
    obtain ⟨hk9, hw⟩ := hw
    refine m_rI (m_runV (As := [.int a2]) (rest := []) C hW hS hL (c_X9_hasMachine hw) v_X11_116 ⟨rfl, rfl⟩ ⟨Nat.le_of_ble_eq_true rfl, Nat.le_of_ble_eq_true rfl⟩ ho8 hk9 rfl rfl (Nat.le_of_ble_eq_true rfl) dX11_needs_16 ⟨Nat.le_of_ble_eq_true rfl, Nat.le_of_ble_eq_true rfl⟩) hS (fun r11 S10 H locs hw hW hS => ?_)
    refine lv_if_ne (tgt := 24) C.1 C.2.1 dX11_needs_19 (by decide) (fun hc12 => ?_) (fun hc12 => ?_)
    · have hw := hw.2 hc12
      refine lv_lconst (v := 1) C.1 C.2.1 dX11_needs_24 (by decide) ?_
      refine lv_iload_n C.1 C.2.1 dX11_needs_25 rfl h2 ?_
      refine lv_lshl (v := (1 <<< ((a2 : Int32).toInt64 &&& 63))) C.1 C.2.1 dX11_needs_26 rfl ?_
      refine lv_topl (fun z13 ez13 => ?_)
      have hw := hw z13 ez13
      refine m_lstN C hL dX11_needs_27 rfl (by decide) (fun ls hL hn9 hk9 => ?_)
      have h0 := hk9 0 _ h0 (by decide) (by decide) (Or.inl (by decide))
      have h1 := hk9 1 _ h1 (by decide) (by decide) (Or.inl (by decide))
      have h3 := hn9
      refine m_aldN C dX11_needs_28 rfl h0 ?_
      obtain ⟨hk14, hw⟩ := hw
      refine m_getR C hW rfl hk14 f_X11_10 rfl dX11_needs_29 ?_
      obtain ⟨b15, ho15, hw⟩ := hw
      obtain ⟨hk16, hw⟩ := hw
      refine m_getR C hW ho15 hk16 f_X11_93 rfl dX11_needs_32 ?_
      refine lv_iload_n C.1 C.2.1 dX11_needs_35 rfl h1 ?_
      obtain ⟨b17, ho17, hw⟩ := hw
      obtain ⟨hk18, hw⟩ := hw
      obtain ⟨hi19, hw⟩ := hw
      refine m_aald C hW ho17 hk18 (by decide) (by decide) hi19 dX11_needs_36 ?_
      obtain ⟨b20, ho20, hw⟩ := hw
      obtain ⟨hk21, hw⟩ := hw
      refine m_getJ C hW ho20 hk21 f_X11_119 rfl dX11_needs_37 ?_
      refine lv_lload_n C.1 C.2.1 dX11_needs_40 rfl h3 ?_
      refine lv_land C.1 C.2.1 dX11_needs_41 ?_
      refine lv_lconst (v := 0) C.1 C.2.1 dX11_needs_42 (by decide) ?_
      refine W.lcmp C.1 C.2.1 dX11_needs_43 ?_
      refine lv_if_eq (tgt := 50) C.1 C.2.1 dX11_needs_44 (by decide) (fun hc22 => ?_) (fun hc22 => ?_)
      · have hw := hw.1 ((q_eq _ _).mp hc22)
        refine m_aldN C dX11_needs_50 rfl h0 ?_
        refine m_getR C hW rfl hk14 f_X11_35 rfl dX11_needs_51 ?_
        obtain ⟨b23, ho23, hw⟩ := hw
        obtain ⟨hk24, hw⟩ := hw
        refine m_rI (m_runV (As := []) (rest := []) C hW hS hL (c_X8_empty hw) v_X11_46 ⟨rfl, rfl⟩ ⟨Nat.le_of_ble_eq_true rfl, Nat.le_of_ble_eq_true rfl⟩ ho23 hk24 rfl rfl (Nat.le_of_ble_eq_true rfl) dX11_needs_54 ⟨Nat.le_of_ble_eq_true rfl, Nat.le_of_ble_eq_true rfl⟩) hS (fun r26 S25 H locs hw hW hS => ?_)
        refine lv_pop C.1 C.2.1 dX11_needs_57 (rfl) ?_
        refine m_aldN C dX11_needs_58 rfl h0 ?_
        obtain ⟨hk27, hw⟩ := hw
        refine m_getR C hW rfl hk27 f_X11_10 rfl dX11_needs_59 ?_
        obtain ⟨b28, ho28, hw⟩ := hw
        obtain ⟨hk29, hw⟩ := hw
        refine m_getR C hW ho28 hk29 f_X11_93 rfl dX11_needs_62 ?_
        refine lv_iload_n C.1 C.2.1 dX11_needs_65 rfl h1 ?_
        obtain ⟨b30, ho30, hw⟩ := hw
        obtain ⟨hk31, hw⟩ := hw
        obtain ⟨hi32, hw⟩ := hw
        refine m_aald C hW ho30 hk31 (by decide) (by decide) hi32 dX11_needs_66 ?_
        refine lv_dup C.1 C.2.1 dX11_needs_67 (va_rf_cat _) ?_
        obtain ⟨b33, ho33, hw⟩ := hw
        obtain ⟨hk34, hw⟩ := hw
        refine m_getJ C hW ho33 hk34 f_X11_119 rfl dX11_needs_68 ?_
        refine lv_lload_n C.1 C.2.1 dX11_needs_71 rfl h3 ?_
        refine lv_lor C.1 C.2.1 dX11_needs_72 ?_
        refine m_putJ C hW hS ho33 hk34 p_X11_119 (fun z => by cases z) rfl dX11_needs_73 (fun H locs hW hS => ?_)
        refine lv_iconst (v := 0) C.1 C.2.1 dX11_needs_76 (by decide) ?_
        exact m_iret C hW hS hw dX11_needs_77
      · have hw := hw.2 (fun z => hc22 ((q_eq _ _).mpr z))
        refine lv_bipush (v := (-3)) C.1 C.2.1 dX11_needs_47 (by decide) ?_
        exact m_iret C hW hS hw dX11_needs_49
    · have hw := hw.1 hc12
      refine lv_iconst (v := (-1)) C.1 C.2.1 dX11_needs_22 (by decide) ?_
      exact m_iret C hW hS hw dX11_needs_23
def wp_X11_statusOfAmount (S : Hp) (a0 : Nat) (a1 : Int32) (a2 : Int32) (a3 : Int32) (Q : Int32 → Hp → Prop) : Prop := hK S a0 = 13 ∧ ∃ b2 : Nat, (hR S a0 0) = some b2 ∧ hK S b2 = 11 ∧ wp_X9_hasJob S b2 a1 (fun r5 S4 => (r5 = 0 → Q (-1) S4) ∧ (¬ (r5 = 0) → hK S4 a0 = 13 ∧ ∃ b8 : Nat, (hR S4 a0 0) = some b8 ∧ hK S4 b8 = 11 ∧ wp_X9_hasStock S4 b8 a2 (fun r11 S10 => (r11 = 0 → Q (-1) S10) ∧ (¬ (r11 = 0) → (a3 < 1 → Q (-2) S10) ∧ (¬ (a3 < 1) → (a3 ≤ 1000000 → Q 0 S10) ∧ (¬ (a3 ≤ 1000000) → Q (-2) S10))))))
set_option maxRecDepth 100000 in
set_option maxHeartbeats 4000000 in
theorem c_X11_statusOfAmount {l : Launch} {G : GX} {S : Hp} {a0 : Nat} {a1 : Int32} {a2 : Int32} {a3 : Int32} {Q : Int32 → Hp → Prop} (hw : wp_X11_statusOfAmount S a0 a1 a2 a3 Q) : Met l yX11_statusOfAmount (Cond.code yX11_statusOfAmount cX11_statusOfAmount 4 (some .int) :: TS) { frames := 1, cells := 0, slots := 0, locals := 21 } (Pk G S [va_rf (some a0), .int a1, .int a2, .int a3]) (QI G Q) 0 0 G.2.2.1 := by
  refine m_met (by decide) ?_
  intro p e s m below meth c H locs C hW hS
  have C : Cx p s m ([va_rf (some a0), .int a1, .int a2, .int a3] : List Value).toArray meth c cX11_statusOfAmount 4 RX11 (some .int) "statusOfAmount" G := C
  obtain ⟨ls, hent, hL, hla⟩ := m_entry m (vs := [va_rf (some a0), .int a1, .int a2, .int a3]) (nn := 4) [1, 1, 1, 1] rfl (by decide)
  rw [hent]
  have h0 : ls[0]? = some (.val (va_rf (some a0))) := hla (0, va_rf (some a0)) (List.mem_of_getElem? (i := 0) rfl)
  have h1 : ls[1]? = some (.val (.int a1)) := hla (1, .int a1) (List.mem_of_getElem? (i := 1) rfl)
  have h2 : ls[2]? = some (.val (.int a2)) := hla (2, .int a2) (List.mem_of_getElem? (i := 2) rfl)
  have h3 : ls[3]? = some (.val (.int a3)) := hla (3, .int a3) (List.mem_of_getElem? (i := 3) rfl)
  clear hla
  generalize ([va_rf (some a0), .int a1, .int a2, .int a3] : List Value).toArray = args at C ⊢
  unfold wp_X11_statusOfAmount at hw
  refine m_aldN C dX11_statusOfAmount_0 rfl h0 ?_
  obtain ⟨hk1, hw⟩ := hw
  refine m_getR C hW rfl hk1 f_X11_10 rfl dX11_statusOfAmount_1 ?_
  refine lv_iload_n C.1 C.2.1 dX11_statusOfAmount_4 rfl h1 ?_
  obtain ⟨b2, ho2, hw⟩ := hw
  obtain ⟨hk3, hw⟩ := hw
  refine m_rI (m_runV (As := [.int a1]) (rest := []) C hW hS hL (c_X9_hasJob hw) v_X11_90 ⟨rfl, rfl⟩ ⟨Nat.le_of_ble_eq_true rfl, Nat.le_of_ble_eq_true rfl⟩ ho2 hk3 rfl rfl (Nat.le_of_ble_eq_true rfl) dX11_statusOfAmount_5 ⟨Nat.le_of_ble_eq_true rfl, Nat.le_of_ble_eq_true rfl⟩) hS (fun r5 S4 H locs hw hW hS => ?_)
  refine lv_if_eq (tgt := 22) C.1 C.2.1 dX11_statusOfAmount_8 (by decide) (fun hc6 => ?_) (fun hc6 => ?_)
  · have hw := hw.1 hc6
    refine lv_iconst (v := (-1)) C.1 C.2.1 dX11_statusOfAmount_22 (by decide) ?_
    exact m_iret C hW hS hw dX11_statusOfAmount_23
  · have hw := hw.2 hc6
    refine m_aldN C dX11_statusOfAmount_11 rfl h0 ?_
    obtain ⟨hk7, hw⟩ := hw
    refine m_getR C hW rfl hk7 f_X11_10 rfl dX11_statusOfAmount_12 ?_
    refine lv_iload_n C.1 C.2.1 dX11_statusOfAmount_15 rfl h2 ?_
    obtain ⟨b8, ho8, hw⟩ := hw
    obtain ⟨hk9, hw⟩ := hw
    refine m_rI (m_runV (As := [.int a2]) (rest := []) C hW hS hL (c_X9_hasStock hw) v_X11_61 ⟨rfl, rfl⟩ ⟨Nat.le_of_ble_eq_true rfl, Nat.le_of_ble_eq_true rfl⟩ ho8 hk9 rfl rfl (Nat.le_of_ble_eq_true rfl) dX11_statusOfAmount_16 ⟨Nat.le_of_ble_eq_true rfl, Nat.le_of_ble_eq_true rfl⟩) hS (fun r11 S10 H locs hw hW hS => ?_)
    refine lv_if_ne (tgt := 24) C.1 C.2.1 dX11_statusOfAmount_19 (by decide) (fun hc12 => ?_) (fun hc12 => ?_)
    · have hw := hw.2 hc12
      refine lv_iload_n C.1 C.2.1 dX11_statusOfAmount_24 rfl h3 ?_
      refine lv_iconst (v := 1) C.1 C.2.1 dX11_statusOfAmount_25 (by decide) ?_
      refine lv_icmp_lt (tgt := 35) C.1 C.2.1 dX11_statusOfAmount_26 (by decide) (fun hc13 => ?_) (fun hc13 => ?_)
      · have hw := hw.1 hc13
        refine lv_bipush (v := (-2)) C.1 C.2.1 dX11_statusOfAmount_35 (by decide) ?_
        exact m_iret C hW hS hw dX11_statusOfAmount_37
      · have hw := hw.2 hc13
        refine lv_iload_n C.1 C.2.1 dX11_statusOfAmount_29 rfl h3 ?_
        refine lv_ldc (v := 1000000) C.1 C.2.1 C.2.2.2.1 (C.2.2.2.2.1 _ tw_313) dX11_statusOfAmount_30 ?_
        refine lv_icmp_le (tgt := 38) C.1 C.2.1 dX11_statusOfAmount_32 (by decide) (fun hc14 => ?_) (fun hc14 => ?_)
        · have hw := hw.1 hc14
          refine lv_iconst (v := 0) C.1 C.2.1 dX11_statusOfAmount_38 (by decide) ?_
          exact m_iret C hW hS hw dX11_statusOfAmount_39
        · have hw := hw.2 hc14
          refine lv_bipush (v := (-2)) C.1 C.2.1 dX11_statusOfAmount_35 (by decide) ?_
          exact m_iret C hW hS hw dX11_statusOfAmount_37
    · have hw := hw.1 hc12
      refine lv_iconst (v := (-1)) C.1 C.2.1 dX11_statusOfAmount_22 (by decide) ?_
      exact m_iret C hW hS hw dX11_statusOfAmount_23
def wp_X11_uses (S : Hp) (a0 : Nat) (a1 : Int32) (a2 : Int32) (a3 : Int32) (Q : Int32 → Hp → Prop) : Prop := hK S a0 = 13 ∧ wp_X11_statusOfAmount S a0 a1 a2 a3 (fun r3 S2 => (r3 = 0 → hK S2 a0 = 13 ∧ ∃ b6 : Nat, (hR S2 a0 3) = some b6 ∧ hK S2 b6 = 10 ∧ wp_X8_empty S2 b6 (fun r9 S8 => hK S8 a0 = 13 ∧ ∃ b11 : Nat, (hR S8 a0 0) = some b11 ∧ hK S8 b11 = 11 ∧ ∃ b13 : Nat, (hR S8 b11 5) = some b13 ∧ hK S8 b13 = 19 ∧ vp_in a1 (hN S8 b13) ∧ ∃ b16 : Nat, (hR S8 b13 (a1 : Int32).toNatClampNeg) = some b16 ∧ hK S8 b16 = 6 ∧ ∃ b18 : Nat, (hR S8 b16 8) = some b18 ∧ hK S8 b18 = 2 ∧ wp_X0_put S8 b18 a2 a3 (fun S20 => Q r3 S20))) ∧ (¬ (r3 = 0) → Q r3 S2))
set_option maxRecDepth 100000 in
set_option maxHeartbeats 4000000 in
theorem c_X11_uses {l : Launch} {G : GX} {S : Hp} {a0 : Nat} {a1 : Int32} {a2 : Int32} {a3 : Int32} {Q : Int32 → Hp → Prop} (hw : wp_X11_uses S a0 a1 a2 a3 Q) : Met l yX11_uses (Cond.code yX11_uses cX11_uses 5 (some .int) :: TS) { frames := 4, cells := 0, slots := 0, locals := 83 } (Pk G S [va_rf (some a0), .int a1, .int a2, .int a3]) (QI G Q) 0 0 G.2.2.1 := by
  refine m_met (by decide) ?_
  intro p e s m below meth c H locs C hW hS
  have C : Cx p s m ([va_rf (some a0), .int a1, .int a2, .int a3] : List Value).toArray meth c cX11_uses 5 RX11 (some .int) "uses" G := C
  obtain ⟨ls, hent, hL, hla⟩ := m_entry m (vs := [va_rf (some a0), .int a1, .int a2, .int a3]) (nn := 5) [1, 1, 1, 1] rfl (by decide)
  rw [hent]
  have h0 : ls[0]? = some (.val (va_rf (some a0))) := hla (0, va_rf (some a0)) (List.mem_of_getElem? (i := 0) rfl)
  have h1 : ls[1]? = some (.val (.int a1)) := hla (1, .int a1) (List.mem_of_getElem? (i := 1) rfl)
  have h2 : ls[2]? = some (.val (.int a2)) := hla (2, .int a2) (List.mem_of_getElem? (i := 2) rfl)
  have h3 : ls[3]? = some (.val (.int a3)) := hla (3, .int a3) (List.mem_of_getElem? (i := 3) rfl)
  clear hla
  generalize ([va_rf (some a0), .int a1, .int a2, .int a3] : List Value).toArray = args at C ⊢
  unfold wp_X11_uses at hw
  refine m_aldN C dX11_uses_0 rfl h0 ?_
  refine lv_iload_n C.1 C.2.1 dX11_uses_1 rfl h1 ?_
  refine lv_iload_n C.1 C.2.1 dX11_uses_2 rfl h2 ?_
  refine lv_iload_n C.1 C.2.1 dX11_uses_3 rfl h3 ?_
  obtain ⟨hk1, hw⟩ := hw
  refine m_rI (m_runV (As := [.int a1, .int a2, .int a3]) (rest := []) C hW hS hL (c_X11_statusOfAmount hw) v_X11_123 ⟨rfl, rfl⟩ ⟨Nat.le_of_ble_eq_true rfl, Nat.le_of_ble_eq_true rfl⟩ rfl hk1 rfl rfl (Nat.le_of_ble_eq_true rfl) dX11_uses_4 ⟨Nat.le_of_ble_eq_true rfl, Nat.le_of_ble_eq_true rfl⟩) hS (fun r3 S2 H locs hw hW hS => ?_)
  refine m_ist C hL dX11_uses_7 (by decide) (fun ls hL hn9 hk9 => ?_)
  have h0 := hk9 0 _ h0 (by decide) (Or.inl (by decide))
  have h1 := hk9 1 _ h1 (by decide) (Or.inl (by decide))
  have h2 := hk9 2 _ h2 (by decide) (Or.inl (by decide))
  have h3 := hk9 3 _ h3 (by decide) (Or.inr (rfl))
  have h4 := hn9
  refine lv_iload C.1 C.2.1 dX11_uses_9 h4 ?_
  refine lv_if_ne (tgt := 39) C.1 C.2.1 dX11_uses_11 (by decide) (fun hc4 => ?_) (fun hc4 => ?_)
  · have hw := hw.2 hc4
    refine lv_iload C.1 C.2.1 dX11_uses_39 h4 ?_
    exact m_iret C hW hS hw dX11_uses_41
  · have hw := hw.1 hc4
    refine m_aldN C dX11_uses_14 rfl h0 ?_
    obtain ⟨hk5, hw⟩ := hw
    refine m_getR C hW rfl hk5 f_X11_35 rfl dX11_uses_15 ?_
    obtain ⟨b6, ho6, hw⟩ := hw
    obtain ⟨hk7, hw⟩ := hw
    refine m_rI (m_runV (As := []) (rest := []) C hW hS hL (c_X8_empty hw) v_X11_46 ⟨rfl, rfl⟩ ⟨Nat.le_of_ble_eq_true rfl, Nat.le_of_ble_eq_true rfl⟩ ho6 hk7 rfl rfl (Nat.le_of_ble_eq_true rfl) dX11_uses_18 ⟨Nat.le_of_ble_eq_true rfl, Nat.le_of_ble_eq_true rfl⟩) hS (fun r9 S8 H locs hw hW hS => ?_)
    refine lv_pop C.1 C.2.1 dX11_uses_21 (rfl) ?_
    refine m_aldN C dX11_uses_22 rfl h0 ?_
    obtain ⟨hk10, hw⟩ := hw
    refine m_getR C hW rfl hk10 f_X11_10 rfl dX11_uses_23 ?_
    obtain ⟨b11, ho11, hw⟩ := hw
    obtain ⟨hk12, hw⟩ := hw
    refine m_getR C hW ho11 hk12 f_X11_93 rfl dX11_uses_26 ?_
    refine lv_iload_n C.1 C.2.1 dX11_uses_29 rfl h1 ?_
    obtain ⟨b13, ho13, hw⟩ := hw
    obtain ⟨hk14, hw⟩ := hw
    obtain ⟨hi15, hw⟩ := hw
    refine m_aald C hW ho13 hk14 (by decide) (by decide) hi15 dX11_uses_30 ?_
    obtain ⟨b16, ho16, hw⟩ := hw
    obtain ⟨hk17, hw⟩ := hw
    refine m_getR C hW ho16 hk17 f_X11_127 rfl dX11_uses_31 ?_
    refine lv_iload_n C.1 C.2.1 dX11_uses_34 rfl h2 ?_
    refine lv_iload_n C.1 C.2.1 dX11_uses_35 rfl h3 ?_
    obtain ⟨b18, ho18, hw⟩ := hw
    obtain ⟨hk19, hw⟩ := hw
    refine m_rV (m_runV (As := [.int a2, .int a3]) (rest := []) C hW hS hL (c_X0_put hw) v_X11_131 ⟨rfl, rfl⟩ ⟨Nat.le_of_ble_eq_true rfl, Nat.le_of_ble_eq_true rfl⟩ ho18 hk19 rfl rfl (Nat.le_of_ble_eq_true rfl) dX11_uses_36 ⟨Nat.le_of_ble_eq_true rfl, Nat.le_of_ble_eq_true rfl⟩) hS (fun S20 H locs hw hW hS => ?_)
    refine lv_iload C.1 C.2.1 dX11_uses_39 h4 ?_
    exact m_iret C hW hS hw dX11_uses_41
def wp_X11_gives (S : Hp) (a0 : Nat) (a1 : Int32) (a2 : Int32) (a3 : Int32) (Q : Int32 → Hp → Prop) : Prop := hK S a0 = 13 ∧ wp_X11_statusOfAmount S a0 a1 a2 a3 (fun r3 S2 => (r3 = 0 → hK S2 a0 = 13 ∧ ∃ b6 : Nat, (hR S2 a0 3) = some b6 ∧ hK S2 b6 = 10 ∧ wp_X8_empty S2 b6 (fun r9 S8 => hK S8 a0 = 13 ∧ ∃ b11 : Nat, (hR S8 a0 0) = some b11 ∧ hK S8 b11 = 11 ∧ ∃ b13 : Nat, (hR S8 b11 5) = some b13 ∧ hK S8 b13 = 19 ∧ vp_in a1 (hN S8 b13) ∧ ∃ b16 : Nat, (hR S8 b13 (a1 : Int32).toNatClampNeg) = some b16 ∧ hK S8 b16 = 6 ∧ ∃ b18 : Nat, (hR S8 b16 9) = some b18 ∧ hK S8 b18 = 2 ∧ wp_X0_put S8 b18 a2 a3 (fun S20 => Q r3 S20))) ∧ (¬ (r3 = 0) → Q r3 S2))
set_option maxRecDepth 100000 in
set_option maxHeartbeats 4000000 in
theorem c_X11_gives {l : Launch} {G : GX} {S : Hp} {a0 : Nat} {a1 : Int32} {a2 : Int32} {a3 : Int32} {Q : Int32 → Hp → Prop} (hw : wp_X11_gives S a0 a1 a2 a3 Q) : Met l yX11_gives (Cond.code yX11_gives cX11_gives 5 (some .int) :: TS) { frames := 4, cells := 0, slots := 0, locals := 83 } (Pk G S [va_rf (some a0), .int a1, .int a2, .int a3]) (QI G Q) 0 0 G.2.2.1 := by
  refine m_met (by decide) ?_
  intro p e s m below meth c H locs C hW hS
  have C : Cx p s m ([va_rf (some a0), .int a1, .int a2, .int a3] : List Value).toArray meth c cX11_gives 5 RX11 (some .int) "gives" G := C
  obtain ⟨ls, hent, hL, hla⟩ := m_entry m (vs := [va_rf (some a0), .int a1, .int a2, .int a3]) (nn := 5) [1, 1, 1, 1] rfl (by decide)
  rw [hent]
  have h0 : ls[0]? = some (.val (va_rf (some a0))) := hla (0, va_rf (some a0)) (List.mem_of_getElem? (i := 0) rfl)
  have h1 : ls[1]? = some (.val (.int a1)) := hla (1, .int a1) (List.mem_of_getElem? (i := 1) rfl)
  have h2 : ls[2]? = some (.val (.int a2)) := hla (2, .int a2) (List.mem_of_getElem? (i := 2) rfl)
  have h3 : ls[3]? = some (.val (.int a3)) := hla (3, .int a3) (List.mem_of_getElem? (i := 3) rfl)
  clear hla
  generalize ([va_rf (some a0), .int a1, .int a2, .int a3] : List Value).toArray = args at C ⊢
  unfold wp_X11_gives at hw
  refine m_aldN C dX11_gives_0 rfl h0 ?_
  refine lv_iload_n C.1 C.2.1 dX11_gives_1 rfl h1 ?_
  refine lv_iload_n C.1 C.2.1 dX11_gives_2 rfl h2 ?_
  refine lv_iload_n C.1 C.2.1 dX11_gives_3 rfl h3 ?_
  obtain ⟨hk1, hw⟩ := hw
  refine m_rI (m_runV (As := [.int a1, .int a2, .int a3]) (rest := []) C hW hS hL (c_X11_statusOfAmount hw) v_X11_123 ⟨rfl, rfl⟩ ⟨Nat.le_of_ble_eq_true rfl, Nat.le_of_ble_eq_true rfl⟩ rfl hk1 rfl rfl (Nat.le_of_ble_eq_true rfl) dX11_gives_4 ⟨Nat.le_of_ble_eq_true rfl, Nat.le_of_ble_eq_true rfl⟩) hS (fun r3 S2 H locs hw hW hS => ?_)
  refine m_ist C hL dX11_gives_7 (by decide) (fun ls hL hn9 hk9 => ?_)
  have h0 := hk9 0 _ h0 (by decide) (Or.inl (by decide))
  have h1 := hk9 1 _ h1 (by decide) (Or.inl (by decide))
  have h2 := hk9 2 _ h2 (by decide) (Or.inl (by decide))
  have h3 := hk9 3 _ h3 (by decide) (Or.inr (rfl))
  have h4 := hn9
  refine lv_iload C.1 C.2.1 dX11_gives_9 h4 ?_
  refine lv_if_ne (tgt := 39) C.1 C.2.1 dX11_gives_11 (by decide) (fun hc4 => ?_) (fun hc4 => ?_)
  · have hw := hw.2 hc4
    refine lv_iload C.1 C.2.1 dX11_gives_39 h4 ?_
    exact m_iret C hW hS hw dX11_gives_41
  · have hw := hw.1 hc4
    refine m_aldN C dX11_gives_14 rfl h0 ?_
    obtain ⟨hk5, hw⟩ := hw
    refine m_getR C hW rfl hk5 f_X11_35 rfl dX11_gives_15 ?_
    obtain ⟨b6, ho6, hw⟩ := hw
    obtain ⟨hk7, hw⟩ := hw
    refine m_rI (m_runV (As := []) (rest := []) C hW hS hL (c_X8_empty hw) v_X11_46 ⟨rfl, rfl⟩ ⟨Nat.le_of_ble_eq_true rfl, Nat.le_of_ble_eq_true rfl⟩ ho6 hk7 rfl rfl (Nat.le_of_ble_eq_true rfl) dX11_gives_18 ⟨Nat.le_of_ble_eq_true rfl, Nat.le_of_ble_eq_true rfl⟩) hS (fun r9 S8 H locs hw hW hS => ?_)
    refine lv_pop C.1 C.2.1 dX11_gives_21 (rfl) ?_
    refine m_aldN C dX11_gives_22 rfl h0 ?_
    obtain ⟨hk10, hw⟩ := hw
    refine m_getR C hW rfl hk10 f_X11_10 rfl dX11_gives_23 ?_
    obtain ⟨b11, ho11, hw⟩ := hw
    obtain ⟨hk12, hw⟩ := hw
    refine m_getR C hW ho11 hk12 f_X11_93 rfl dX11_gives_26 ?_
    refine lv_iload_n C.1 C.2.1 dX11_gives_29 rfl h1 ?_
    obtain ⟨b13, ho13, hw⟩ := hw
    obtain ⟨hk14, hw⟩ := hw
    obtain ⟨hi15, hw⟩ := hw
    refine m_aald C hW ho13 hk14 (by decide) (by decide) hi15 dX11_gives_30 ?_
    obtain ⟨b16, ho16, hw⟩ := hw
    obtain ⟨hk17, hw⟩ := hw
    refine m_getR C hW ho16 hk17 f_X11_137 rfl dX11_gives_31 ?_
    refine lv_iload_n C.1 C.2.1 dX11_gives_34 rfl h2 ?_
    refine lv_iload_n C.1 C.2.1 dX11_gives_35 rfl h3 ?_
    obtain ⟨b18, ho18, hw⟩ := hw
    obtain ⟨hk19, hw⟩ := hw
    refine m_rV (m_runV (As := [.int a2, .int a3]) (rest := []) C hW hS hL (c_X0_put hw) v_X11_131 ⟨rfl, rfl⟩ ⟨Nat.le_of_ble_eq_true rfl, Nat.le_of_ble_eq_true rfl⟩ ho18 hk19 rfl rfl (Nat.le_of_ble_eq_true rfl) dX11_gives_36 ⟨Nat.le_of_ble_eq_true rfl, Nat.le_of_ble_eq_true rfl⟩) hS (fun S20 H locs hw hW hS => ?_)
    refine lv_iload C.1 C.2.1 dX11_gives_39 h4 ?_
    exact m_iret C hW hS hw dX11_gives_41
def wp_X11_body (S : Hp) (a0 : Nat) (a1 : Int32) (a2 : Int32) (a3 : Int32) (a4 : Int32) (Q : Int32 → Hp → Prop) : Prop := hK S a0 = 13 ∧ ∃ b2 : Nat, (hR S a0 0) = some b2 ∧ hK S b2 = 11 ∧ wp_X9_hasJob S b2 a1 (fun r5 S4 => (r5 = 0 → Q (-1) S4) ∧ (¬ (r5 = 0) → (a2 < 0 → Q (-2) S4) ∧ (¬ (a2 < 0) → (a2 ≤ 5 → hK S4 a0 = 13 ∧ ∃ b10 : Nat, (hR S4 a0 3) = some b10 ∧ hK S4 b10 = 10 ∧ wp_X8_empty S4 b10 (fun r13 S12 => hK S12 a0 = 13 ∧ ∃ b15 : Nat, (hR S12 a0 0) = some b15 ∧ hK S12 b15 = 11 ∧ ∃ b17 : Nat, (hR S12 b15 5) = some b17 ∧ hK S12 b17 = 19 ∧ vp_in a1 (hN S12 b17) ∧ ∃ b20 : Nat, (hR S12 b17 (a1 : Int32).toNatClampNeg) = some b20 ∧ hK S12 b20 = 6 ∧ ∃ b22 : Nat, (hR S12 b20 10) = some b22 ∧ hK S12 b22 = 9 ∧ Q 0 (sI (sI (sI S12 b22 0 a2) b22 1 a3) b22 2 a4))) ∧ (¬ (a2 ≤ 5) → Q (-2) S4))))
set_option maxRecDepth 100000 in
set_option maxHeartbeats 4000000 in
theorem c_X11_body {l : Launch} {G : GX} {S : Hp} {a0 : Nat} {a1 : Int32} {a2 : Int32} {a3 : Int32} {a4 : Int32} {Q : Int32 → Hp → Prop} (hw : wp_X11_body S a0 a1 a2 a3 a4 Q) : Met l yX11_body (Cond.code yX11_body cX11_body 6 (some .int) :: TS) { frames := 4, cells := 0, slots := 0, locals := 83 } (Pk G S [va_rf (some a0), .int a1, .int a2, .int a3, .int a4]) (QI G Q) 0 0 G.2.2.1 := by
  refine m_met (by decide) ?_
  intro p e s m below meth c H locs C hW hS
  have C : Cx p s m ([va_rf (some a0), .int a1, .int a2, .int a3, .int a4] : List Value).toArray meth c cX11_body 6 RX11 (some .int) "body" G := C
  obtain ⟨ls, hent, hL, hla⟩ := m_entry m (vs := [va_rf (some a0), .int a1, .int a2, .int a3, .int a4]) (nn := 6) [1, 1, 1, 1, 1] rfl (by decide)
  rw [hent]
  have h0 : ls[0]? = some (.val (va_rf (some a0))) := hla (0, va_rf (some a0)) (List.mem_of_getElem? (i := 0) rfl)
  have h1 : ls[1]? = some (.val (.int a1)) := hla (1, .int a1) (List.mem_of_getElem? (i := 1) rfl)
  have h2 : ls[2]? = some (.val (.int a2)) := hla (2, .int a2) (List.mem_of_getElem? (i := 2) rfl)
  have h3 : ls[3]? = some (.val (.int a3)) := hla (3, .int a3) (List.mem_of_getElem? (i := 3) rfl)
  have h4 : ls[4]? = some (.val (.int a4)) := hla (4, .int a4) (List.mem_of_getElem? (i := 4) rfl)
  clear hla
  generalize ([va_rf (some a0), .int a1, .int a2, .int a3, .int a4] : List Value).toArray = args at C ⊢
  unfold wp_X11_body at hw
  refine m_aldN C dX11_body_0 rfl h0 ?_
  obtain ⟨hk1, hw⟩ := hw
  refine m_getR C hW rfl hk1 f_X11_10 rfl dX11_body_1 ?_
  refine lv_iload_n C.1 C.2.1 dX11_body_4 rfl h1 ?_
  obtain ⟨b2, ho2, hw⟩ := hw
  obtain ⟨hk3, hw⟩ := hw
  refine m_rI (m_runV (As := [.int a1]) (rest := []) C hW hS hL (c_X9_hasJob hw) v_X11_90 ⟨rfl, rfl⟩ ⟨Nat.le_of_ble_eq_true rfl, Nat.le_of_ble_eq_true rfl⟩ ho2 hk3 rfl rfl (Nat.le_of_ble_eq_true rfl) dX11_body_5 ⟨Nat.le_of_ble_eq_true rfl, Nat.le_of_ble_eq_true rfl⟩) hS (fun r5 S4 H locs hw hW hS => ?_)
  refine lv_if_ne (tgt := 13) C.1 C.2.1 dX11_body_8 (by decide) (fun hc6 => ?_) (fun hc6 => ?_)
  · have hw := hw.2 hc6
    refine lv_iload_n C.1 C.2.1 dX11_body_13 rfl h2 ?_
    refine lv_if_lt (tgt := 22) C.1 C.2.1 dX11_body_14 (by decide) (fun hc7 => ?_) (fun hc7 => ?_)
    · have hw := hw.1 hc7
      refine lv_bipush (v := (-2)) C.1 C.2.1 dX11_body_22 (by decide) ?_
      exact m_iret C hW hS hw dX11_body_24
    · have hw := hw.2 hc7
      refine lv_iload_n C.1 C.2.1 dX11_body_17 rfl h2 ?_
      refine lv_iconst (v := 5) C.1 C.2.1 dX11_body_18 (by decide) ?_
      refine lv_icmp_le (tgt := 25) C.1 C.2.1 dX11_body_19 (by decide) (fun hc8 => ?_) (fun hc8 => ?_)
      · have hw := hw.1 hc8
        refine m_aldN C dX11_body_25 rfl h0 ?_
        obtain ⟨hk9, hw⟩ := hw
        refine m_getR C hW rfl hk9 f_X11_35 rfl dX11_body_26 ?_
        obtain ⟨b10, ho10, hw⟩ := hw
        obtain ⟨hk11, hw⟩ := hw
        refine m_rI (m_runV (As := []) (rest := []) C hW hS hL (c_X8_empty hw) v_X11_46 ⟨rfl, rfl⟩ ⟨Nat.le_of_ble_eq_true rfl, Nat.le_of_ble_eq_true rfl⟩ ho10 hk11 rfl rfl (Nat.le_of_ble_eq_true rfl) dX11_body_29 ⟨Nat.le_of_ble_eq_true rfl, Nat.le_of_ble_eq_true rfl⟩) hS (fun r13 S12 H locs hw hW hS => ?_)
        refine lv_pop C.1 C.2.1 dX11_body_32 (rfl) ?_
        refine m_aldN C dX11_body_33 rfl h0 ?_
        obtain ⟨hk14, hw⟩ := hw
        refine m_getR C hW rfl hk14 f_X11_10 rfl dX11_body_34 ?_
        obtain ⟨b15, ho15, hw⟩ := hw
        obtain ⟨hk16, hw⟩ := hw
        refine m_getR C hW ho15 hk16 f_X11_93 rfl dX11_body_37 ?_
        refine lv_iload_n C.1 C.2.1 dX11_body_40 rfl h1 ?_
        obtain ⟨b17, ho17, hw⟩ := hw
        obtain ⟨hk18, hw⟩ := hw
        obtain ⟨hi19, hw⟩ := hw
        refine m_aald C hW ho17 hk18 (by decide) (by decide) hi19 dX11_body_41 ?_
        obtain ⟨b20, ho20, hw⟩ := hw
        obtain ⟨hk21, hw⟩ := hw
        refine m_getR C hW ho20 hk21 f_X11_142 rfl dX11_body_42 ?_
        refine m_ast_ C hL dX11_body_45 (by decide) (fun ls hL hn9 hk9 => ?_)
        have h2 := hk9 2 _ h2 (by decide) (Or.inl (by decide))
        have h3 := hk9 3 _ h3 (by decide) (Or.inl (by decide))
        have h4 := hk9 4 _ h4 (by decide) (Or.inr (rfl))
        have h5 := hn9
        refine m_ald C dX11_body_47 h5 ?_
        refine lv_iload_n C.1 C.2.1 dX11_body_49 rfl h2 ?_
        obtain ⟨b22, ho22, hw⟩ := hw
        obtain ⟨hk23, hw⟩ := hw
        refine m_putI C hW hS ho22 hk23 p_X11_146 (fun z => by cases z) rfl dX11_body_50 (fun H locs hW hS => ?_)
        refine m_ald C dX11_body_53 h5 ?_
        refine lv_iload_n C.1 C.2.1 dX11_body_55 rfl h3 ?_
        refine m_putI C hW hS ho22 hk23 p_X11_149 (fun z => by cases z) rfl dX11_body_56 (fun H locs hW hS => ?_)
        refine m_ald C dX11_body_59 h5 ?_
        refine lv_iload C.1 C.2.1 dX11_body_61 h4 ?_
        refine m_putI C hW hS ho22 hk23 p_X11_152 (fun z => by cases z) rfl dX11_body_63 (fun H locs hW hS => ?_)
        refine lv_iconst (v := 0) C.1 C.2.1 dX11_body_66 (by decide) ?_
        exact m_iret C hW hS hw dX11_body_67
      · have hw := hw.2 hc8
        refine lv_bipush (v := (-2)) C.1 C.2.1 dX11_body_22 (by decide) ?_
        exact m_iret C hW hS hw dX11_body_24
  · have hw := hw.1 hc6
    refine lv_iconst (v := (-1)) C.1 C.2.1 dX11_body_11 (by decide) ?_
    exact m_iret C hW hS hw dX11_body_12
def wp_X11_piece (S : Hp) (a0 : Nat) (a1 : Int32) (a2 : Int32) (Q : Int32 → Hp → Prop) : Prop := hK S a0 = 13 ∧ ∃ b2 : Nat, (hR S a0 0) = some b2 ∧ hK S b2 = 11 ∧ wp_X9_hasJob S b2 a1 (fun r5 S4 => (r5 = 0 → Q (-1) S4) ∧ (¬ (r5 = 0) → hK S4 a0 = 13 ∧ ∃ b8 : Nat, (hR S4 a0 0) = some b8 ∧ hK S4 b8 = 11 ∧ ∃ b10 : Nat, (hR S4 b8 5) = some b10 ∧ hK S4 b10 = 19 ∧ vp_in a1 (hN S4 b10) ∧ ∃ b13 : Nat, (hR S4 b10 (a1 : Int32).toNatClampNeg) = some b13 ∧ hK S4 b13 = 6 ∧ ∃ b15 : Nat, (hR S4 b13 10) = some b15 ∧ hK S4 b15 = 9 ∧ ((hI S4 b15 4) < 30 → ∃ b18 : Nat, (hR S4 a0 3) = some b18 ∧ hK S4 b18 = 10 ∧ wp_X8_empty S4 b18 (fun r21 S20 => hK S20 b15 = 9 ∧ ∃ b23 : Nat, (hR S20 b15 3) = some b23 ∧ hK S20 b23 = 15 ∧ vp_in (hI S20 b15 4) (hN S20 b23) ∧ Q 0 (sI (sI S20 b23 ((hI S20 b15 4) : Int32).toNatClampNeg a2) b15 4 ((hI (sI S20 b23 ((hI S20 b15 4) : Int32).toNatClampNeg a2) b15 4) + 1)))) ∧ (¬ ((hI S4 b15 4) < 30) → Q (-8) S4)))
set_option maxRecDepth 100000 in
set_option maxHeartbeats 4000000 in
theorem c_X11_piece {l : Launch} {G : GX} {S : Hp} {a0 : Nat} {a1 : Int32} {a2 : Int32} {Q : Int32 → Hp → Prop} (hw : wp_X11_piece S a0 a1 a2 Q) : Met l yX11_piece (Cond.code yX11_piece cX11_piece 4 (some .int) :: TS) { frames := 4, cells := 0, slots := 0, locals := 83 } (Pk G S [va_rf (some a0), .int a1, .int a2]) (QI G Q) 0 0 G.2.2.1 := by
  refine m_met (by decide) ?_
  intro p e s m below meth c H locs C hW hS
  have C : Cx p s m ([va_rf (some a0), .int a1, .int a2] : List Value).toArray meth c cX11_piece 4 RX11 (some .int) "piece" G := C
  obtain ⟨ls, hent, hL, hla⟩ := m_entry m (vs := [va_rf (some a0), .int a1, .int a2]) (nn := 4) [1, 1, 1] rfl (by decide)
  rw [hent]
  have h0 : ls[0]? = some (.val (va_rf (some a0))) := hla (0, va_rf (some a0)) (List.mem_of_getElem? (i := 0) rfl)
  have h1 : ls[1]? = some (.val (.int a1)) := hla (1, .int a1) (List.mem_of_getElem? (i := 1) rfl)
  have h2 : ls[2]? = some (.val (.int a2)) := hla (2, .int a2) (List.mem_of_getElem? (i := 2) rfl)
  clear hla
  generalize ([va_rf (some a0), .int a1, .int a2] : List Value).toArray = args at C ⊢
  unfold wp_X11_piece at hw
  refine m_aldN C dX11_piece_0 rfl h0 ?_
  obtain ⟨hk1, hw⟩ := hw
  refine m_getR C hW rfl hk1 f_X11_10 rfl dX11_piece_1 ?_
  refine lv_iload_n C.1 C.2.1 dX11_piece_4 rfl h1 ?_
  obtain ⟨b2, ho2, hw⟩ := hw
  obtain ⟨hk3, hw⟩ := hw
  refine m_rI (m_runV (As := [.int a1]) (rest := []) C hW hS hL (c_X9_hasJob hw) v_X11_90 ⟨rfl, rfl⟩ ⟨Nat.le_of_ble_eq_true rfl, Nat.le_of_ble_eq_true rfl⟩ ho2 hk3 rfl rfl (Nat.le_of_ble_eq_true rfl) dX11_piece_5 ⟨Nat.le_of_ble_eq_true rfl, Nat.le_of_ble_eq_true rfl⟩) hS (fun r5 S4 H locs hw hW hS => ?_)
  refine lv_if_ne (tgt := 13) C.1 C.2.1 dX11_piece_8 (by decide) (fun hc6 => ?_) (fun hc6 => ?_)
  · have hw := hw.2 hc6
    refine m_aldN C dX11_piece_13 rfl h0 ?_
    obtain ⟨hk7, hw⟩ := hw
    refine m_getR C hW rfl hk7 f_X11_10 rfl dX11_piece_14 ?_
    obtain ⟨b8, ho8, hw⟩ := hw
    obtain ⟨hk9, hw⟩ := hw
    refine m_getR C hW ho8 hk9 f_X11_93 rfl dX11_piece_17 ?_
    refine lv_iload_n C.1 C.2.1 dX11_piece_20 rfl h1 ?_
    obtain ⟨b10, ho10, hw⟩ := hw
    obtain ⟨hk11, hw⟩ := hw
    obtain ⟨hi12, hw⟩ := hw
    refine m_aald C hW ho10 hk11 (by decide) (by decide) hi12 dX11_piece_21 ?_
    obtain ⟨b13, ho13, hw⟩ := hw
    obtain ⟨hk14, hw⟩ := hw
    refine m_getR C hW ho13 hk14 f_X11_142 rfl dX11_piece_22 ?_
    refine m_astN C hL dX11_piece_25 rfl (by decide) (fun ls hL hn9 hk9 => ?_)
    have h0 := hk9 0 _ h0 (by decide) (Or.inl (by decide))
    have h2 := hk9 2 _ h2 (by decide) (Or.inr (rfl))
    have h3 := hn9
    refine m_aldN C dX11_piece_26 rfl h3 ?_
    obtain ⟨b15, ho15, hw⟩ := hw
    obtain ⟨hk16, hw⟩ := hw
    refine m_getI C hW ho15 hk16 f_X11_155 rfl dX11_piece_27 ?_
    refine lv_bipush (v := 30) C.1 C.2.1 dX11_piece_30 (by decide) ?_
    refine lv_icmp_lt (tgt := 38) C.1 C.2.1 dX11_piece_32 (by decide) (fun hc17 => ?_) (fun hc17 => ?_)
    · have hw := hw.1 hc17
      refine m_aldN C dX11_piece_38 rfl h0 ?_
      refine m_getR C hW rfl hk7 f_X11_35 rfl dX11_piece_39 ?_
      obtain ⟨b18, ho18, hw⟩ := hw
      obtain ⟨hk19, hw⟩ := hw
      refine m_rI (m_runV (As := []) (rest := []) C hW hS hL (c_X8_empty hw) v_X11_46 ⟨rfl, rfl⟩ ⟨Nat.le_of_ble_eq_true rfl, Nat.le_of_ble_eq_true rfl⟩ ho18 hk19 rfl rfl (Nat.le_of_ble_eq_true rfl) dX11_piece_42 ⟨Nat.le_of_ble_eq_true rfl, Nat.le_of_ble_eq_true rfl⟩) hS (fun r21 S20 H locs hw hW hS => ?_)
      refine lv_pop C.1 C.2.1 dX11_piece_45 (rfl) ?_
      refine m_aldN C dX11_piece_46 rfl h3 ?_
      obtain ⟨hk22, hw⟩ := hw
      refine m_getR C hW ho15 hk22 f_X11_158 rfl dX11_piece_47 ?_
      refine m_aldN C dX11_piece_50 rfl h3 ?_
      refine m_getI C hW ho15 hk22 f_X11_155 rfl dX11_piece_51 ?_
      refine lv_iload_n C.1 C.2.1 dX11_piece_54 rfl h2 ?_
      obtain ⟨b23, ho23, hw⟩ := hw
      obtain ⟨hk24, hw⟩ := hw
      obtain ⟨hi25, hw⟩ := hw
      refine m_iast C hW hS ho23 hk24 hi25 dX11_piece_55 (fun H locs hW hS => ?_)
      refine m_aldN C dX11_piece_56 rfl h3 ?_
      refine lv_dup C.1 C.2.1 dX11_piece_57 (va_rf_cat _) ?_
      refine m_getI C hW ho15 hk22 f_X11_155 rfl dX11_piece_58 ?_
      refine lv_iconst (v := 1) C.1 C.2.1 dX11_piece_61 (by decide) ?_
      refine lv_iadd C.1 C.2.1 dX11_piece_62 ?_
      refine m_putI C hW hS ho15 hk22 p_X11_155 (fun z => by cases z) rfl dX11_piece_63 (fun H locs hW hS => ?_)
      refine lv_iconst (v := 0) C.1 C.2.1 dX11_piece_66 (by decide) ?_
      exact m_iret C hW hS hw dX11_piece_67
    · have hw := hw.2 hc17
      refine lv_bipush (v := (-8)) C.1 C.2.1 dX11_piece_35 (by decide) ?_
      exact m_iret C hW hS hw dX11_piece_37
  · have hw := hw.1 hc6
    refine lv_iconst (v := (-1)) C.1 C.2.1 dX11_piece_11 (by decide) ?_
    exact m_iret C hW hS hw dX11_piece_12
def wp_X11_strip (S : Hp) (a0 : Nat) (a1 : Int32) (Q : Int32 → Hp → Prop) : Prop := hK S a0 = 13 ∧ ∃ b2 : Nat, (hR S a0 0) = some b2 ∧ hK S b2 = 11 ∧ wp_X9_hasJob S b2 a1 (fun r5 S4 => (r5 = 0 → Q (-1) S4) ∧ (¬ (r5 = 0) → hK S4 a0 = 13 ∧ ∃ b8 : Nat, (hR S4 a0 0) = some b8 ∧ hK S4 b8 = 11 ∧ ∃ b10 : Nat, (hR S4 b8 5) = some b10 ∧ hK S4 b10 = 19 ∧ vp_in a1 (hN S4 b10) ∧ ∃ b13 : Nat, (hR S4 b10 (a1 : Int32).toNatClampNeg) = some b13 ∧ hK S4 b13 = 6 ∧ ∃ b15 : Nat, (hR S4 b13 10) = some b15 ∧ hK S4 b15 = 9 ∧ ((hI S4 b15 4) = 0 → Q (-3) S4) ∧ (¬ ((hI S4 b15 4) = 0) → ∃ b18 : Nat, (hR S4 a0 3) = some b18 ∧ hK S4 b18 = 10 ∧ wp_X8_empty S4 b18 (fun r21 S20 => hK S20 b15 = 9 ∧ Q 0 (sI S20 b15 4 0)))))
set_option maxRecDepth 100000 in
set_option maxHeartbeats 4000000 in
theorem c_X11_strip {l : Launch} {G : GX} {S : Hp} {a0 : Nat} {a1 : Int32} {Q : Int32 → Hp → Prop} (hw : wp_X11_strip S a0 a1 Q) : Met l yX11_strip (Cond.code yX11_strip cX11_strip 3 (some .int) :: TS) { frames := 4, cells := 0, slots := 0, locals := 83 } (Pk G S [va_rf (some a0), .int a1]) (QI G Q) 0 0 G.2.2.1 := by
  refine m_met (by decide) ?_
  intro p e s m below meth c H locs C hW hS
  have C : Cx p s m ([va_rf (some a0), .int a1] : List Value).toArray meth c cX11_strip 3 RX11 (some .int) "strip" G := C
  obtain ⟨ls, hent, hL, hla⟩ := m_entry m (vs := [va_rf (some a0), .int a1]) (nn := 3) [1, 1] rfl (by decide)
  rw [hent]
  have h0 : ls[0]? = some (.val (va_rf (some a0))) := hla (0, va_rf (some a0)) (List.mem_of_getElem? (i := 0) rfl)
  have h1 : ls[1]? = some (.val (.int a1)) := hla (1, .int a1) (List.mem_of_getElem? (i := 1) rfl)
  clear hla
  generalize ([va_rf (some a0), .int a1] : List Value).toArray = args at C ⊢
  unfold wp_X11_strip at hw
  refine m_aldN C dX11_strip_0 rfl h0 ?_
  obtain ⟨hk1, hw⟩ := hw
  refine m_getR C hW rfl hk1 f_X11_10 rfl dX11_strip_1 ?_
  refine lv_iload_n C.1 C.2.1 dX11_strip_4 rfl h1 ?_
  obtain ⟨b2, ho2, hw⟩ := hw
  obtain ⟨hk3, hw⟩ := hw
  refine m_rI (m_runV (As := [.int a1]) (rest := []) C hW hS hL (c_X9_hasJob hw) v_X11_90 ⟨rfl, rfl⟩ ⟨Nat.le_of_ble_eq_true rfl, Nat.le_of_ble_eq_true rfl⟩ ho2 hk3 rfl rfl (Nat.le_of_ble_eq_true rfl) dX11_strip_5 ⟨Nat.le_of_ble_eq_true rfl, Nat.le_of_ble_eq_true rfl⟩) hS (fun r5 S4 H locs hw hW hS => ?_)
  refine lv_if_ne (tgt := 13) C.1 C.2.1 dX11_strip_8 (by decide) (fun hc6 => ?_) (fun hc6 => ?_)
  · have hw := hw.2 hc6
    refine m_aldN C dX11_strip_13 rfl h0 ?_
    obtain ⟨hk7, hw⟩ := hw
    refine m_getR C hW rfl hk7 f_X11_10 rfl dX11_strip_14 ?_
    obtain ⟨b8, ho8, hw⟩ := hw
    obtain ⟨hk9, hw⟩ := hw
    refine m_getR C hW ho8 hk9 f_X11_93 rfl dX11_strip_17 ?_
    refine lv_iload_n C.1 C.2.1 dX11_strip_20 rfl h1 ?_
    obtain ⟨b10, ho10, hw⟩ := hw
    obtain ⟨hk11, hw⟩ := hw
    obtain ⟨hi12, hw⟩ := hw
    refine m_aald C hW ho10 hk11 (by decide) (by decide) hi12 dX11_strip_21 ?_
    obtain ⟨b13, ho13, hw⟩ := hw
    obtain ⟨hk14, hw⟩ := hw
    refine m_getR C hW ho13 hk14 f_X11_142 rfl dX11_strip_22 ?_
    refine m_astN C hL dX11_strip_25 rfl (by decide) (fun ls hL hn9 hk9 => ?_)
    have h0 := hk9 0 _ h0 (by decide) (Or.inl (by decide))
    have h2 := hn9
    refine m_aldN C dX11_strip_26 rfl h2 ?_
    obtain ⟨b15, ho15, hw⟩ := hw
    obtain ⟨hk16, hw⟩ := hw
    refine m_getI C hW ho15 hk16 f_X11_155 rfl dX11_strip_27 ?_
    refine lv_if_ne (tgt := 36) C.1 C.2.1 dX11_strip_30 (by decide) (fun hc17 => ?_) (fun hc17 => ?_)
    · have hw := hw.2 hc17
      refine m_aldN C dX11_strip_36 rfl h0 ?_
      refine m_getR C hW rfl hk7 f_X11_35 rfl dX11_strip_37 ?_
      obtain ⟨b18, ho18, hw⟩ := hw
      obtain ⟨hk19, hw⟩ := hw
      refine m_rI (m_runV (As := []) (rest := []) C hW hS hL (c_X8_empty hw) v_X11_46 ⟨rfl, rfl⟩ ⟨Nat.le_of_ble_eq_true rfl, Nat.le_of_ble_eq_true rfl⟩ ho18 hk19 rfl rfl (Nat.le_of_ble_eq_true rfl) dX11_strip_40 ⟨Nat.le_of_ble_eq_true rfl, Nat.le_of_ble_eq_true rfl⟩) hS (fun r21 S20 H locs hw hW hS => ?_)
      refine lv_pop C.1 C.2.1 dX11_strip_43 (rfl) ?_
      refine m_aldN C dX11_strip_44 rfl h2 ?_
      refine lv_iconst (v := 0) C.1 C.2.1 dX11_strip_45 (by decide) ?_
      obtain ⟨hk22, hw⟩ := hw
      refine m_putI C hW hS ho15 hk22 p_X11_155 (fun z => by cases z) rfl dX11_strip_46 (fun H locs hW hS => ?_)
      refine lv_iconst (v := 0) C.1 C.2.1 dX11_strip_49 (by decide) ?_
      exact m_iret C hW hS hw dX11_strip_50
    · have hw := hw.1 hc17
      refine lv_bipush (v := (-3)) C.1 C.2.1 dX11_strip_33 (by decide) ?_
      exact m_iret C hW hS hw dX11_strip_35
  · have hw := hw.1 hc6
    refine lv_iconst (v := (-1)) C.1 C.2.1 dX11_strip_11 (by decide) ?_
    exact m_iret C hW hS hw dX11_strip_12
def wp_X11_plan (S : Hp) (a0 : Nat) (a1 : Int32) (a2 : Int32) (a3 : Int32) (Q : Int32 → Hp → Prop) : Prop := hK S a0 = 13 ∧ ∃ b2 : Nat, (hR S a0 0) = some b2 ∧ hK S b2 = 11 ∧ wp_X9_hasJob S b2 a1 (fun r5 S4 => (r5 = 0 → Q (-1) S4) ∧ (¬ (r5 = 0) → hK S4 a0 = 13 ∧ ∃ b8 : Nat, (hR S4 a0 0) = some b8 ∧ hK S4 b8 = 11 ∧ ∃ b10 : Nat, (hR S4 b8 5) = some b10 ∧ hK S4 b10 = 19 ∧ vp_in a1 (hN S4 b10) ∧ (a2 < 1 → Q (-2) S4) ∧ (¬ (a2 < 1) → ∃ b14 : Nat, (hR S4 b10 (a1 : Int32).toNatClampNeg) = some b14 ∧ hK S4 b14 = 6 ∧ ((hI S4 b14 2) < a2 → Q (-2) S4) ∧ (¬ ((hI S4 b14 2) < a2) → (a3 < 1 → Q (-2) S4) ∧ (¬ (a3 < 1) → (a3 ≤ 9 → ∃ b19 : Nat, (hR S4 a0 3) = some b19 ∧ hK S4 b19 = 10 ∧ wp_X8_empty S4 b19 (fun r22 S21 => hK S21 b14 = 6 ∧ Q 0 (sI (sI S21 b14 11 a2) b14 12 a3))) ∧ (¬ (a3 ≤ 9) → Q (-2) S4))))))
set_option maxRecDepth 100000 in
set_option maxHeartbeats 4000000 in
theorem c_X11_plan {l : Launch} {G : GX} {S : Hp} {a0 : Nat} {a1 : Int32} {a2 : Int32} {a3 : Int32} {Q : Int32 → Hp → Prop} (hw : wp_X11_plan S a0 a1 a2 a3 Q) : Met l yX11_plan (Cond.code yX11_plan cX11_plan 5 (some .int) :: TS) { frames := 4, cells := 0, slots := 0, locals := 83 } (Pk G S [va_rf (some a0), .int a1, .int a2, .int a3]) (QI G Q) 0 0 G.2.2.1 := by
  refine m_met (by decide) ?_
  intro p e s m below meth c H locs C hW hS
  have C : Cx p s m ([va_rf (some a0), .int a1, .int a2, .int a3] : List Value).toArray meth c cX11_plan 5 RX11 (some .int) "plan" G := C
  obtain ⟨ls, hent, hL, hla⟩ := m_entry m (vs := [va_rf (some a0), .int a1, .int a2, .int a3]) (nn := 5) [1, 1, 1, 1] rfl (by decide)
  rw [hent]
  have h0 : ls[0]? = some (.val (va_rf (some a0))) := hla (0, va_rf (some a0)) (List.mem_of_getElem? (i := 0) rfl)
  have h1 : ls[1]? = some (.val (.int a1)) := hla (1, .int a1) (List.mem_of_getElem? (i := 1) rfl)
  have h2 : ls[2]? = some (.val (.int a2)) := hla (2, .int a2) (List.mem_of_getElem? (i := 2) rfl)
  have h3 : ls[3]? = some (.val (.int a3)) := hla (3, .int a3) (List.mem_of_getElem? (i := 3) rfl)
  clear hla
  generalize ([va_rf (some a0), .int a1, .int a2, .int a3] : List Value).toArray = args at C ⊢
  unfold wp_X11_plan at hw
  refine m_aldN C dX11_plan_0 rfl h0 ?_
  obtain ⟨hk1, hw⟩ := hw
  refine m_getR C hW rfl hk1 f_X11_10 rfl dX11_plan_1 ?_
  refine lv_iload_n C.1 C.2.1 dX11_plan_4 rfl h1 ?_
  obtain ⟨b2, ho2, hw⟩ := hw
  obtain ⟨hk3, hw⟩ := hw
  refine m_rI (m_runV (As := [.int a1]) (rest := []) C hW hS hL (c_X9_hasJob hw) v_X11_90 ⟨rfl, rfl⟩ ⟨Nat.le_of_ble_eq_true rfl, Nat.le_of_ble_eq_true rfl⟩ ho2 hk3 rfl rfl (Nat.le_of_ble_eq_true rfl) dX11_plan_5 ⟨Nat.le_of_ble_eq_true rfl, Nat.le_of_ble_eq_true rfl⟩) hS (fun r5 S4 H locs hw hW hS => ?_)
  refine lv_if_ne (tgt := 13) C.1 C.2.1 dX11_plan_8 (by decide) (fun hc6 => ?_) (fun hc6 => ?_)
  · have hw := hw.2 hc6
    refine m_aldN C dX11_plan_13 rfl h0 ?_
    obtain ⟨hk7, hw⟩ := hw
    refine m_getR C hW rfl hk7 f_X11_10 rfl dX11_plan_14 ?_
    obtain ⟨b8, ho8, hw⟩ := hw
    obtain ⟨hk9, hw⟩ := hw
    refine m_getR C hW ho8 hk9 f_X11_93 rfl dX11_plan_17 ?_
    refine lv_iload_n C.1 C.2.1 dX11_plan_20 rfl h1 ?_
    obtain ⟨b10, ho10, hw⟩ := hw
    obtain ⟨hk11, hw⟩ := hw
    obtain ⟨hi12, hw⟩ := hw
    refine m_aald C hW ho10 hk11 (by decide) (by decide) hi12 dX11_plan_21 ?_
    refine m_ast_ C hL dX11_plan_22 (by decide) (fun ls hL hn9 hk9 => ?_)
    have h0 := hk9 0 _ h0 (by decide) (Or.inl (by decide))
    have h2 := hk9 2 _ h2 (by decide) (Or.inl (by decide))
    have h3 := hk9 3 _ h3 (by decide) (Or.inr (rfl))
    have h4 := hn9
    refine lv_iload_n C.1 C.2.1 dX11_plan_24 rfl h2 ?_
    refine lv_iconst (v := 1) C.1 C.2.1 dX11_plan_25 (by decide) ?_
    refine lv_icmp_lt (tgt := 49) C.1 C.2.1 dX11_plan_26 (by decide) (fun hc13 => ?_) (fun hc13 => ?_)
    · have hw := hw.1 hc13
      refine lv_bipush (v := (-2)) C.1 C.2.1 dX11_plan_49 (by decide) ?_
      exact m_iret C hW hS hw dX11_plan_51
    · have hw := hw.2 hc13
      refine lv_iload_n C.1 C.2.1 dX11_plan_29 rfl h2 ?_
      refine m_ald C dX11_plan_30 h4 ?_
      obtain ⟨b14, ho14, hw⟩ := hw
      obtain ⟨hk15, hw⟩ := hw
      refine m_getI C hW ho14 hk15 f_X11_162 rfl dX11_plan_32 ?_
      refine lv_icmp_gt (tgt := 49) C.1 C.2.1 dX11_plan_35 (by decide) (fun hc16 => ?_) (fun hc16 => ?_)
      · have hw := hw.1 hc16
        refine lv_bipush (v := (-2)) C.1 C.2.1 dX11_plan_49 (by decide) ?_
        exact m_iret C hW hS hw dX11_plan_51
      · have hw := hw.2 hc16
        refine lv_iload_n C.1 C.2.1 dX11_plan_38 rfl h3 ?_
        refine lv_iconst (v := 1) C.1 C.2.1 dX11_plan_39 (by decide) ?_
        refine lv_icmp_lt (tgt := 49) C.1 C.2.1 dX11_plan_40 (by decide) (fun hc17 => ?_) (fun hc17 => ?_)
        · have hw := hw.1 hc17
          refine lv_bipush (v := (-2)) C.1 C.2.1 dX11_plan_49 (by decide) ?_
          exact m_iret C hW hS hw dX11_plan_51
        · have hw := hw.2 hc17
          refine lv_iload_n C.1 C.2.1 dX11_plan_43 rfl h3 ?_
          refine lv_bipush (v := 9) C.1 C.2.1 dX11_plan_44 (by decide) ?_
          refine lv_icmp_le (tgt := 52) C.1 C.2.1 dX11_plan_46 (by decide) (fun hc18 => ?_) (fun hc18 => ?_)
          · have hw := hw.1 hc18
            refine m_aldN C dX11_plan_52 rfl h0 ?_
            refine m_getR C hW rfl hk7 f_X11_35 rfl dX11_plan_53 ?_
            obtain ⟨b19, ho19, hw⟩ := hw
            obtain ⟨hk20, hw⟩ := hw
            refine m_rI (m_runV (As := []) (rest := []) C hW hS hL (c_X8_empty hw) v_X11_46 ⟨rfl, rfl⟩ ⟨Nat.le_of_ble_eq_true rfl, Nat.le_of_ble_eq_true rfl⟩ ho19 hk20 rfl rfl (Nat.le_of_ble_eq_true rfl) dX11_plan_56 ⟨Nat.le_of_ble_eq_true rfl, Nat.le_of_ble_eq_true rfl⟩) hS (fun r22 S21 H locs hw hW hS => ?_)
            refine lv_pop C.1 C.2.1 dX11_plan_59 (rfl) ?_
            refine m_ald C dX11_plan_60 h4 ?_
            refine lv_iload_n C.1 C.2.1 dX11_plan_62 rfl h2 ?_
            obtain ⟨hk23, hw⟩ := hw
            refine m_putI C hW hS ho14 hk23 p_X11_165 (fun z => by cases z) rfl dX11_plan_63 (fun H locs hW hS => ?_)
            refine m_ald C dX11_plan_66 h4 ?_
            refine lv_iload_n C.1 C.2.1 dX11_plan_68 rfl h3 ?_
            refine m_putI C hW hS ho14 hk23 p_X11_168 (fun z => by cases z) rfl dX11_plan_69 (fun H locs hW hS => ?_)
            refine lv_iconst (v := 0) C.1 C.2.1 dX11_plan_72 (by decide) ?_
            exact m_iret C hW hS hw dX11_plan_73
          · have hw := hw.2 hc18
            refine lv_bipush (v := (-2)) C.1 C.2.1 dX11_plan_49 (by decide) ?_
            exact m_iret C hW hS hw dX11_plan_51
  · have hw := hw.1 hc6
    refine lv_iconst (v := (-1)) C.1 C.2.1 dX11_plan_11 (by decide) ?_
    exact m_iret C hW hS hw dX11_plan_12
def wp_X11_clearPlan_L12 (l0 : Nat) (Q : Int32 → Hp → Prop) : Nat → Hp → Int32 → Int32 → Prop
  | 0, _, _, _ => False
  | n + 1, S, l1, l2 => hK S l0 = 13 ∧ ∃ b7 : Nat, (hR S l0 0) = some b7 ∧ hK S b7 = 11 ∧ ((hI S b7 7) ≤ l2 → Q l1 S) ∧ (¬ ((hI S b7 7) ≤ l2) → ∃ b10 : Nat, (hR S b7 5) = some b10 ∧ hK S b10 = 19 ∧ vp_in l2 (hN S b10) ∧ ∃ b13 : Nat, (hR S b10 (l2 : Int32).toNatClampNeg) = some b13 ∧ hK S b13 = 6 ∧ wp_X4_hasPlan S b13 (fun r16 S15 => (r16 = 0 → wp_X11_clearPlan_L12 l0 Q n S15 l1 (l2 + 1)) ∧ (¬ (r16 = 0) → hK S15 b13 = 6 ∧ wp_X11_clearPlan_L12 l0 Q n (sI (sI S15 b13 11 0) b13 12 0) (l1 + 1) (l2 + 1))))
def wp_X11_clearPlan (S : Hp) (a0 : Nat) (Q : Int32 → Hp → Prop) : Prop := hK S a0 = 13 ∧ ∃ b2 : Nat, (hR S a0 3) = some b2 ∧ hK S b2 = 10 ∧ wp_X8_empty S b2 (fun r5 S4 => wp_X11_clearPlan_L12 a0 Q FU S4 0 0)
set_option maxRecDepth 100000 in
set_option maxHeartbeats 4000000 in
theorem w_X11_clearPlan_L12 {p : Program} {l : Launch} {e : Env} {s : State} {m : MethodId} {args : Array Value} {below : List Frame} {meth : Method} {c : Code} {G : GX} {Q : Int32 → Hp → Prop} {l0 : Nat} (C : Cx p s m args meth c cX11_clearPlan 4 RX11 (some .int) "clearPlan" G) :
    ∀ (n : Nat) (S : Hp) (l1 : Int32) (l2 : Int32) (H : Heap) (locs : List Loc) (ls : Array Slot), wd G S H → va_S G.2.2.1 s.heap H locs → LV ls 4 → ls[0]? = some (.val (va_rf (some l0))) → ls[1]? = some (.val (.int l1)) → ls[2]? = some (.val (.int l2)) → wp_X11_clearPlan_L12 l0 Q n S l1 l2 → W p l e ({ frames := 4, cells := 0, slots := 0, locals := 83 } : Room) s m args below meth c H locs 0 0 (MQ below (QI G Q) args s 0 0 G.2.2.1) (F0 m 12 ls []) := by
  intro n
  induction n with
  | zero =>
    intro S l1 l2 H locs ls hW hS hL h0 h1 h2 hw
    exact False.elim hw
  | succ n ih =>
    intro S l1 l2 H locs ls hW hS hL h0 h1 h2 hw
    unfold wp_X11_clearPlan_L12 at hw
    refine lv_iload_n C.1 C.2.1 dX11_clearPlan_12 rfl h2 ?_
    refine m_aldN C dX11_clearPlan_13 rfl h0 ?_
    obtain ⟨hk6, hw⟩ := hw
    refine m_getR C hW rfl hk6 f_X11_10 rfl dX11_clearPlan_14 ?_
    obtain ⟨b7, ho7, hw⟩ := hw
    obtain ⟨hk8, hw⟩ := hw
    refine m_getI C hW ho7 hk8 f_X11_75 rfl dX11_clearPlan_17 ?_
    refine lv_icmp_ge (tgt := 59) C.1 C.2.1 dX11_clearPlan_20 (by decide) (fun hc9 => ?_) (fun hc9 => ?_)
    · have hw := hw.1 hc9
      refine lv_iload_n C.1 C.2.1 dX11_clearPlan_59 rfl h1 ?_
      exact m_iret C hW hS hw dX11_clearPlan_60
    · have hw := hw.2 hc9
      refine m_aldN C dX11_clearPlan_23 rfl h0 ?_
      refine m_getR C hW rfl hk6 f_X11_10 rfl dX11_clearPlan_24 ?_
      refine m_getR C hW ho7 hk8 f_X11_93 rfl dX11_clearPlan_27 ?_
      refine lv_iload_n C.1 C.2.1 dX11_clearPlan_30 rfl h2 ?_
      obtain ⟨b10, ho10, hw⟩ := hw
      obtain ⟨hk11, hw⟩ := hw
      obtain ⟨hi12, hw⟩ := hw
      refine m_aald C hW ho10 hk11 (by decide) (by decide) hi12 dX11_clearPlan_31 ?_
      refine m_astN C hL dX11_clearPlan_32 rfl (by decide) (fun ls hL hn9 hk9 => ?_)
      have h0 := hk9 0 _ h0 (by decide) (Or.inl (by decide))
      have h1 := hk9 1 _ h1 (by decide) (Or.inl (by decide))
      have h2 := hk9 2 _ h2 (by decide) (Or.inr (rfl))
      have h3 := hn9
      refine m_aldN C dX11_clearPlan_33 rfl h3 ?_
      obtain ⟨b13, ho13, hw⟩ := hw
      obtain ⟨hk14, hw⟩ := hw
      refine m_rI (m_runV (As := []) (rest := []) C hW hS hL (c_X4_hasPlan hw) v_X11_171 ⟨rfl, rfl⟩ ⟨Nat.le_of_ble_eq_true rfl, Nat.le_of_ble_eq_true rfl⟩ ho13 hk14 rfl rfl (Nat.le_of_ble_eq_true rfl) dX11_clearPlan_34 ⟨Nat.le_of_ble_eq_true rfl, Nat.le_of_ble_eq_true rfl⟩) hS (fun r16 S15 H locs hw hW hS => ?_)
      refine lv_if_eq (tgt := 53) C.1 C.2.1 dX11_clearPlan_37 (by decide) (fun hc17 => ?_) (fun hc17 => ?_)
      · have hw := hw.1 hc17
        refine m_iinc (v := (l2 + 1)) C hL dX11_clearPlan_53 h2 rfl (by decide) (fun ls hL hn9 hk9 => ?_)
        have h0 := hk9 0 _ h0 (by decide) (Or.inl (by decide))
        have h1 := hk9 1 _ h1 (by decide) (Or.inr (rfl))
        have h2 := hn9
        refine lv_goto (tgt := 12) C.1 C.2.1 dX11_clearPlan_56 (by decide) ?_
        exact ih S15 l1 (l2 + 1) H locs ls hW hS hL h0 h1 h2 hw
      · have hw := hw.2 hc17
        refine m_iinc (v := (l1 + 1)) C hL dX11_clearPlan_40 h1 rfl (by decide) (fun ls hL hn9 hk9 => ?_)
        have h0 := hk9 0 _ h0 (by decide) (Or.inr (va_rf_cat _))
        have h2 := hk9 2 _ h2 (by decide) (Or.inl (by decide))
        have h3 := hk9 3 _ h3 (by decide) (Or.inl (by decide))
        have h1 := hn9
        refine m_aldN C dX11_clearPlan_43 rfl h3 ?_
        refine lv_iconst (v := 0) C.1 C.2.1 dX11_clearPlan_44 (by decide) ?_
        obtain ⟨hk18, hw⟩ := hw
        refine m_putI C hW hS ho13 hk18 p_X11_165 (fun z => by cases z) rfl dX11_clearPlan_45 (fun H locs hW hS => ?_)
        refine m_aldN C dX11_clearPlan_48 rfl h3 ?_
        refine lv_iconst (v := 0) C.1 C.2.1 dX11_clearPlan_49 (by decide) ?_
        refine m_putI C hW hS ho13 hk18 p_X11_168 (fun z => by cases z) rfl dX11_clearPlan_50 (fun H locs hW hS => ?_)
        refine m_iinc (v := (l2 + 1)) C hL dX11_clearPlan_53 h2 rfl (by decide) (fun ls hL hn9 hk9 => ?_)
        have h0 := hk9 0 _ h0 (by decide) (Or.inl (by decide))
        have h1 := hk9 1 _ h1 (by decide) (Or.inr (rfl))
        have h2 := hn9
        refine lv_goto (tgt := 12) C.1 C.2.1 dX11_clearPlan_56 (by decide) ?_
        exact ih (sI (sI S15 b13 11 0) b13 12 0) (l1 + 1) (l2 + 1) H locs ls hW hS hL h0 h1 h2 hw
set_option maxRecDepth 100000 in
set_option maxHeartbeats 4000000 in
theorem c_X11_clearPlan {l : Launch} {G : GX} {S : Hp} {a0 : Nat} {Q : Int32 → Hp → Prop} (hw : wp_X11_clearPlan S a0 Q) : Met l yX11_clearPlan (Cond.code yX11_clearPlan cX11_clearPlan 4 (some .int) :: TS) { frames := 4, cells := 0, slots := 0, locals := 83 } (Pk G S [va_rf (some a0)]) (QI G Q) 0 0 G.2.2.1 := by
  refine m_met (by decide) ?_
  intro p e s m below meth c H locs C hW hS
  have C : Cx p s m ([va_rf (some a0)] : List Value).toArray meth c cX11_clearPlan 4 RX11 (some .int) "clearPlan" G := C
  obtain ⟨ls, hent, hL, hla⟩ := m_entry m (vs := [va_rf (some a0)]) (nn := 4) [1] rfl (by decide)
  rw [hent]
  have h0 : ls[0]? = some (.val (va_rf (some a0))) := hla (0, va_rf (some a0)) (List.mem_of_getElem? (i := 0) rfl)
  clear hla
  generalize ([va_rf (some a0)] : List Value).toArray = args at C ⊢
  unfold wp_X11_clearPlan at hw
  refine m_aldN C dX11_clearPlan_0 rfl h0 ?_
  obtain ⟨hk1, hw⟩ := hw
  refine m_getR C hW rfl hk1 f_X11_35 rfl dX11_clearPlan_1 ?_
  obtain ⟨b2, ho2, hw⟩ := hw
  obtain ⟨hk3, hw⟩ := hw
  refine m_rI (m_runV (As := []) (rest := []) C hW hS hL (c_X8_empty hw) v_X11_46 ⟨rfl, rfl⟩ ⟨Nat.le_of_ble_eq_true rfl, Nat.le_of_ble_eq_true rfl⟩ ho2 hk3 rfl rfl (Nat.le_of_ble_eq_true rfl) dX11_clearPlan_4 ⟨Nat.le_of_ble_eq_true rfl, Nat.le_of_ble_eq_true rfl⟩) hS (fun r5 S4 H locs hw hW hS => ?_)
  refine lv_pop C.1 C.2.1 dX11_clearPlan_7 (rfl) ?_
  refine lv_iconst (v := 0) C.1 C.2.1 dX11_clearPlan_8 (by decide) ?_
  refine m_istN C hL dX11_clearPlan_9 rfl (by decide) (fun ls hL hn9 hk9 => ?_)
  have h0 := hk9 0 _ h0 (by decide) (Or.inr (va_rf_cat _))
  have h1 := hn9
  refine lv_iconst (v := 0) C.1 C.2.1 dX11_clearPlan_10 (by decide) ?_
  refine m_istN C hL dX11_clearPlan_11 rfl (by decide) (fun ls hL hn9 hk9 => ?_)
  have h0 := hk9 0 _ h0 (by decide) (Or.inl (by decide))
  have h1 := hk9 1 _ h1 (by decide) (Or.inr (rfl))
  have h2 := hn9
  exact w_X11_clearPlan_L12 C  FU S4 0 0 H locs ls hW hS hL h0 h1 h2 hw
def wp_X11_run (S : Hp) (a0 : Nat) (a1 : Int32) (Q : Int32 → Hp → Prop) : Prop := (a1 < 1 → Q (-2) S) ∧ (¬ (a1 < 1) → (a1 ≤ 1000000 → hK S a0 = 13 ∧ ∃ b4 : Nat, (hR S a0 3) = some b4 ∧ hK S b4 = 10 ∧ wp_X8_work S b4 a1 (fun r7 S6 => Q r7 S6)) ∧ (¬ (a1 ≤ 1000000) → Q (-2) S))
set_option maxRecDepth 100000 in
set_option maxHeartbeats 4000000 in
theorem c_X11_run {l : Launch} {G : GX} {S : Hp} {a0 : Nat} {a1 : Int32} {Q : Int32 → Hp → Prop} (hw : wp_X11_run S a0 a1 Q) : Met l yX11_run (Cond.code yX11_run cX11_run 2 (some .int) :: TS) { frames := 7, cells := 0, slots := 0, locals := 153 } (Pk G S [va_rf (some a0), .int a1]) (QI G Q) 0 0 G.2.2.1 := by
  refine m_met (by decide) ?_
  intro p e s m below meth c H locs C hW hS
  have C : Cx p s m ([va_rf (some a0), .int a1] : List Value).toArray meth c cX11_run 2 RX11 (some .int) "run" G := C
  obtain ⟨ls, hent, hL, hla⟩ := m_entry m (vs := [va_rf (some a0), .int a1]) (nn := 2) [1, 1] rfl (by decide)
  rw [hent]
  have h0 : ls[0]? = some (.val (va_rf (some a0))) := hla (0, va_rf (some a0)) (List.mem_of_getElem? (i := 0) rfl)
  have h1 : ls[1]? = some (.val (.int a1)) := hla (1, .int a1) (List.mem_of_getElem? (i := 1) rfl)
  clear hla
  generalize ([va_rf (some a0), .int a1] : List Value).toArray = args at C ⊢
  unfold wp_X11_run at hw
  refine lv_iload_n C.1 C.2.1 dX11_run_0 rfl h1 ?_
  refine lv_iconst (v := 1) C.1 C.2.1 dX11_run_1 (by decide) ?_
  refine lv_icmp_lt (tgt := 11) C.1 C.2.1 dX11_run_2 (by decide) (fun hc1 => ?_) (fun hc1 => ?_)
  · have hw := hw.1 hc1
    refine lv_bipush (v := (-2)) C.1 C.2.1 dX11_run_11 (by decide) ?_
    exact m_iret C hW hS hw dX11_run_13
  · have hw := hw.2 hc1
    refine lv_iload_n C.1 C.2.1 dX11_run_5 rfl h1 ?_
    refine lv_ldc (v := 1000000) C.1 C.2.1 C.2.2.2.1 (C.2.2.2.2.1 _ tw_313) dX11_run_6 ?_
    refine lv_icmp_le (tgt := 14) C.1 C.2.1 dX11_run_8 (by decide) (fun hc2 => ?_) (fun hc2 => ?_)
    · have hw := hw.1 hc2
      refine m_aldN C dX11_run_14 rfl h0 ?_
      obtain ⟨hk3, hw⟩ := hw
      refine m_getR C hW rfl hk3 f_X11_35 rfl dX11_run_15 ?_
      refine lv_iload_n C.1 C.2.1 dX11_run_18 rfl h1 ?_
      obtain ⟨b4, ho4, hw⟩ := hw
      obtain ⟨hk5, hw⟩ := hw
      refine m_rI (m_runV (As := [.int a1]) (rest := []) C hW hS hL (c_X8_work hw) v_X11_174 ⟨rfl, rfl⟩ ⟨Nat.le_of_ble_eq_true rfl, Nat.le_of_ble_eq_true rfl⟩ ho4 hk5 rfl rfl (Nat.le_of_ble_eq_true rfl) dX11_run_19 ⟨Nat.le_of_ble_eq_true rfl, Nat.le_of_ble_eq_true rfl⟩) hS (fun r7 S6 H locs hw hW hS => ?_)
      exact m_iret C hW hS hw dX11_run_22
    · have hw := hw.2 hc2
      refine lv_bipush (v := (-2)) C.1 C.2.1 dX11_run_11 (by decide) ?_
      exact m_iret C hW hS hw dX11_run_13
def wp_X11_again (S : Hp) (a0 : Nat) (Q : Int32 → Hp → Prop) : Prop := hK S a0 = 13 ∧ ∃ b2 : Nat, (hR S a0 3) = some b2 ∧ hK S b2 = 10 ∧ wp_X8_empty S b2 (fun r5 S4 => (r5 = 0 ∨ r5 = 1) ∧ Q r5 S4)
set_option maxRecDepth 100000 in
set_option maxHeartbeats 4000000 in
theorem c_X11_again {l : Launch} {G : GX} {S : Hp} {a0 : Nat} {Q : Int32 → Hp → Prop} (hw : wp_X11_again S a0 Q) : Met l yX11_again (Cond.code yX11_again cX11_again 1 (some .boolean) :: TS) { frames := 4, cells := 0, slots := 0, locals := 83 } (Pk G S [va_rf (some a0)]) (QI G Q) 0 0 G.2.2.1 := by
  refine m_met (by decide) ?_
  intro p e s m below meth c H locs C hW hS
  have C : Cx p s m ([va_rf (some a0)] : List Value).toArray meth c cX11_again 1 RX11 (some .boolean) "again" G := C
  obtain ⟨ls, hent, hL, hla⟩ := m_entry m (vs := [va_rf (some a0)]) (nn := 1) [1] rfl (by decide)
  rw [hent]
  have h0 : ls[0]? = some (.val (va_rf (some a0))) := hla (0, va_rf (some a0)) (List.mem_of_getElem? (i := 0) rfl)
  clear hla
  generalize ([va_rf (some a0)] : List Value).toArray = args at C ⊢
  unfold wp_X11_again at hw
  refine m_aldN C dX11_again_0 rfl h0 ?_
  obtain ⟨hk1, hw⟩ := hw
  refine m_getR C hW rfl hk1 f_X11_35 rfl dX11_again_1 ?_
  obtain ⟨b2, ho2, hw⟩ := hw
  obtain ⟨hk3, hw⟩ := hw
  refine m_rI (m_runV (As := []) (rest := []) C hW hS hL (c_X8_empty hw) v_X11_46 ⟨rfl, rfl⟩ ⟨Nat.le_of_ble_eq_true rfl, Nat.le_of_ble_eq_true rfl⟩ ho2 hk3 rfl rfl (Nat.le_of_ble_eq_true rfl) dX11_again_4 ⟨Nat.le_of_ble_eq_true rfl, Nat.le_of_ble_eq_true rfl⟩) hS (fun r5 S4 H locs hw hW hS => ?_)
  obtain ⟨hz6, hw⟩ := hw
  exact m_zret C hW hS hz6 hw dX11_again_7
def wp_X11_failures (S : Hp) (a0 : Nat) (Q : Int32 → Hp → Prop) : Prop := hK S a0 = 13 ∧ ∃ b2 : Nat, (hR S a0 3) = some b2 ∧ hK S b2 = 10 ∧ Q (hI S b2 11) S
set_option maxRecDepth 100000 in
set_option maxHeartbeats 4000000 in
theorem c_X11_failures {l : Launch} {G : GX} {S : Hp} {a0 : Nat} {Q : Int32 → Hp → Prop} (hw : wp_X11_failures S a0 Q) : Met l yX11_failures (Cond.code yX11_failures cX11_failures 1 (some .int) :: TS) { frames := 0, cells := 0, slots := 0, locals := 0 } (Pk G S [va_rf (some a0)]) (QI G Q) 0 0 G.2.2.1 := by
  refine m_met (by decide) ?_
  intro p e s m below meth c H locs C hW hS
  have C : Cx p s m ([va_rf (some a0)] : List Value).toArray meth c cX11_failures 1 RX11 (some .int) "failures" G := C
  obtain ⟨ls, hent, hL, hla⟩ := m_entry m (vs := [va_rf (some a0)]) (nn := 1) [1] rfl (by decide)
  rw [hent]
  have h0 : ls[0]? = some (.val (va_rf (some a0))) := hla (0, va_rf (some a0)) (List.mem_of_getElem? (i := 0) rfl)
  clear hla
  generalize ([va_rf (some a0)] : List Value).toArray = args at C ⊢
  unfold wp_X11_failures at hw
  refine m_aldN C dX11_failures_0 rfl h0 ?_
  obtain ⟨hk1, hw⟩ := hw
  refine m_getR C hW rfl hk1 f_X11_35 rfl dX11_failures_1 ?_
  obtain ⟨b2, ho2, hw⟩ := hw
  obtain ⟨hk3, hw⟩ := hw
  refine m_getI C hW ho2 hk3 f_X11_223 rfl dX11_failures_4 ?_
  exact m_iret C hW hS hw dX11_failures_7
def wp_X11_log (S : Hp) (a0 : Nat) (a1 : Int32) (a2 : Int32) (Q : Int32 → Hp → Prop) : Prop := (a2 = 0 → hK S a0 = 13 ∧ ∃ b2 : Nat, (hR S a0 3) = some b2 ∧ hK S b2 = 10 ∧ ∃ b4 : Nat, (hR S b2 7) = some b4 ∧ hK S b4 = 5 ∧ wp_X3_minuteOf S b4 a1 (fun r7 S6 => Q r7 S6)) ∧ (¬ (a2 = 0) → (a2 = 1 → hK S a0 = 13 ∧ ∃ b10 : Nat, (hR S a0 3) = some b10 ∧ hK S b10 = 10 ∧ ∃ b12 : Nat, (hR S b10 7) = some b12 ∧ hK S b12 = 5 ∧ wp_X3_jobOf S b12 a1 (fun r15 S14 => Q r15 S14)) ∧ (¬ (a2 = 1) → (a2 = 2 → hK S a0 = 13 ∧ ∃ b18 : Nat, (hR S a0 3) = some b18 ∧ hK S b18 = 10 ∧ ∃ b20 : Nat, (hR S b18 7) = some b20 ∧ hK S b20 = 5 ∧ wp_X3_kindOf S b20 a1 (fun r23 S22 => Q r23 S22)) ∧ (¬ (a2 = 2) → Q (-1) S)))
set_option maxRecDepth 100000 in
set_option maxHeartbeats 4000000 in
theorem c_X11_log {l : Launch} {G : GX} {S : Hp} {a0 : Nat} {a1 : Int32} {a2 : Int32} {Q : Int32 → Hp → Prop} (hw : wp_X11_log S a0 a1 a2 Q) : Met l yX11_log (Cond.code yX11_log cX11_log 3 (some .int) :: TS) { frames := 1, cells := 0, slots := 0, locals := 21 } (Pk G S [va_rf (some a0), .int a1, .int a2]) (QI G Q) 0 0 G.2.2.1 := by
  refine m_met (by decide) ?_
  intro p e s m below meth c H locs C hW hS
  have C : Cx p s m ([va_rf (some a0), .int a1, .int a2] : List Value).toArray meth c cX11_log 3 RX11 (some .int) "log" G := C
  obtain ⟨ls, hent, hL, hla⟩ := m_entry m (vs := [va_rf (some a0), .int a1, .int a2]) (nn := 3) [1, 1, 1] rfl (by decide)
  rw [hent]
  have h0 : ls[0]? = some (.val (va_rf (some a0))) := hla (0, va_rf (some a0)) (List.mem_of_getElem? (i := 0) rfl)
  have h1 : ls[1]? = some (.val (.int a1)) := hla (1, .int a1) (List.mem_of_getElem? (i := 1) rfl)
  have h2 : ls[2]? = some (.val (.int a2)) := hla (2, .int a2) (List.mem_of_getElem? (i := 2) rfl)
  clear hla
  generalize ([va_rf (some a0), .int a1, .int a2] : List Value).toArray = args at C ⊢
  unfold wp_X11_log at hw
  refine lv_iload_n C.1 C.2.1 dX11_log_0 rfl h2 ?_
  by_cases hc8 : a2 = 0
  · have hw := hw.1 hc8
    refine lv_tableIn (tgt := 28) (off := 27) C.1 C.2.1 dX11_log_1 (by rw [hc8]; decide) (by rw [hc8]; decide) (by rw [hc8]; rfl) (by decide) ?_
    refine m_aldN C dX11_log_28 rfl h0 ?_
    obtain ⟨hk1, hw⟩ := hw
    refine m_getR C hW rfl hk1 f_X11_35 rfl dX11_log_29 ?_
    obtain ⟨b2, ho2, hw⟩ := hw
    obtain ⟨hk3, hw⟩ := hw
    refine m_getR C hW ho2 hk3 f_X11_255 rfl dX11_log_32 ?_
    refine lv_iload_n C.1 C.2.1 dX11_log_35 rfl h1 ?_
    obtain ⟨b4, ho4, hw⟩ := hw
    obtain ⟨hk5, hw⟩ := hw
    refine m_rI (m_runV (As := [.int a1]) (rest := []) C hW hS hL (c_X3_minuteOf hw) v_X11_259 ⟨rfl, rfl⟩ ⟨Nat.le_of_ble_eq_true rfl, Nat.le_of_ble_eq_true rfl⟩ ho4 hk5 rfl rfl (Nat.le_of_ble_eq_true rfl) dX11_log_36 ⟨Nat.le_of_ble_eq_true rfl, Nat.le_of_ble_eq_true rfl⟩) hS (fun r7 S6 H locs hw hW hS => ?_)
    exact m_iret C hW hS hw dX11_log_39
  · have hw := hw.2 hc8
    by_cases hc16 : a2 = 1
    · have hw := hw.1 hc16
      refine lv_tableIn (tgt := 40) (off := 39) C.1 C.2.1 dX11_log_1 (by rw [hc16]; decide) (by rw [hc16]; decide) (by rw [hc16]; rfl) (by decide) ?_
      refine m_aldN C dX11_log_40 rfl h0 ?_
      obtain ⟨hk9, hw⟩ := hw
      refine m_getR C hW rfl hk9 f_X11_35 rfl dX11_log_41 ?_
      obtain ⟨b10, ho10, hw⟩ := hw
      obtain ⟨hk11, hw⟩ := hw
      refine m_getR C hW ho10 hk11 f_X11_255 rfl dX11_log_44 ?_
      refine lv_iload_n C.1 C.2.1 dX11_log_47 rfl h1 ?_
      obtain ⟨b12, ho12, hw⟩ := hw
      obtain ⟨hk13, hw⟩ := hw
      refine m_rI (m_runV (As := [.int a1]) (rest := []) C hW hS hL (c_X3_jobOf hw) v_X11_264 ⟨rfl, rfl⟩ ⟨Nat.le_of_ble_eq_true rfl, Nat.le_of_ble_eq_true rfl⟩ ho12 hk13 rfl rfl (Nat.le_of_ble_eq_true rfl) dX11_log_48 ⟨Nat.le_of_ble_eq_true rfl, Nat.le_of_ble_eq_true rfl⟩) hS (fun r15 S14 H locs hw hW hS => ?_)
      exact m_iret C hW hS hw dX11_log_51
    · have hw := hw.2 hc16
      by_cases hc24 : a2 = 2
      · have hw := hw.1 hc24
        refine lv_tableIn (tgt := 52) (off := 51) C.1 C.2.1 dX11_log_1 (by rw [hc24]; decide) (by rw [hc24]; decide) (by rw [hc24]; rfl) (by decide) ?_
        refine m_aldN C dX11_log_52 rfl h0 ?_
        obtain ⟨hk17, hw⟩ := hw
        refine m_getR C hW rfl hk17 f_X11_35 rfl dX11_log_53 ?_
        obtain ⟨b18, ho18, hw⟩ := hw
        obtain ⟨hk19, hw⟩ := hw
        refine m_getR C hW ho18 hk19 f_X11_255 rfl dX11_log_56 ?_
        refine lv_iload_n C.1 C.2.1 dX11_log_59 rfl h1 ?_
        obtain ⟨b20, ho20, hw⟩ := hw
        obtain ⟨hk21, hw⟩ := hw
        refine m_rI (m_runV (As := [.int a1]) (rest := []) C hW hS hL (c_X3_kindOf hw) v_X11_267 ⟨rfl, rfl⟩ ⟨Nat.le_of_ble_eq_true rfl, Nat.le_of_ble_eq_true rfl⟩ ho20 hk21 rfl rfl (Nat.le_of_ble_eq_true rfl) dX11_log_60 ⟨Nat.le_of_ble_eq_true rfl, Nat.le_of_ble_eq_true rfl⟩) hS (fun r23 S22 H locs hw hW hS => ?_)
        exact m_iret C hW hS hw dX11_log_63
      · have hw := hw.2 hc24
        refine lv_tableOut (tgt := 64) C.1 C.2.1 dX11_log_1 (tsw_out 0 2 (fun v h1 h2 => ?_)) (by decide) ?_
        · have : v = 0 ∨ v = 1 ∨ v = 2 := by omega
          rcases this with rfl | rfl | rfl
          · exact lv_neT hc8 (by decide)
          · exact lv_neT hc16 (by decide)
          · exact lv_neT hc24 (by decide)
        · refine lv_iconst (v := (-1)) C.1 C.2.1 dX11_log_64 (by decide) ?_
          exact m_iret C hW hS hw dX11_log_65
def wp_X11_critical (S : Hp) (a0 : Nat) (a1 : Int32) (Q : Int32 → Hp → Prop) : Prop := (a1 < 0 → Q (-1) S) ∧ (¬ (a1 < 0) → hK S a0 = 13 ∧ ∃ b3 : Nat, (hR S a0 1) = some b3 ∧ hK S b3 = 8 ∧ wp_X6_chainLength S b3 (fun r6 S5 => (a1 < r6 → hK S5 a0 = 13 ∧ ∃ b9 : Nat, (hR S5 a0 1) = some b9 ∧ hK S5 b9 = 8 ∧ ∃ b11 : Nat, (hR S5 b9 4) = some b11 ∧ hK S5 b11 = 19 ∧ vp_in a1 (hN S5 b11) ∧ ∃ b14 : Nat, (hR S5 b11 (a1 : Int32).toNatClampNeg) = some b14 ∧ hK S5 b14 = 6 ∧ Q (hI S5 b14 0) S5) ∧ (¬ (a1 < r6) → Q (-1) S5)))
set_option maxRecDepth 100000 in
set_option maxHeartbeats 4000000 in
theorem c_X11_critical {l : Launch} {G : GX} {S : Hp} {a0 : Nat} {a1 : Int32} {Q : Int32 → Hp → Prop} (hw : wp_X11_critical S a0 a1 Q) : Met l yX11_critical (Cond.code yX11_critical cX11_critical 2 (some .int) :: TS) { frames := 7, cells := 0, slots := 0, locals := 148 } (Pk G S [va_rf (some a0), .int a1]) (QI G Q) 0 0 G.2.2.1 := by
  refine m_met (by decide) ?_
  intro p e s m below meth c H locs C hW hS
  have C : Cx p s m ([va_rf (some a0), .int a1] : List Value).toArray meth c cX11_critical 2 RX11 (some .int) "critical" G := C
  obtain ⟨ls, hent, hL, hla⟩ := m_entry m (vs := [va_rf (some a0), .int a1]) (nn := 2) [1, 1] rfl (by decide)
  rw [hent]
  have h0 : ls[0]? = some (.val (va_rf (some a0))) := hla (0, va_rf (some a0)) (List.mem_of_getElem? (i := 0) rfl)
  have h1 : ls[1]? = some (.val (.int a1)) := hla (1, .int a1) (List.mem_of_getElem? (i := 1) rfl)
  clear hla
  generalize ([va_rf (some a0), .int a1] : List Value).toArray = args at C ⊢
  unfold wp_X11_critical at hw
  refine lv_iload_n C.1 C.2.1 dX11_critical_0 rfl h1 ?_
  refine lv_if_lt (tgt := 15) C.1 C.2.1 dX11_critical_1 (by decide) (fun hc1 => ?_) (fun hc1 => ?_)
  · have hw := hw.1 hc1
    refine lv_iconst (v := (-1)) C.1 C.2.1 dX11_critical_15 (by decide) ?_
    refine lv_goto (tgt := 31) C.1 C.2.1 dX11_critical_16 (by decide) ?_
    exact m_iret C hW hS hw dX11_critical_31
  · have hw := hw.2 hc1
    refine lv_iload_n C.1 C.2.1 dX11_critical_4 rfl h1 ?_
    refine m_aldN C dX11_critical_5 rfl h0 ?_
    obtain ⟨hk2, hw⟩ := hw
    refine m_getR C hW rfl hk2 f_X11_21 rfl dX11_critical_6 ?_
    obtain ⟨b3, ho3, hw⟩ := hw
    obtain ⟨hk4, hw⟩ := hw
    refine m_rI (m_runV (As := []) (rest := [.int a1]) C hW hS hL (c_X6_chainLength hw) v_X11_270 ⟨rfl, rfl⟩ ⟨Nat.le_of_ble_eq_true rfl, Nat.le_of_ble_eq_true rfl⟩ ho3 hk4 rfl rfl (Nat.le_of_ble_eq_true rfl) dX11_critical_9 ⟨Nat.le_of_ble_eq_true rfl, Nat.le_of_ble_eq_true rfl⟩) hS (fun r6 S5 H locs hw hW hS => ?_)
    refine lv_icmp_lt (tgt := 19) C.1 C.2.1 dX11_critical_12 (by decide) (fun hc7 => ?_) (fun hc7 => ?_)
    · have hw := hw.1 hc7
      refine m_aldN C dX11_critical_19 rfl h0 ?_
      obtain ⟨hk8, hw⟩ := hw
      refine m_getR C hW rfl hk8 f_X11_21 rfl dX11_critical_20 ?_
      obtain ⟨b9, ho9, hw⟩ := hw
      obtain ⟨hk10, hw⟩ := hw
      refine m_getR C hW ho9 hk10 f_X11_273 rfl dX11_critical_23 ?_
      refine lv_iload_n C.1 C.2.1 dX11_critical_26 rfl h1 ?_
      obtain ⟨b11, ho11, hw⟩ := hw
      obtain ⟨hk12, hw⟩ := hw
      obtain ⟨hi13, hw⟩ := hw
      refine m_aald C hW ho11 hk12 (by decide) (by decide) hi13 dX11_critical_27 ?_
      obtain ⟨b14, ho14, hw⟩ := hw
      obtain ⟨hk15, hw⟩ := hw
      refine m_getI C hW ho14 hk15 f_X11_276 rfl dX11_critical_28 ?_
      exact m_iret C hW hS hw dX11_critical_31
    · have hw := hw.2 hc7
      refine lv_iconst (v := (-1)) C.1 C.2.1 dX11_critical_15 (by decide) ?_
      refine lv_goto (tgt := 31) C.1 C.2.1 dX11_critical_16 (by decide) ?_
      exact m_iret C hW hS hw dX11_critical_31
def wp_X11_audit (S : Hp) (a0 : Nat) (Q : Int32 → Hp → Prop) : Prop := Q 0 S
set_option maxRecDepth 100000 in
set_option maxHeartbeats 4000000 in
theorem c_X11_audit {l : Launch} {G : GX} {S : Hp} {a0 : Nat} {Q : Int32 → Hp → Prop} (hw : wp_X11_audit S a0 Q) : Met l yX11_audit (Cond.code yX11_audit cX11_audit 1 (some .int) :: TS) { frames := 0, cells := 0, slots := 0, locals := 0 } (Pk G S [va_rf (some a0)]) (QI G Q) 0 0 G.2.2.1 := by
  refine m_met (by decide) ?_
  intro p e s m below meth c H locs C hW hS
  have C : Cx p s m ([va_rf (some a0)] : List Value).toArray meth c cX11_audit 1 RX11 (some .int) "audit" G := C
  obtain ⟨ls, hent, hL, hla⟩ := m_entry m (vs := [va_rf (some a0)]) (nn := 1) [1] rfl (by decide)
  rw [hent]
  have h0 : ls[0]? = some (.val (va_rf (some a0))) := hla (0, va_rf (some a0)) (List.mem_of_getElem? (i := 0) rfl)
  clear hla
  generalize ([va_rf (some a0)] : List Value).toArray = args at C ⊢
  unfold wp_X11_audit at hw
  refine lv_iconst (v := 0) C.1 C.2.1 dX11_audit_0 (by decide) ?_
  exact m_iret C hW hS hw dX11_audit_1
def wp_X11_count (S : Hp) (a0 : Nat) (a1 : Int32) (Q : Int32 → Hp → Prop) : Prop := (a1 = 0 → hK S a0 = 13 ∧ ∃ b2 : Nat, (hR S a0 0) = some b2 ∧ hK S b2 = 11 ∧ Q (hI S b2 1) S) ∧ (¬ (a1 = 0) → (a1 = 1 → hK S a0 = 13 ∧ ∃ b6 : Nat, (hR S a0 0) = some b6 ∧ hK S b6 = 11 ∧ Q (hI S b6 2) S) ∧ (¬ (a1 = 1) → (a1 = 2 → hK S a0 = 13 ∧ ∃ b10 : Nat, (hR S a0 0) = some b10 ∧ hK S b10 = 11 ∧ Q (hI S b10 3) S) ∧ (¬ (a1 = 2) → (a1 = 3 → hK S a0 = 13 ∧ ∃ b14 : Nat, (hR S a0 0) = some b14 ∧ hK S b14 = 11 ∧ Q (hI S b14 7) S) ∧ (¬ (a1 = 3) → (a1 = 4 → hK S a0 = 13 ∧ ∃ b18 : Nat, (hR S a0 3) = some b18 ∧ hK S b18 = 10 ∧ Q (hI S b18 9) S) ∧ (¬ (a1 = 4) → (a1 = 5 → hK S a0 = 13 ∧ ∃ b22 : Nat, (hR S a0 3) = some b22 ∧ hK S b22 = 10 ∧ ∃ b24 : Nat, (hR S b22 7) = some b24 ∧ hK S b24 = 5 ∧ Q (hI S b24 1) S) ∧ (¬ (a1 = 5) → (a1 = 6 → hK S a0 = 13 ∧ ∃ b28 : Nat, (hR S a0 3) = some b28 ∧ hK S b28 = 10 ∧ Q (hI S b28 10) S) ∧ (¬ (a1 = 6) → (a1 = 7 → hK S a0 = 13 ∧ ∃ b32 : Nat, (hR S a0 1) = some b32 ∧ hK S b32 = 8 ∧ wp_X6_chainLength S b32 (fun r35 S34 => Q r35 S34)) ∧ (¬ (a1 = 7) → (a1 = 8 → hK S a0 = 13 ∧ ∃ b38 : Nat, (hR S a0 1) = some b38 ∧ hK S b38 = 8 ∧ wp_X6_longestTail S b38 (fun r41 S40 => Q r41 S40)) ∧ (¬ (a1 = 8) → Q (-1) S)))))))))
set_option maxRecDepth 100000 in
set_option maxHeartbeats 4000000 in
theorem c_X11_count {l : Launch} {G : GX} {S : Hp} {a0 : Nat} {a1 : Int32} {Q : Int32 → Hp → Prop} (hw : wp_X11_count S a0 a1 Q) : Met l yX11_count (Cond.code yX11_count cX11_count 2 (some .int) :: TS) { frames := 7, cells := 0, slots := 0, locals := 148 } (Pk G S [va_rf (some a0), .int a1]) (QI G Q) 0 0 G.2.2.1 := by
  refine m_met (by decide) ?_
  intro p e s m below meth c H locs C hW hS
  have C : Cx p s m ([va_rf (some a0), .int a1] : List Value).toArray meth c cX11_count 2 RX11 (some .int) "count" G := C
  obtain ⟨ls, hent, hL, hla⟩ := m_entry m (vs := [va_rf (some a0), .int a1]) (nn := 2) [1, 1] rfl (by decide)
  rw [hent]
  have h0 : ls[0]? = some (.val (va_rf (some a0))) := hla (0, va_rf (some a0)) (List.mem_of_getElem? (i := 0) rfl)
  have h1 : ls[1]? = some (.val (.int a1)) := hla (1, .int a1) (List.mem_of_getElem? (i := 1) rfl)
  clear hla
  generalize ([va_rf (some a0), .int a1] : List Value).toArray = args at C ⊢
  unfold wp_X11_count at hw
  refine lv_iload_n C.1 C.2.1 dX11_count_0 rfl h1 ?_
  by_cases hc4 : a1 = 0
  · have hw := hw.1 hc4
    refine lv_tableIn (tgt := 52) (off := 51) C.1 C.2.1 dX11_count_1 (by rw [hc4]; decide) (by rw [hc4]; decide) (by rw [hc4]; rfl) (by decide) ?_
    refine m_aldN C dX11_count_52 rfl h0 ?_
    obtain ⟨hk1, hw⟩ := hw
    refine m_getR C hW rfl hk1 f_X11_10 rfl dX11_count_53 ?_
    obtain ⟨b2, ho2, hw⟩ := hw
    obtain ⟨hk3, hw⟩ := hw
    refine m_getI C hW ho2 hk3 f_X11_39 rfl dX11_count_56 ?_
    exact m_iret C hW hS hw dX11_count_59
  · have hw := hw.2 hc4
    by_cases hc8 : a1 = 1
    · have hw := hw.1 hc8
      refine lv_tableIn (tgt := 60) (off := 59) C.1 C.2.1 dX11_count_1 (by rw [hc8]; decide) (by rw [hc8]; decide) (by rw [hc8]; rfl) (by decide) ?_
      refine m_aldN C dX11_count_60 rfl h0 ?_
      obtain ⟨hk5, hw⟩ := hw
      refine m_getR C hW rfl hk5 f_X11_10 rfl dX11_count_61 ?_
      obtain ⟨b6, ho6, hw⟩ := hw
      obtain ⟨hk7, hw⟩ := hw
      refine m_getI C hW ho6 hk7 f_X11_43 rfl dX11_count_64 ?_
      exact m_iret C hW hS hw dX11_count_67
    · have hw := hw.2 hc8
      by_cases hc12 : a1 = 2
      · have hw := hw.1 hc12
        refine lv_tableIn (tgt := 68) (off := 67) C.1 C.2.1 dX11_count_1 (by rw [hc12]; decide) (by rw [hc12]; decide) (by rw [hc12]; rfl) (by decide) ?_
        refine m_aldN C dX11_count_68 rfl h0 ?_
        obtain ⟨hk9, hw⟩ := hw
        refine m_getR C hW rfl hk9 f_X11_10 rfl dX11_count_69 ?_
        obtain ⟨b10, ho10, hw⟩ := hw
        obtain ⟨hk11, hw⟩ := hw
        refine m_getI C hW ho10 hk11 f_X11_54 rfl dX11_count_72 ?_
        exact m_iret C hW hS hw dX11_count_75
      · have hw := hw.2 hc12
        by_cases hc16 : a1 = 3
        · have hw := hw.1 hc16
          refine lv_tableIn (tgt := 76) (off := 75) C.1 C.2.1 dX11_count_1 (by rw [hc16]; decide) (by rw [hc16]; decide) (by rw [hc16]; rfl) (by decide) ?_
          refine m_aldN C dX11_count_76 rfl h0 ?_
          obtain ⟨hk13, hw⟩ := hw
          refine m_getR C hW rfl hk13 f_X11_10 rfl dX11_count_77 ?_
          obtain ⟨b14, ho14, hw⟩ := hw
          obtain ⟨hk15, hw⟩ := hw
          refine m_getI C hW ho14 hk15 f_X11_75 rfl dX11_count_80 ?_
          exact m_iret C hW hS hw dX11_count_83
        · have hw := hw.2 hc16
          by_cases hc20 : a1 = 4
          · have hw := hw.1 hc20
            refine lv_tableIn (tgt := 84) (off := 83) C.1 C.2.1 dX11_count_1 (by rw [hc20]; decide) (by rw [hc20]; decide) (by rw [hc20]; rfl) (by decide) ?_
            refine m_aldN C dX11_count_84 rfl h0 ?_
            obtain ⟨hk17, hw⟩ := hw
            refine m_getR C hW rfl hk17 f_X11_35 rfl dX11_count_85 ?_
            obtain ⟨b18, ho18, hw⟩ := hw
            obtain ⟨hk19, hw⟩ := hw
            refine m_getI C hW ho18 hk19 f_X11_288 rfl dX11_count_88 ?_
            exact m_iret C hW hS hw dX11_count_91
          · have hw := hw.2 hc20
            by_cases hc26 : a1 = 5
            · have hw := hw.1 hc26
              refine lv_tableIn (tgt := 92) (off := 91) C.1 C.2.1 dX11_count_1 (by rw [hc26]; decide) (by rw [hc26]; decide) (by rw [hc26]; rfl) (by decide) ?_
              refine m_aldN C dX11_count_92 rfl h0 ?_
              obtain ⟨hk21, hw⟩ := hw
              refine m_getR C hW rfl hk21 f_X11_35 rfl dX11_count_93 ?_
              obtain ⟨b22, ho22, hw⟩ := hw
              obtain ⟨hk23, hw⟩ := hw
              refine m_getR C hW ho22 hk23 f_X11_255 rfl dX11_count_96 ?_
              obtain ⟨b24, ho24, hw⟩ := hw
              obtain ⟨hk25, hw⟩ := hw
              refine m_getI C hW ho24 hk25 f_X11_291 rfl dX11_count_99 ?_
              exact m_iret C hW hS hw dX11_count_102
            · have hw := hw.2 hc26
              by_cases hc30 : a1 = 6
              · have hw := hw.1 hc30
                refine lv_tableIn (tgt := 103) (off := 102) C.1 C.2.1 dX11_count_1 (by rw [hc30]; decide) (by rw [hc30]; decide) (by rw [hc30]; rfl) (by decide) ?_
                refine m_aldN C dX11_count_103 rfl h0 ?_
                obtain ⟨hk27, hw⟩ := hw
                refine m_getR C hW rfl hk27 f_X11_35 rfl dX11_count_104 ?_
                obtain ⟨b28, ho28, hw⟩ := hw
                obtain ⟨hk29, hw⟩ := hw
                refine m_getI C hW ho28 hk29 f_X11_292 rfl dX11_count_107 ?_
                exact m_iret C hW hS hw dX11_count_110
              · have hw := hw.2 hc30
                by_cases hc36 : a1 = 7
                · have hw := hw.1 hc36
                  refine lv_tableIn (tgt := 111) (off := 110) C.1 C.2.1 dX11_count_1 (by rw [hc36]; decide) (by rw [hc36]; decide) (by rw [hc36]; rfl) (by decide) ?_
                  refine m_aldN C dX11_count_111 rfl h0 ?_
                  obtain ⟨hk31, hw⟩ := hw
                  refine m_getR C hW rfl hk31 f_X11_21 rfl dX11_count_112 ?_
                  obtain ⟨b32, ho32, hw⟩ := hw
                  obtain ⟨hk33, hw⟩ := hw
                  refine m_rI (m_runV (As := []) (rest := []) C hW hS hL (c_X6_chainLength hw) v_X11_270 ⟨rfl, rfl⟩ ⟨Nat.le_of_ble_eq_true rfl, Nat.le_of_ble_eq_true rfl⟩ ho32 hk33 rfl rfl (Nat.le_of_ble_eq_true rfl) dX11_count_115 ⟨Nat.le_of_ble_eq_true rfl, Nat.le_of_ble_eq_true rfl⟩) hS (fun r35 S34 H locs hw hW hS => ?_)
                  exact m_iret C hW hS hw dX11_count_118
                · have hw := hw.2 hc36
                  by_cases hc42 : a1 = 8
                  · have hw := hw.1 hc42
                    refine lv_tableIn (tgt := 119) (off := 118) C.1 C.2.1 dX11_count_1 (by rw [hc42]; decide) (by rw [hc42]; decide) (by rw [hc42]; rfl) (by decide) ?_
                    refine m_aldN C dX11_count_119 rfl h0 ?_
                    obtain ⟨hk37, hw⟩ := hw
                    refine m_getR C hW rfl hk37 f_X11_21 rfl dX11_count_120 ?_
                    obtain ⟨b38, ho38, hw⟩ := hw
                    obtain ⟨hk39, hw⟩ := hw
                    refine m_rI (m_runV (As := []) (rest := []) C hW hS hL (c_X6_longestTail hw) v_X11_279 ⟨rfl, rfl⟩ ⟨Nat.le_of_ble_eq_true rfl, Nat.le_of_ble_eq_true rfl⟩ ho38 hk39 rfl rfl (Nat.le_of_ble_eq_true rfl) dX11_count_123 ⟨Nat.le_of_ble_eq_true rfl, Nat.le_of_ble_eq_true rfl⟩) hS (fun r41 S40 H locs hw hW hS => ?_)
                    exact m_iret C hW hS hw dX11_count_126
                  · have hw := hw.2 hc42
                    refine lv_tableOut (tgt := 127) C.1 C.2.1 dX11_count_1 (tsw_out 0 8 (fun v h1 h2 => ?_)) (by decide) ?_
                    · have : v = 0 ∨ v = 1 ∨ v = 2 ∨ v = 3 ∨ v = 4 ∨ v = 5 ∨ v = 6 ∨ v = 7 ∨ v = 8 := by omega
                      rcases this with rfl | rfl | rfl | rfl | rfl | rfl | rfl | rfl | rfl
                      · exact lv_neT hc4 (by decide)
                      · exact lv_neT hc8 (by decide)
                      · exact lv_neT hc12 (by decide)
                      · exact lv_neT hc16 (by decide)
                      · exact lv_neT hc20 (by decide)
                      · exact lv_neT hc26 (by decide)
                      · exact lv_neT hc30 (by decide)
                      · exact lv_neT hc36 (by decide)
                      · exact lv_neT hc42 (by decide)
                    · refine lv_iconst (v := (-1)) C.1 C.2.1 dX11_count_127 (by decide) ?_
                      exact m_iret C hW hS hw dX11_count_128
def wp_X12_init (S : Hp) (a0 : Nat) (Q : Hp → Prop) : Prop := ∀ q1 : Nat, hK S q1 = 0 → hK (sN S q1 15 8) a0 = 14 ∧ ∀ q3 : Nat, hK (sR (sN S q1 15 8) a0 5 (some q1)) q3 = 0 → hK (sN (sR (sN S q1 15 8) a0 5 (some q1)) q3 15 60) a0 = 14 ∧ ∀ q5 : Nat, hK (sR (sN (sR (sN S q1 15 8) a0 5 (some q1)) q3 15 60) a0 6 (some q3)) q5 = 0 → hK (sN (sR (sN (sR (sN S q1 15 8) a0 5 (some q1)) q3 15 60) a0 6 (some q3)) q5 15 200) a0 = 14 ∧ ∀ q7 : Nat, hK (sR (sN (sR (sN (sR (sN S q1 15 8) a0 5 (some q1)) q3 15 60) a0 6 (some q3)) q5 15 200) a0 7 (some q5)) q7 = 0 → hK (sN (sR (sN (sR (sN (sR (sN S q1 15 8) a0 5 (some q1)) q3 15 60) a0 6 (some q3)) q5 15 200) a0 7 (some q5)) q7 15 200) a0 = 14 ∧ ∀ q9 : Nat, hK (sR (sN (sR (sN (sR (sN (sR (sN S q1 15 8) a0 5 (some q1)) q3 15 60) a0 6 (some q3)) q5 15 200) a0 7 (some q5)) q7 15 200) a0 8 (some q7)) q9 = 0 → hK (sN (sR (sN (sR (sN (sR (sN (sR (sN S q1 15 8) a0 5 (some q1)) q3 15 60) a0 6 (some q3)) q5 15 200) a0 7 (some q5)) q7 15 200) a0 8 (some q7)) q9 15 200) a0 = 14 ∧ ∀ q11 : Nat, hK (sR (sN (sR (sN (sR (sN (sR (sN (sR (sN S q1 15 8) a0 5 (some q1)) q3 15 60) a0 6 (some q3)) q5 15 200) a0 7 (some q5)) q7 15 200) a0 8 (some q7)) q9 15 200) a0 9 (some q9)) q11 = 0 → hK (sN (sR (sN (sR (sN (sR (sN (sR (sN (sR (sN S q1 15 8) a0 5 (some q1)) q3 15 60) a0 6 (some q3)) q5 15 200) a0 7 (some q5)) q7 15 200) a0 8 (some q7)) q9 15 200) a0 9 (some q9)) q11 17 40000) a0 = 14 ∧ ∀ q13 : Nat, hK (sR (sN (sR (sN (sR (sN (sR (sN (sR (sN (sR (sN S q1 15 8) a0 5 (some q1)) q3 15 60) a0 6 (some q3)) q5 15 200) a0 7 (some q5)) q7 15 200) a0 8 (some q7)) q9 15 200) a0 9 (some q9)) q11 17 40000) a0 10 (some q11)) q13 = 0 → hK (sN (sR (sN (sR (sN (sR (sN (sR (sN (sR (sN (sR (sN S q1 15 8) a0 5 (some q1)) q3 15 60) a0 6 (some q3)) q5 15 200) a0 7 (some q5)) q7 15 200) a0 8 (some q7)) q9 15 200) a0 9 (some q9)) q11 17 40000) a0 10 (some q11)) q13 17 40000) a0 = 14 ∧ ∀ q15 : Nat, hK (sR (sN (sR (sN (sR (sN (sR (sN (sR (sN (sR (sN (sR (sN S q1 15 8) a0 5 (some q1)) q3 15 60) a0 6 (some q3)) q5 15 200) a0 7 (some q5)) q7 15 200) a0 8 (some q7)) q9 15 200) a0 9 (some q9)) q11 17 40000) a0 10 (some q11)) q13 17 40000) a0 11 (some q13)) q15 = 0 → hK (sN (sR (sN (sR (sN (sR (sN (sR (sN (sR (sN (sR (sN (sR (sN S q1 15 8) a0 5 (some q1)) q3 15 60) a0 6 (some q3)) q5 15 200) a0 7 (some q5)) q7 15 200) a0 8 (some q7)) q9 15 200) a0 9 (some q9)) q11 17 40000) a0 10 (some q11)) q13 17 40000) a0 11 (some q13)) q15 17 8000) a0 = 14 ∧ ∀ q17 : Nat, hK (sR (sN (sR (sN (sR (sN (sR (sN (sR (sN (sR (sN (sR (sN (sR (sN S q1 15 8) a0 5 (some q1)) q3 15 60) a0 6 (some q3)) q5 15 200) a0 7 (some q5)) q7 15 200) a0 8 (some q7)) q9 15 200) a0 9 (some q9)) q11 17 40000) a0 10 (some q11)) q13 17 40000) a0 11 (some q13)) q15 17 8000) a0 12 (some q15)) q17 = 0 → hK (sN (sR (sN (sR (sN (sR (sN (sR (sN (sR (sN (sR (sN (sR (sN (sR (sN S q1 15 8) a0 5 (some q1)) q3 15 60) a0 6 (some q3)) q5 15 200) a0 7 (some q5)) q7 15 200) a0 8 (some q7)) q9 15 200) a0 9 (some q9)) q11 17 40000) a0 10 (some q11)) q13 17 40000) a0 11 (some q13)) q15 17 8000) a0 12 (some q15)) q17 15 12000) a0 = 14 ∧ ∀ q19 : Nat, hK (sR (sN (sR (sN (sR (sN (sR (sN (sR (sN (sR (sN (sR (sN (sR (sN (sR (sN S q1 15 8) a0 5 (some q1)) q3 15 60) a0 6 (some q3)) q5 15 200) a0 7 (some q5)) q7 15 200) a0 8 (some q7)) q9 15 200) a0 9 (some q9)) q11 17 40000) a0 10 (some q11)) q13 17 40000) a0 11 (some q13)) q15 17 8000) a0 12 (some q15)) q17 15 12000) a0 13 (some q17)) q19 = 0 → hK (sN (sR (sN (sR (sN (sR (sN (sR (sN (sR (sN (sR (sN (sR (sN (sR (sN (sR (sN S q1 15 8) a0 5 (some q1)) q3 15 60) a0 6 (some q3)) q5 15 200) a0 7 (some q5)) q7 15 200) a0 8 (some q7)) q9 15 200) a0 9 (some q9)) q11 17 40000) a0 10 (some q11)) q13 17 40000) a0 11 (some q13)) q15 17 8000) a0 12 (some q15)) q17 15 12000) a0 13 (some q17)) q19 15 12000) a0 = 14 ∧ ∀ q21 : Nat, hK (sR (sN (sR (sN (sR (sN (sR (sN (sR (sN (sR (sN (sR (sN (sR (sN (sR (sN (sR (sN S q1 15 8) a0 5 (some q1)) q3 15 60) a0 6 (some q3)) q5 15 200) a0 7 (some q5)) q7 15 200) a0 8 (some q7)) q9 15 200) a0 9 (some q9)) q11 17 40000) a0 10 (some q11)) q13 17 40000) a0 11 (some q13)) q15 17 8000) a0 12 (some q15)) q17 15 12000) a0 13 (some q17)) q19 15 12000) a0 14 (some q19)) q21 = 0 → hK (sN (sR (sN (sR (sN (sR (sN (sR (sN (sR (sN (sR (sN (sR (sN (sR (sN (sR (sN (sR (sN S q1 15 8) a0 5 (some q1)) q3 15 60) a0 6 (some q3)) q5 15 200) a0 7 (some q5)) q7 15 200) a0 8 (some q7)) q9 15 200) a0 9 (some q9)) q11 17 40000) a0 10 (some q11)) q13 17 40000) a0 11 (some q13)) q15 17 8000) a0 12 (some q15)) q17 15 12000) a0 13 (some q17)) q19 15 12000) a0 14 (some q19)) q21 15 200) a0 = 14 ∧ ∀ q23 : Nat, hK (sR (sN (sR (sN (sR (sN (sR (sN (sR (sN (sR (sN (sR (sN (sR (sN (sR (sN (sR (sN (sR (sN S q1 15 8) a0 5 (some q1)) q3 15 60) a0 6 (some q3)) q5 15 200) a0 7 (some q5)) q7 15 200) a0 8 (some q7)) q9 15 200) a0 9 (some q9)) q11 17 40000) a0 10 (some q11)) q13 17 40000) a0 11 (some q13)) q15 17 8000) a0 12 (some q15)) q17 15 12000) a0 13 (some q17)) q19 15 12000) a0 14 (some q19)) q21 15 200) a0 15 (some q21)) q23 = 0 → hK (sN (sR (sN (sR (sN (sR (sN (sR (sN (sR (sN (sR (sN (sR (sN (sR (sN (sR (sN (sR (sN (sR (sN S q1 15 8) a0 5 (some q1)) q3 15 60) a0 6 (some q3)) q5 15 200) a0 7 (some q5)) q7 15 200) a0 8 (some q7)) q9 15 200) a0 9 (some q9)) q11 17 40000) a0 10 (some q11)) q13 17 40000) a0 11 (some q13)) q15 17 8000) a0 12 (some q15)) q17 15 12000) a0 13 (some q17)) q19 15 12000) a0 14 (some q19)) q21 15 200) a0 15 (some q21)) q23 15 200) a0 = 14 ∧ ∀ q25 : Nat, hK (sR (sN (sR (sN (sR (sN (sR (sN (sR (sN (sR (sN (sR (sN (sR (sN (sR (sN (sR (sN (sR (sN (sR (sN S q1 15 8) a0 5 (some q1)) q3 15 60) a0 6 (some q3)) q5 15 200) a0 7 (some q5)) q7 15 200) a0 8 (some q7)) q9 15 200) a0 9 (some q9)) q11 17 40000) a0 10 (some q11)) q13 17 40000) a0 11 (some q13)) q15 17 8000) a0 12 (some q15)) q17 15 12000) a0 13 (some q17)) q19 15 12000) a0 14 (some q19)) q21 15 200) a0 15 (some q21)) q23 15 200) a0 16 (some q23)) q25 = 0 → hK (sN (sR (sN (sR (sN (sR (sN (sR (sN (sR (sN (sR (sN (sR (sN (sR (sN (sR (sN (sR (sN (sR (sN (sR (sN S q1 15 8) a0 5 (some q1)) q3 15 60) a0 6 (some q3)) q5 15 200) a0 7 (some q5)) q7 15 200) a0 8 (some q7)) q9 15 200) a0 9 (some q9)) q11 17 40000) a0 10 (some q11)) q13 17 40000) a0 11 (some q13)) q15 17 8000) a0 12 (some q15)) q17 15 12000) a0 13 (some q17)) q19 15 12000) a0 14 (some q19)) q21 15 200) a0 15 (some q21)) q23 15 200) a0 16 (some q23)) q25 15 200) a0 = 14 ∧ ∀ q27 : Nat, hK (sR (sN (sR (sN (sR (sN (sR (sN (sR (sN (sR (sN (sR (sN (sR (sN (sR (sN (sR (sN (sR (sN (sR (sN (sR (sN S q1 15 8) a0 5 (some q1)) q3 15 60) a0 6 (some q3)) q5 15 200) a0 7 (some q5)) q7 15 200) a0 8 (some q7)) q9 15 200) a0 9 (some q9)) q11 17 40000) a0 10 (some q11)) q13 17 40000) a0 11 (some q13)) q15 17 8000) a0 12 (some q15)) q17 15 12000) a0 13 (some q17)) q19 15 12000) a0 14 (some q19)) q21 15 200) a0 15 (some q21)) q23 15 200) a0 16 (some q23)) q25 15 200) a0 17 (some q25)) q27 = 0 → hK (sN (sR (sN (sR (sN (sR (sN (sR (sN (sR (sN (sR (sN (sR (sN (sR (sN (sR (sN (sR (sN (sR (sN (sR (sN (sR (sN S q1 15 8) a0 5 (some q1)) q3 15 60) a0 6 (some q3)) q5 15 200) a0 7 (some q5)) q7 15 200) a0 8 (some q7)) q9 15 200) a0 9 (some q9)) q11 17 40000) a0 10 (some q11)) q13 17 40000) a0 11 (some q13)) q15 17 8000) a0 12 (some q15)) q17 15 12000) a0 13 (some q17)) q19 15 12000) a0 14 (some q19)) q21 15 200) a0 15 (some q21)) q23 15 200) a0 16 (some q23)) q25 15 200) a0 17 (some q25)) q27 15 6000) a0 = 14 ∧ ∀ q29 : Nat, hK (sR (sN (sR (sN (sR (sN (sR (sN (sR (sN (sR (sN (sR (sN (sR (sN (sR (sN (sR (sN (sR (sN (sR (sN (sR (sN (sR (sN S q1 15 8) a0 5 (some q1)) q3 15 60) a0 6 (some q3)) q5 15 200) a0 7 (some q5)) q7 15 200) a0 8 (some q7)) q9 15 200) a0 9 (some q9)) q11 17 40000) a0 10 (some q11)) q13 17 40000) a0 11 (some q13)) q15 17 8000) a0 12 (some q15)) q17 15 12000) a0 13 (some q17)) q19 15 12000) a0 14 (some q19)) q21 15 200) a0 15 (some q21)) q23 15 200) a0 16 (some q23)) q25 15 200) a0 17 (some q25)) q27 15 6000) a0 18 (some q27)) q29 = 0 → hK (sN (sR (sN (sR (sN (sR (sN (sR (sN (sR (sN (sR (sN (sR (sN (sR (sN (sR (sN (sR (sN (sR (sN (sR (sN (sR (sN (sR (sN S q1 15 8) a0 5 (some q1)) q3 15 60) a0 6 (some q3)) q5 15 200) a0 7 (some q5)) q7 15 200) a0 8 (some q7)) q9 15 200) a0 9 (some q9)) q11 17 40000) a0 10 (some q11)) q13 17 40000) a0 11 (some q13)) q15 17 8000) a0 12 (some q15)) q17 15 12000) a0 13 (some q17)) q19 15 12000) a0 14 (some q19)) q21 15 200) a0 15 (some q21)) q23 15 200) a0 16 (some q23)) q25 15 200) a0 17 (some q25)) q27 15 6000) a0 18 (some q27)) q29 15 200) a0 = 14 ∧ ∀ q31 : Nat, hK (sR (sN (sR (sN (sR (sN (sR (sN (sR (sN (sR (sN (sR (sN (sR (sN (sR (sN (sR (sN (sR (sN (sR (sN (sR (sN (sR (sN (sR (sN S q1 15 8) a0 5 (some q1)) q3 15 60) a0 6 (some q3)) q5 15 200) a0 7 (some q5)) q7 15 200) a0 8 (some q7)) q9 15 200) a0 9 (some q9)) q11 17 40000) a0 10 (some q11)) q13 17 40000) a0 11 (some q13)) q15 17 8000) a0 12 (some q15)) q17 15 12000) a0 13 (some q17)) q19 15 12000) a0 14 (some q19)) q21 15 200) a0 15 (some q21)) q23 15 200) a0 16 (some q23)) q25 15 200) a0 17 (some q25)) q27 15 6000) a0 18 (some q27)) q29 15 200) a0 19 (some q29)) q31 = 0 → hK (sN (sR (sN (sR (sN (sR (sN (sR (sN (sR (sN (sR (sN (sR (sN (sR (sN (sR (sN (sR (sN (sR (sN (sR (sN (sR (sN (sR (sN (sR (sN S q1 15 8) a0 5 (some q1)) q3 15 60) a0 6 (some q3)) q5 15 200) a0 7 (some q5)) q7 15 200) a0 8 (some q7)) q9 15 200) a0 9 (some q9)) q11 17 40000) a0 10 (some q11)) q13 17 40000) a0 11 (some q13)) q15 17 8000) a0 12 (some q15)) q17 15 12000) a0 13 (some q17)) q19 15 12000) a0 14 (some q19)) q21 15 200) a0 15 (some q21)) q23 15 200) a0 16 (some q23)) q25 15 200) a0 17 (some q25)) q27 15 6000) a0 18 (some q27)) q29 15 200) a0 19 (some q29)) q31 15 200) a0 = 14 ∧ ∀ q33 : Nat, hK (sR (sN (sR (sN (sR (sN (sR (sN (sR (sN (sR (sN (sR (sN (sR (sN (sR (sN (sR (sN (sR (sN (sR (sN (sR (sN (sR (sN (sR (sN (sR (sN S q1 15 8) a0 5 (some q1)) q3 15 60) a0 6 (some q3)) q5 15 200) a0 7 (some q5)) q7 15 200) a0 8 (some q7)) q9 15 200) a0 9 (some q9)) q11 17 40000) a0 10 (some q11)) q13 17 40000) a0 11 (some q13)) q15 17 8000) a0 12 (some q15)) q17 15 12000) a0 13 (some q17)) q19 15 12000) a0 14 (some q19)) q21 15 200) a0 15 (some q21)) q23 15 200) a0 16 (some q23)) q25 15 200) a0 17 (some q25)) q27 15 6000) a0 18 (some q27)) q29 15 200) a0 19 (some q29)) q31 15 200) a0 20 (some q31)) q33 = 0 → hK (sN (sR (sN (sR (sN (sR (sN (sR (sN (sR (sN (sR (sN (sR (sN (sR (sN (sR (sN (sR (sN (sR (sN (sR (sN (sR (sN (sR (sN (sR (sN (sR (sN S q1 15 8) a0 5 (some q1)) q3 15 60) a0 6 (some q3)) q5 15 200) a0 7 (some q5)) q7 15 200) a0 8 (some q7)) q9 15 200) a0 9 (some q9)) q11 17 40000) a0 10 (some q11)) q13 17 40000) a0 11 (some q13)) q15 17 8000) a0 12 (some q15)) q17 15 12000) a0 13 (some q17)) q19 15 12000) a0 14 (some q19)) q21 15 200) a0 15 (some q21)) q23 15 200) a0 16 (some q23)) q25 15 200) a0 17 (some q25)) q27 15 6000) a0 18 (some q27)) q29 15 200) a0 19 (some q29)) q31 15 200) a0 20 (some q31)) q33 15 200) a0 = 14 ∧ ∀ q35 : Nat, hK (sR (sN (sR (sN (sR (sN (sR (sN (sR (sN (sR (sN (sR (sN (sR (sN (sR (sN (sR (sN (sR (sN (sR (sN (sR (sN (sR (sN (sR (sN (sR (sN (sR (sN S q1 15 8) a0 5 (some q1)) q3 15 60) a0 6 (some q3)) q5 15 200) a0 7 (some q5)) q7 15 200) a0 8 (some q7)) q9 15 200) a0 9 (some q9)) q11 17 40000) a0 10 (some q11)) q13 17 40000) a0 11 (some q13)) q15 17 8000) a0 12 (some q15)) q17 15 12000) a0 13 (some q17)) q19 15 12000) a0 14 (some q19)) q21 15 200) a0 15 (some q21)) q23 15 200) a0 16 (some q23)) q25 15 200) a0 17 (some q25)) q27 15 6000) a0 18 (some q27)) q29 15 200) a0 19 (some q29)) q31 15 200) a0 20 (some q31)) q33 15 200) a0 21 (some q33)) q35 = 0 → hK (sN (sR (sN (sR (sN (sR (sN (sR (sN (sR (sN (sR (sN (sR (sN (sR (sN (sR (sN (sR (sN (sR (sN (sR (sN (sR (sN (sR (sN (sR (sN (sR (sN (sR (sN S q1 15 8) a0 5 (some q1)) q3 15 60) a0 6 (some q3)) q5 15 200) a0 7 (some q5)) q7 15 200) a0 8 (some q7)) q9 15 200) a0 9 (some q9)) q11 17 40000) a0 10 (some q11)) q13 17 40000) a0 11 (some q13)) q15 17 8000) a0 12 (some q15)) q17 15 12000) a0 13 (some q17)) q19 15 12000) a0 14 (some q19)) q21 15 200) a0 15 (some q21)) q23 15 200) a0 16 (some q23)) q25 15 200) a0 17 (some q25)) q27 15 6000) a0 18 (some q27)) q29 15 200) a0 19 (some q29)) q31 15 200) a0 20 (some q31)) q33 15 200) a0 21 (some q33)) q35 15 200) a0 = 14 ∧ ∀ q37 : Nat, hK (sR (sN (sR (sN (sR (sN (sR (sN (sR (sN (sR (sN (sR (sN (sR (sN (sR (sN (sR (sN (sR (sN (sR (sN (sR (sN (sR (sN (sR (sN (sR (sN (sR (sN (sR (sN S q1 15 8) a0 5 (some q1)) q3 15 60) a0 6 (some q3)) q5 15 200) a0 7 (some q5)) q7 15 200) a0 8 (some q7)) q9 15 200) a0 9 (some q9)) q11 17 40000) a0 10 (some q11)) q13 17 40000) a0 11 (some q13)) q15 17 8000) a0 12 (some q15)) q17 15 12000) a0 13 (some q17)) q19 15 12000) a0 14 (some q19)) q21 15 200) a0 15 (some q21)) q23 15 200) a0 16 (some q23)) q25 15 200) a0 17 (some q25)) q27 15 6000) a0 18 (some q27)) q29 15 200) a0 19 (some q29)) q31 15 200) a0 20 (some q31)) q33 15 200) a0 21 (some q33)) q35 15 200) a0 26 (some q35)) q37 = 0 → hK (sN (sR (sN (sR (sN (sR (sN (sR (sN (sR (sN (sR (sN (sR (sN (sR (sN (sR (sN (sR (sN (sR (sN (sR (sN (sR (sN (sR (sN (sR (sN (sR (sN (sR (sN (sR (sN S q1 15 8) a0 5 (some q1)) q3 15 60) a0 6 (some q3)) q5 15 200) a0 7 (some q5)) q7 15 200) a0 8 (some q7)) q9 15 200) a0 9 (some q9)) q11 17 40000) a0 10 (some q11)) q13 17 40000) a0 11 (some q13)) q15 17 8000) a0 12 (some q15)) q17 15 12000) a0 13 (some q17)) q19 15 12000) a0 14 (some q19)) q21 15 200) a0 15 (some q21)) q23 15 200) a0 16 (some q23)) q25 15 200) a0 17 (some q25)) q27 15 6000) a0 18 (some q27)) q29 15 200) a0 19 (some q29)) q31 15 200) a0 20 (some q31)) q33 15 200) a0 21 (some q33)) q35 15 200) a0 26 (some q35)) q37 15 200) a0 = 14 ∧ ∀ q39 : Nat, hK (sR (sN (sR (sN (sR (sN (sR (sN (sR (sN (sR (sN (sR (sN (sR (sN (sR (sN (sR (sN (sR (sN (sR (sN (sR (sN (sR (sN (sR (sN (sR (sN (sR (sN (sR (sN (sR (sN S q1 15 8) a0 5 (some q1)) q3 15 60) a0 6 (some q3)) q5 15 200) a0 7 (some q5)) q7 15 200) a0 8 (some q7)) q9 15 200) a0 9 (some q9)) q11 17 40000) a0 10 (some q11)) q13 17 40000) a0 11 (some q13)) q15 17 8000) a0 12 (some q15)) q17 15 12000) a0 13 (some q17)) q19 15 12000) a0 14 (some q19)) q21 15 200) a0 15 (some q21)) q23 15 200) a0 16 (some q23)) q25 15 200) a0 17 (some q25)) q27 15 6000) a0 18 (some q27)) q29 15 200) a0 19 (some q29)) q31 15 200) a0 20 (some q31)) q33 15 200) a0 21 (some q33)) q35 15 200) a0 26 (some q35)) q37 15 200) a0 27 (some q37)) q39 = 0 → hK (sN (sR (sN (sR (sN (sR (sN (sR (sN (sR (sN (sR (sN (sR (sN (sR (sN (sR (sN (sR (sN (sR (sN (sR (sN (sR (sN (sR (sN (sR (sN (sR (sN (sR (sN (sR (sN (sR (sN S q1 15 8) a0 5 (some q1)) q3 15 60) a0 6 (some q3)) q5 15 200) a0 7 (some q5)) q7 15 200) a0 8 (some q7)) q9 15 200) a0 9 (some q9)) q11 17 40000) a0 10 (some q11)) q13 17 40000) a0 11 (some q13)) q15 17 8000) a0 12 (some q15)) q17 15 12000) a0 13 (some q17)) q19 15 12000) a0 14 (some q19)) q21 15 200) a0 15 (some q21)) q23 15 200) a0 16 (some q23)) q25 15 200) a0 17 (some q25)) q27 15 6000) a0 18 (some q27)) q29 15 200) a0 19 (some q29)) q31 15 200) a0 20 (some q31)) q33 15 200) a0 21 (some q33)) q35 15 200) a0 26 (some q35)) q37 15 200) a0 27 (some q37)) q39 15 200) a0 = 14 ∧ ∀ q41 : Nat, hK (sR (sN (sR (sN (sR (sN (sR (sN (sR (sN (sR (sN (sR (sN (sR (sN (sR (sN (sR (sN (sR (sN (sR (sN (sR (sN (sR (sN (sR (sN (sR (sN (sR (sN (sR (sN (sR (sN (sR (sN S q1 15 8) a0 5 (some q1)) q3 15 60) a0 6 (some q3)) q5 15 200) a0 7 (some q5)) q7 15 200) a0 8 (some q7)) q9 15 200) a0 9 (some q9)) q11 17 40000) a0 10 (some q11)) q13 17 40000) a0 11 (some q13)) q15 17 8000) a0 12 (some q15)) q17 15 12000) a0 13 (some q17)) q19 15 12000) a0 14 (some q19)) q21 15 200) a0 15 (some q21)) q23 15 200) a0 16 (some q23)) q25 15 200) a0 17 (some q25)) q27 15 6000) a0 18 (some q27)) q29 15 200) a0 19 (some q29)) q31 15 200) a0 20 (some q31)) q33 15 200) a0 21 (some q33)) q35 15 200) a0 26 (some q35)) q37 15 200) a0 27 (some q37)) q39 15 200) a0 28 (some q39)) q41 = 0 → hK (sN (sR (sN (sR (sN (sR (sN (sR (sN (sR (sN (sR (sN (sR (sN (sR (sN (sR (sN (sR (sN (sR (sN (sR (sN (sR (sN (sR (sN (sR (sN (sR (sN (sR (sN (sR (sN (sR (sN (sR (sN S q1 15 8) a0 5 (some q1)) q3 15 60) a0 6 (some q3)) q5 15 200) a0 7 (some q5)) q7 15 200) a0 8 (some q7)) q9 15 200) a0 9 (some q9)) q11 17 40000) a0 10 (some q11)) q13 17 40000) a0 11 (some q13)) q15 17 8000) a0 12 (some q15)) q17 15 12000) a0 13 (some q17)) q19 15 12000) a0 14 (some q19)) q21 15 200) a0 15 (some q21)) q23 15 200) a0 16 (some q23)) q25 15 200) a0 17 (some q25)) q27 15 6000) a0 18 (some q27)) q29 15 200) a0 19 (some q29)) q31 15 200) a0 20 (some q31)) q33 15 200) a0 21 (some q33)) q35 15 200) a0 26 (some q35)) q37 15 200) a0 27 (some q37)) q39 15 200) a0 28 (some q39)) q41 15 200) a0 = 14 ∧ ∀ q43 : Nat, hK (sR (sN (sR (sN (sR (sN (sR (sN (sR (sN (sR (sN (sR (sN (sR (sN (sR (sN (sR (sN (sR (sN (sR (sN (sR (sN (sR (sN (sR (sN (sR (sN (sR (sN (sR (sN (sR (sN (sR (sN (sR (sN S q1 15 8) a0 5 (some q1)) q3 15 60) a0 6 (some q3)) q5 15 200) a0 7 (some q5)) q7 15 200) a0 8 (some q7)) q9 15 200) a0 9 (some q9)) q11 17 40000) a0 10 (some q11)) q13 17 40000) a0 11 (some q13)) q15 17 8000) a0 12 (some q15)) q17 15 12000) a0 13 (some q17)) q19 15 12000) a0 14 (some q19)) q21 15 200) a0 15 (some q21)) q23 15 200) a0 16 (some q23)) q25 15 200) a0 17 (some q25)) q27 15 6000) a0 18 (some q27)) q29 15 200) a0 19 (some q29)) q31 15 200) a0 20 (some q31)) q33 15 200) a0 21 (some q33)) q35 15 200) a0 26 (some q35)) q37 15 200) a0 27 (some q37)) q39 15 200) a0 28 (some q39)) q41 15 200) a0 29 (some q41)) q43 = 0 → hK (sN (sR (sN (sR (sN (sR (sN (sR (sN (sR (sN (sR (sN (sR (sN (sR (sN (sR (sN (sR (sN (sR (sN (sR (sN (sR (sN (sR (sN (sR (sN (sR (sN (sR (sN (sR (sN (sR (sN (sR (sN (sR (sN S q1 15 8) a0 5 (some q1)) q3 15 60) a0 6 (some q3)) q5 15 200) a0 7 (some q5)) q7 15 200) a0 8 (some q7)) q9 15 200) a0 9 (some q9)) q11 17 40000) a0 10 (some q11)) q13 17 40000) a0 11 (some q13)) q15 17 8000) a0 12 (some q15)) q17 15 12000) a0 13 (some q17)) q19 15 12000) a0 14 (some q19)) q21 15 200) a0 15 (some q21)) q23 15 200) a0 16 (some q23)) q25 15 200) a0 17 (some q25)) q27 15 6000) a0 18 (some q27)) q29 15 200) a0 19 (some q29)) q31 15 200) a0 20 (some q31)) q33 15 200) a0 21 (some q33)) q35 15 200) a0 26 (some q35)) q37 15 200) a0 27 (some q37)) q39 15 200) a0 28 (some q39)) q41 15 200) a0 29 (some q41)) q43 15 200) a0 = 14 ∧ ∀ q45 : Nat, hK (sR (sN (sR (sN (sR (sN (sR (sN (sR (sN (sR (sN (sR (sN (sR (sN (sR (sN (sR (sN (sR (sN (sR (sN (sR (sN (sR (sN (sR (sN (sR (sN (sR (sN (sR (sN (sR (sN (sR (sN (sR (sN (sR (sN S q1 15 8) a0 5 (some q1)) q3 15 60) a0 6 (some q3)) q5 15 200) a0 7 (some q5)) q7 15 200) a0 8 (some q7)) q9 15 200) a0 9 (some q9)) q11 17 40000) a0 10 (some q11)) q13 17 40000) a0 11 (some q13)) q15 17 8000) a0 12 (some q15)) q17 15 12000) a0 13 (some q17)) q19 15 12000) a0 14 (some q19)) q21 15 200) a0 15 (some q21)) q23 15 200) a0 16 (some q23)) q25 15 200) a0 17 (some q25)) q27 15 6000) a0 18 (some q27)) q29 15 200) a0 19 (some q29)) q31 15 200) a0 20 (some q31)) q33 15 200) a0 21 (some q33)) q35 15 200) a0 26 (some q35)) q37 15 200) a0 27 (some q37)) q39 15 200) a0 28 (some q39)) q41 15 200) a0 29 (some q41)) q43 15 200) a0 30 (some q43)) q45 = 0 → hK (sN (sR (sN (sR (sN (sR (sN (sR (sN (sR (sN (sR (sN (sR (sN (sR (sN (sR (sN (sR (sN (sR (sN (sR (sN (sR (sN (sR (sN (sR (sN (sR (sN (sR (sN (sR (sN (sR (sN (sR (sN (sR (sN (sR (sN S q1 15 8) a0 5 (some q1)) q3 15 60) a0 6 (some q3)) q5 15 200) a0 7 (some q5)) q7 15 200) a0 8 (some q7)) q9 15 200) a0 9 (some q9)) q11 17 40000) a0 10 (some q11)) q13 17 40000) a0 11 (some q13)) q15 17 8000) a0 12 (some q15)) q17 15 12000) a0 13 (some q17)) q19 15 12000) a0 14 (some q19)) q21 15 200) a0 15 (some q21)) q23 15 200) a0 16 (some q23)) q25 15 200) a0 17 (some q25)) q27 15 6000) a0 18 (some q27)) q29 15 200) a0 19 (some q29)) q31 15 200) a0 20 (some q31)) q33 15 200) a0 21 (some q33)) q35 15 200) a0 26 (some q35)) q37 15 200) a0 27 (some q37)) q39 15 200) a0 28 (some q39)) q41 15 200) a0 29 (some q41)) q43 15 200) a0 30 (some q43)) q45 15 200) a0 = 14 ∧ ∀ q47 : Nat, hK (sR (sN (sR (sN (sR (sN (sR (sN (sR (sN (sR (sN (sR (sN (sR (sN (sR (sN (sR (sN (sR (sN (sR (sN (sR (sN (sR (sN (sR (sN (sR (sN (sR (sN (sR (sN (sR (sN (sR (sN (sR (sN (sR (sN (sR (sN S q1 15 8) a0 5 (some q1)) q3 15 60) a0 6 (some q3)) q5 15 200) a0 7 (some q5)) q7 15 200) a0 8 (some q7)) q9 15 200) a0 9 (some q9)) q11 17 40000) a0 10 (some q11)) q13 17 40000) a0 11 (some q13)) q15 17 8000) a0 12 (some q15)) q17 15 12000) a0 13 (some q17)) q19 15 12000) a0 14 (some q19)) q21 15 200) a0 15 (some q21)) q23 15 200) a0 16 (some q23)) q25 15 200) a0 17 (some q25)) q27 15 6000) a0 18 (some q27)) q29 15 200) a0 19 (some q29)) q31 15 200) a0 20 (some q31)) q33 15 200) a0 21 (some q33)) q35 15 200) a0 26 (some q35)) q37 15 200) a0 27 (some q37)) q39 15 200) a0 28 (some q39)) q41 15 200) a0 29 (some q41)) q43 15 200) a0 30 (some q43)) q45 15 200) a0 31 (some q45)) q47 = 0 → hK (sN (sR (sN (sR (sN (sR (sN (sR (sN (sR (sN (sR (sN (sR (sN (sR (sN (sR (sN (sR (sN (sR (sN (sR (sN (sR (sN (sR (sN (sR (sN (sR (sN (sR (sN (sR (sN (sR (sN (sR (sN (sR (sN (sR (sN (sR (sN S q1 15 8) a0 5 (some q1)) q3 15 60) a0 6 (some q3)) q5 15 200) a0 7 (some q5)) q7 15 200) a0 8 (some q7)) q9 15 200) a0 9 (some q9)) q11 17 40000) a0 10 (some q11)) q13 17 40000) a0 11 (some q13)) q15 17 8000) a0 12 (some q15)) q17 15 12000) a0 13 (some q17)) q19 15 12000) a0 14 (some q19)) q21 15 200) a0 15 (some q21)) q23 15 200) a0 16 (some q23)) q25 15 200) a0 17 (some q25)) q27 15 6000) a0 18 (some q27)) q29 15 200) a0 19 (some q29)) q31 15 200) a0 20 (some q31)) q33 15 200) a0 21 (some q33)) q35 15 200) a0 26 (some q35)) q37 15 200) a0 27 (some q37)) q39 15 200) a0 28 (some q39)) q41 15 200) a0 29 (some q41)) q43 15 200) a0 30 (some q43)) q45 15 200) a0 31 (some q45)) q47 15 32) a0 = 14 ∧ ∀ q49 : Nat, hK (sR (sN (sR (sN (sR (sN (sR (sN (sR (sN (sR (sN (sR (sN (sR (sN (sR (sN (sR (sN (sR (sN (sR (sN (sR (sN (sR (sN (sR (sN (sR (sN (sR (sN (sR (sN (sR (sN (sR (sN (sR (sN (sR (sN (sR (sN (sR (sN S q1 15 8) a0 5 (some q1)) q3 15 60) a0 6 (some q3)) q5 15 200) a0 7 (some q5)) q7 15 200) a0 8 (some q7)) q9 15 200) a0 9 (some q9)) q11 17 40000) a0 10 (some q11)) q13 17 40000) a0 11 (some q13)) q15 17 8000) a0 12 (some q15)) q17 15 12000) a0 13 (some q17)) q19 15 12000) a0 14 (some q19)) q21 15 200) a0 15 (some q21)) q23 15 200) a0 16 (some q23)) q25 15 200) a0 17 (some q25)) q27 15 6000) a0 18 (some q27)) q29 15 200) a0 19 (some q29)) q31 15 200) a0 20 (some q31)) q33 15 200) a0 21 (some q33)) q35 15 200) a0 26 (some q35)) q37 15 200) a0 27 (some q37)) q39 15 200) a0 28 (some q39)) q41 15 200) a0 29 (some q41)) q43 15 200) a0 30 (some q43)) q45 15 200) a0 31 (some q45)) q47 15 32) a0 32 (some q47)) q49 = 0 → hK (sN (sR (sN (sR (sN (sR (sN (sR (sN (sR (sN (sR (sN (sR (sN (sR (sN (sR (sN (sR (sN (sR (sN (sR (sN (sR (sN (sR (sN (sR (sN (sR (sN (sR (sN (sR (sN (sR (sN (sR (sN (sR (sN (sR (sN (sR (sN (sR (sN S q1 15 8) a0 5 (some q1)) q3 15 60) a0 6 (some q3)) q5 15 200) a0 7 (some q5)) q7 15 200) a0 8 (some q7)) q9 15 200) a0 9 (some q9)) q11 17 40000) a0 10 (some q11)) q13 17 40000) a0 11 (some q13)) q15 17 8000) a0 12 (some q15)) q17 15 12000) a0 13 (some q17)) q19 15 12000) a0 14 (some q19)) q21 15 200) a0 15 (some q21)) q23 15 200) a0 16 (some q23)) q25 15 200) a0 17 (some q25)) q27 15 6000) a0 18 (some q27)) q29 15 200) a0 19 (some q29)) q31 15 200) a0 20 (some q31)) q33 15 200) a0 21 (some q33)) q35 15 200) a0 26 (some q35)) q37 15 200) a0 27 (some q37)) q39 15 200) a0 28 (some q39)) q41 15 200) a0 29 (some q41)) q43 15 200) a0 30 (some q43)) q45 15 200) a0 31 (some q45)) q47 15 32) a0 32 (some q47)) q49 15 40) a0 = 14 ∧ ∀ q51 : Nat, hK (sR (sN (sR (sN (sR (sN (sR (sN (sR (sN (sR (sN (sR (sN (sR (sN (sR (sN (sR (sN (sR (sN (sR (sN (sR (sN (sR (sN (sR (sN (sR (sN (sR (sN (sR (sN (sR (sN (sR (sN (sR (sN (sR (sN (sR (sN (sR (sN (sR (sN S q1 15 8) a0 5 (some q1)) q3 15 60) a0 6 (some q3)) q5 15 200) a0 7 (some q5)) q7 15 200) a0 8 (some q7)) q9 15 200) a0 9 (some q9)) q11 17 40000) a0 10 (some q11)) q13 17 40000) a0 11 (some q13)) q15 17 8000) a0 12 (some q15)) q17 15 12000) a0 13 (some q17)) q19 15 12000) a0 14 (some q19)) q21 15 200) a0 15 (some q21)) q23 15 200) a0 16 (some q23)) q25 15 200) a0 17 (some q25)) q27 15 6000) a0 18 (some q27)) q29 15 200) a0 19 (some q29)) q31 15 200) a0 20 (some q31)) q33 15 200) a0 21 (some q33)) q35 15 200) a0 26 (some q35)) q37 15 200) a0 27 (some q37)) q39 15 200) a0 28 (some q39)) q41 15 200) a0 29 (some q41)) q43 15 200) a0 30 (some q43)) q45 15 200) a0 31 (some q45)) q47 15 32) a0 32 (some q47)) q49 15 40) a0 33 (some q49)) q51 = 0 → hK (sN (sR (sN (sR (sN (sR (sN (sR (sN (sR (sN (sR (sN (sR (sN (sR (sN (sR (sN (sR (sN (sR (sN (sR (sN (sR (sN (sR (sN (sR (sN (sR (sN (sR (sN (sR (sN (sR (sN (sR (sN (sR (sN (sR (sN (sR (sN (sR (sN (sR (sN S q1 15 8) a0 5 (some q1)) q3 15 60) a0 6 (some q3)) q5 15 200) a0 7 (some q5)) q7 15 200) a0 8 (some q7)) q9 15 200) a0 9 (some q9)) q11 17 40000) a0 10 (some q11)) q13 17 40000) a0 11 (some q13)) q15 17 8000) a0 12 (some q15)) q17 15 12000) a0 13 (some q17)) q19 15 12000) a0 14 (some q19)) q21 15 200) a0 15 (some q21)) q23 15 200) a0 16 (some q23)) q25 15 200) a0 17 (some q25)) q27 15 6000) a0 18 (some q27)) q29 15 200) a0 19 (some q29)) q31 15 200) a0 20 (some q31)) q33 15 200) a0 21 (some q33)) q35 15 200) a0 26 (some q35)) q37 15 200) a0 27 (some q37)) q39 15 200) a0 28 (some q39)) q41 15 200) a0 29 (some q41)) q43 15 200) a0 30 (some q43)) q45 15 200) a0 31 (some q45)) q47 15 32) a0 32 (some q47)) q49 15 40) a0 33 (some q49)) q51 15 40) a0 = 14 ∧ ∀ q53 : Nat, hK (sR (sN (sR (sN (sR (sN (sR (sN (sR (sN (sR (sN (sR (sN (sR (sN (sR (sN (sR (sN (sR (sN (sR (sN (sR (sN (sR (sN (sR (sN (sR (sN (sR (sN (sR (sN (sR (sN (sR (sN (sR (sN (sR (sN (sR (sN (sR (sN (sR (sN (sR (sN S q1 15 8) a0 5 (some q1)) q3 15 60) a0 6 (some q3)) q5 15 200) a0 7 (some q5)) q7 15 200) a0 8 (some q7)) q9 15 200) a0 9 (some q9)) q11 17 40000) a0 10 (some q11)) q13 17 40000) a0 11 (some q13)) q15 17 8000) a0 12 (some q15)) q17 15 12000) a0 13 (some q17)) q19 15 12000) a0 14 (some q19)) q21 15 200) a0 15 (some q21)) q23 15 200) a0 16 (some q23)) q25 15 200) a0 17 (some q25)) q27 15 6000) a0 18 (some q27)) q29 15 200) a0 19 (some q29)) q31 15 200) a0 20 (some q31)) q33 15 200) a0 21 (some q33)) q35 15 200) a0 26 (some q35)) q37 15 200) a0 27 (some q37)) q39 15 200) a0 28 (some q39)) q41 15 200) a0 29 (some q41)) q43 15 200) a0 30 (some q43)) q45 15 200) a0 31 (some q45)) q47 15 32) a0 32 (some q47)) q49 15 40) a0 33 (some q49)) q51 15 40) a0 34 (some q51)) q53 = 0 → hK (sN (sR (sN (sR (sN (sR (sN (sR (sN (sR (sN (sR (sN (sR (sN (sR (sN (sR (sN (sR (sN (sR (sN (sR (sN (sR (sN (sR (sN (sR (sN (sR (sN (sR (sN (sR (sN (sR (sN (sR (sN (sR (sN (sR (sN (sR (sN (sR (sN (sR (sN (sR (sN S q1 15 8) a0 5 (some q1)) q3 15 60) a0 6 (some q3)) q5 15 200) a0 7 (some q5)) q7 15 200) a0 8 (some q7)) q9 15 200) a0 9 (some q9)) q11 17 40000) a0 10 (some q11)) q13 17 40000) a0 11 (some q13)) q15 17 8000) a0 12 (some q15)) q17 15 12000) a0 13 (some q17)) q19 15 12000) a0 14 (some q19)) q21 15 200) a0 15 (some q21)) q23 15 200) a0 16 (some q23)) q25 15 200) a0 17 (some q25)) q27 15 6000) a0 18 (some q27)) q29 15 200) a0 19 (some q29)) q31 15 200) a0 20 (some q31)) q33 15 200) a0 21 (some q33)) q35 15 200) a0 26 (some q35)) q37 15 200) a0 27 (some q37)) q39 15 200) a0 28 (some q39)) q41 15 200) a0 29 (some q41)) q43 15 200) a0 30 (some q43)) q45 15 200) a0 31 (some q45)) q47 15 32) a0 32 (some q47)) q49 15 40) a0 33 (some q49)) q51 15 40) a0 34 (some q51)) q53 16 60) a0 = 14 ∧ ∀ q55 : Nat, hK (sR (sN (sR (sN (sR (sN (sR (sN (sR (sN (sR (sN (sR (sN (sR (sN (sR (sN (sR (sN (sR (sN (sR (sN (sR (sN (sR (sN (sR (sN (sR (sN (sR (sN (sR (sN (sR (sN (sR (sN (sR (sN (sR (sN (sR (sN (sR (sN (sR (sN (sR (sN (sR (sN S q1 15 8) a0 5 (some q1)) q3 15 60) a0 6 (some q3)) q5 15 200) a0 7 (some q5)) q7 15 200) a0 8 (some q7)) q9 15 200) a0 9 (some q9)) q11 17 40000) a0 10 (some q11)) q13 17 40000) a0 11 (some q13)) q15 17 8000) a0 12 (some q15)) q17 15 12000) a0 13 (some q17)) q19 15 12000) a0 14 (some q19)) q21 15 200) a0 15 (some q21)) q23 15 200) a0 16 (some q23)) q25 15 200) a0 17 (some q25)) q27 15 6000) a0 18 (some q27)) q29 15 200) a0 19 (some q29)) q31 15 200) a0 20 (some q31)) q33 15 200) a0 21 (some q33)) q35 15 200) a0 26 (some q35)) q37 15 200) a0 27 (some q37)) q39 15 200) a0 28 (some q39)) q41 15 200) a0 29 (some q41)) q43 15 200) a0 30 (some q43)) q45 15 200) a0 31 (some q45)) q47 15 32) a0 32 (some q47)) q49 15 40) a0 33 (some q49)) q51 15 40) a0 34 (some q51)) q53 16 60) a0 35 (some q53)) q55 = 0 → hK (sN (sR (sN (sR (sN (sR (sN (sR (sN (sR (sN (sR (sN (sR (sN (sR (sN (sR (sN (sR (sN (sR (sN (sR (sN (sR (sN (sR (sN (sR (sN (sR (sN (sR (sN (sR (sN (sR (sN (sR (sN (sR (sN (sR (sN (sR (sN (sR (sN (sR (sN (sR (sN (sR (sN S q1 15 8) a0 5 (some q1)) q3 15 60) a0 6 (some q3)) q5 15 200) a0 7 (some q5)) q7 15 200) a0 8 (some q7)) q9 15 200) a0 9 (some q9)) q11 17 40000) a0 10 (some q11)) q13 17 40000) a0 11 (some q13)) q15 17 8000) a0 12 (some q15)) q17 15 12000) a0 13 (some q17)) q19 15 12000) a0 14 (some q19)) q21 15 200) a0 15 (some q21)) q23 15 200) a0 16 (some q23)) q25 15 200) a0 17 (some q25)) q27 15 6000) a0 18 (some q27)) q29 15 200) a0 19 (some q29)) q31 15 200) a0 20 (some q31)) q33 15 200) a0 21 (some q33)) q35 15 200) a0 26 (some q35)) q37 15 200) a0 27 (some q37)) q39 15 200) a0 28 (some q39)) q41 15 200) a0 29 (some q41)) q43 15 200) a0 30 (some q43)) q45 15 200) a0 31 (some q45)) q47 15 32) a0 32 (some q47)) q49 15 40) a0 33 (some q49)) q51 15 40) a0 34 (some q51)) q53 16 60) a0 35 (some q53)) q55 15 600) a0 = 14 ∧ ∀ q57 : Nat, hK (sR (sN (sR (sN (sR (sN (sR (sN (sR (sN (sR (sN (sR (sN (sR (sN (sR (sN (sR (sN (sR (sN (sR (sN (sR (sN (sR (sN (sR (sN (sR (sN (sR (sN (sR (sN (sR (sN (sR (sN (sR (sN (sR (sN (sR (sN (sR (sN (sR (sN (sR (sN (sR (sN (sR (sN S q1 15 8) a0 5 (some q1)) q3 15 60) a0 6 (some q3)) q5 15 200) a0 7 (some q5)) q7 15 200) a0 8 (some q7)) q9 15 200) a0 9 (some q9)) q11 17 40000) a0 10 (some q11)) q13 17 40000) a0 11 (some q13)) q15 17 8000) a0 12 (some q15)) q17 15 12000) a0 13 (some q17)) q19 15 12000) a0 14 (some q19)) q21 15 200) a0 15 (some q21)) q23 15 200) a0 16 (some q23)) q25 15 200) a0 17 (some q25)) q27 15 6000) a0 18 (some q27)) q29 15 200) a0 19 (some q29)) q31 15 200) a0 20 (some q31)) q33 15 200) a0 21 (some q33)) q35 15 200) a0 26 (some q35)) q37 15 200) a0 27 (some q37)) q39 15 200) a0 28 (some q39)) q41 15 200) a0 29 (some q41)) q43 15 200) a0 30 (some q43)) q45 15 200) a0 31 (some q45)) q47 15 32) a0 32 (some q47)) q49 15 40) a0 33 (some q49)) q51 15 40) a0 34 (some q51)) q53 16 60) a0 35 (some q53)) q55 15 600) a0 36 (some q55)) q57 = 0 → hK (sN (sR (sN (sR (sN (sR (sN (sR (sN (sR (sN (sR (sN (sR (sN (sR (sN (sR (sN (sR (sN (sR (sN (sR (sN (sR (sN (sR (sN (sR (sN (sR (sN (sR (sN (sR (sN (sR (sN (sR (sN (sR (sN (sR (sN (sR (sN (sR (sN (sR (sN (sR (sN (sR (sN (sR (sN S q1 15 8) a0 5 (some q1)) q3 15 60) a0 6 (some q3)) q5 15 200) a0 7 (some q5)) q7 15 200) a0 8 (some q7)) q9 15 200) a0 9 (some q9)) q11 17 40000) a0 10 (some q11)) q13 17 40000) a0 11 (some q13)) q15 17 8000) a0 12 (some q15)) q17 15 12000) a0 13 (some q17)) q19 15 12000) a0 14 (some q19)) q21 15 200) a0 15 (some q21)) q23 15 200) a0 16 (some q23)) q25 15 200) a0 17 (some q25)) q27 15 6000) a0 18 (some q27)) q29 15 200) a0 19 (some q29)) q31 15 200) a0 20 (some q31)) q33 15 200) a0 21 (some q33)) q35 15 200) a0 26 (some q35)) q37 15 200) a0 27 (some q37)) q39 15 200) a0 28 (some q39)) q41 15 200) a0 29 (some q41)) q43 15 200) a0 30 (some q43)) q45 15 200) a0 31 (some q45)) q47 15 32) a0 32 (some q47)) q49 15 40) a0 33 (some q49)) q51 15 40) a0 34 (some q51)) q53 16 60) a0 35 (some q53)) q55 15 600) a0 36 (some q55)) q57 15 600) a0 = 14 ∧ ∀ q59 : Nat, hK (sR (sN (sR (sN (sR (sN (sR (sN (sR (sN (sR (sN (sR (sN (sR (sN (sR (sN (sR (sN (sR (sN (sR (sN (sR (sN (sR (sN (sR (sN (sR (sN (sR (sN (sR (sN (sR (sN (sR (sN (sR (sN (sR (sN (sR (sN (sR (sN (sR (sN (sR (sN (sR (sN (sR (sN (sR (sN S q1 15 8) a0 5 (some q1)) q3 15 60) a0 6 (some q3)) q5 15 200) a0 7 (some q5)) q7 15 200) a0 8 (some q7)) q9 15 200) a0 9 (some q9)) q11 17 40000) a0 10 (some q11)) q13 17 40000) a0 11 (some q13)) q15 17 8000) a0 12 (some q15)) q17 15 12000) a0 13 (some q17)) q19 15 12000) a0 14 (some q19)) q21 15 200) a0 15 (some q21)) q23 15 200) a0 16 (some q23)) q25 15 200) a0 17 (some q25)) q27 15 6000) a0 18 (some q27)) q29 15 200) a0 19 (some q29)) q31 15 200) a0 20 (some q31)) q33 15 200) a0 21 (some q33)) q35 15 200) a0 26 (some q35)) q37 15 200) a0 27 (some q37)) q39 15 200) a0 28 (some q39)) q41 15 200) a0 29 (some q41)) q43 15 200) a0 30 (some q43)) q45 15 200) a0 31 (some q45)) q47 15 32) a0 32 (some q47)) q49 15 40) a0 33 (some q49)) q51 15 40) a0 34 (some q51)) q53 16 60) a0 35 (some q53)) q55 15 600) a0 36 (some q55)) q57 15 600) a0 37 (some q57)) q59 = 0 → hK (sN (sR (sN (sR (sN (sR (sN (sR (sN (sR (sN (sR (sN (sR (sN (sR (sN (sR (sN (sR (sN (sR (sN (sR (sN (sR (sN (sR (sN (sR (sN (sR (sN (sR (sN (sR (sN (sR (sN (sR (sN (sR (sN (sR (sN (sR (sN (sR (sN (sR (sN (sR (sN (sR (sN (sR (sN (sR (sN S q1 15 8) a0 5 (some q1)) q3 15 60) a0 6 (some q3)) q5 15 200) a0 7 (some q5)) q7 15 200) a0 8 (some q7)) q9 15 200) a0 9 (some q9)) q11 17 40000) a0 10 (some q11)) q13 17 40000) a0 11 (some q13)) q15 17 8000) a0 12 (some q15)) q17 15 12000) a0 13 (some q17)) q19 15 12000) a0 14 (some q19)) q21 15 200) a0 15 (some q21)) q23 15 200) a0 16 (some q23)) q25 15 200) a0 17 (some q25)) q27 15 6000) a0 18 (some q27)) q29 15 200) a0 19 (some q29)) q31 15 200) a0 20 (some q31)) q33 15 200) a0 21 (some q33)) q35 15 200) a0 26 (some q35)) q37 15 200) a0 27 (some q37)) q39 15 200) a0 28 (some q39)) q41 15 200) a0 29 (some q41)) q43 15 200) a0 30 (some q43)) q45 15 200) a0 31 (some q45)) q47 15 32) a0 32 (some q47)) q49 15 40) a0 33 (some q49)) q51 15 40) a0 34 (some q51)) q53 16 60) a0 35 (some q53)) q55 15 600) a0 36 (some q55)) q57 15 600) a0 37 (some q57)) q59 15 600) a0 = 14 ∧ ∀ q61 : Nat, hK (sR (sN (sR (sN (sR (sN (sR (sN (sR (sN (sR (sN (sR (sN (sR (sN (sR (sN (sR (sN (sR (sN (sR (sN (sR (sN (sR (sN (sR (sN (sR (sN (sR (sN (sR (sN (sR (sN (sR (sN (sR (sN (sR (sN (sR (sN (sR (sN (sR (sN (sR (sN (sR (sN (sR (sN (sR (sN (sR (sN S q1 15 8) a0 5 (some q1)) q3 15 60) a0 6 (some q3)) q5 15 200) a0 7 (some q5)) q7 15 200) a0 8 (some q7)) q9 15 200) a0 9 (some q9)) q11 17 40000) a0 10 (some q11)) q13 17 40000) a0 11 (some q13)) q15 17 8000) a0 12 (some q15)) q17 15 12000) a0 13 (some q17)) q19 15 12000) a0 14 (some q19)) q21 15 200) a0 15 (some q21)) q23 15 200) a0 16 (some q23)) q25 15 200) a0 17 (some q25)) q27 15 6000) a0 18 (some q27)) q29 15 200) a0 19 (some q29)) q31 15 200) a0 20 (some q31)) q33 15 200) a0 21 (some q33)) q35 15 200) a0 26 (some q35)) q37 15 200) a0 27 (some q37)) q39 15 200) a0 28 (some q39)) q41 15 200) a0 29 (some q41)) q43 15 200) a0 30 (some q43)) q45 15 200) a0 31 (some q45)) q47 15 32) a0 32 (some q47)) q49 15 40) a0 33 (some q49)) q51 15 40) a0 34 (some q51)) q53 16 60) a0 35 (some q53)) q55 15 600) a0 36 (some q55)) q57 15 600) a0 37 (some q57)) q59 15 600) a0 38 (some q59)) q61 = 0 → hK (sN (sR (sN (sR (sN (sR (sN (sR (sN (sR (sN (sR (sN (sR (sN (sR (sN (sR (sN (sR (sN (sR (sN (sR (sN (sR (sN (sR (sN (sR (sN (sR (sN (sR (sN (sR (sN (sR (sN (sR (sN (sR (sN (sR (sN (sR (sN (sR (sN (sR (sN (sR (sN (sR (sN (sR (sN (sR (sN (sR (sN S q1 15 8) a0 5 (some q1)) q3 15 60) a0 6 (some q3)) q5 15 200) a0 7 (some q5)) q7 15 200) a0 8 (some q7)) q9 15 200) a0 9 (some q9)) q11 17 40000) a0 10 (some q11)) q13 17 40000) a0 11 (some q13)) q15 17 8000) a0 12 (some q15)) q17 15 12000) a0 13 (some q17)) q19 15 12000) a0 14 (some q19)) q21 15 200) a0 15 (some q21)) q23 15 200) a0 16 (some q23)) q25 15 200) a0 17 (some q25)) q27 15 6000) a0 18 (some q27)) q29 15 200) a0 19 (some q29)) q31 15 200) a0 20 (some q31)) q33 15 200) a0 21 (some q33)) q35 15 200) a0 26 (some q35)) q37 15 200) a0 27 (some q37)) q39 15 200) a0 28 (some q39)) q41 15 200) a0 29 (some q41)) q43 15 200) a0 30 (some q43)) q45 15 200) a0 31 (some q45)) q47 15 32) a0 32 (some q47)) q49 15 40) a0 33 (some q49)) q51 15 40) a0 34 (some q51)) q53 16 60) a0 35 (some q53)) q55 15 600) a0 36 (some q55)) q57 15 600) a0 37 (some q57)) q59 15 600) a0 38 (some q59)) q61 16 30) a0 = 14 ∧ ∀ q63 : Nat, hK (sR (sN (sR (sN (sR (sN (sR (sN (sR (sN (sR (sN (sR (sN (sR (sN (sR (sN (sR (sN (sR (sN (sR (sN (sR (sN (sR (sN (sR (sN (sR (sN (sR (sN (sR (sN (sR (sN (sR (sN (sR (sN (sR (sN (sR (sN (sR (sN (sR (sN (sR (sN (sR (sN (sR (sN (sR (sN (sR (sN (sR (sN S q1 15 8) a0 5 (some q1)) q3 15 60) a0 6 (some q3)) q5 15 200) a0 7 (some q5)) q7 15 200) a0 8 (some q7)) q9 15 200) a0 9 (some q9)) q11 17 40000) a0 10 (some q11)) q13 17 40000) a0 11 (some q13)) q15 17 8000) a0 12 (some q15)) q17 15 12000) a0 13 (some q17)) q19 15 12000) a0 14 (some q19)) q21 15 200) a0 15 (some q21)) q23 15 200) a0 16 (some q23)) q25 15 200) a0 17 (some q25)) q27 15 6000) a0 18 (some q27)) q29 15 200) a0 19 (some q29)) q31 15 200) a0 20 (some q31)) q33 15 200) a0 21 (some q33)) q35 15 200) a0 26 (some q35)) q37 15 200) a0 27 (some q37)) q39 15 200) a0 28 (some q39)) q41 15 200) a0 29 (some q41)) q43 15 200) a0 30 (some q43)) q45 15 200) a0 31 (some q45)) q47 15 32) a0 32 (some q47)) q49 15 40) a0 33 (some q49)) q51 15 40) a0 34 (some q51)) q53 16 60) a0 35 (some q53)) q55 15 600) a0 36 (some q55)) q57 15 600) a0 37 (some q57)) q59 15 600) a0 38 (some q59)) q61 16 30) a0 40 (some q61)) q63 = 0 → hK (sN (sR (sN (sR (sN (sR (sN (sR (sN (sR (sN (sR (sN (sR (sN (sR (sN (sR (sN (sR (sN (sR (sN (sR (sN (sR (sN (sR (sN (sR (sN (sR (sN (sR (sN (sR (sN (sR (sN (sR (sN (sR (sN (sR (sN (sR (sN (sR (sN (sR (sN (sR (sN (sR (sN (sR (sN (sR (sN (sR (sN (sR (sN S q1 15 8) a0 5 (some q1)) q3 15 60) a0 6 (some q3)) q5 15 200) a0 7 (some q5)) q7 15 200) a0 8 (some q7)) q9 15 200) a0 9 (some q9)) q11 17 40000) a0 10 (some q11)) q13 17 40000) a0 11 (some q13)) q15 17 8000) a0 12 (some q15)) q17 15 12000) a0 13 (some q17)) q19 15 12000) a0 14 (some q19)) q21 15 200) a0 15 (some q21)) q23 15 200) a0 16 (some q23)) q25 15 200) a0 17 (some q25)) q27 15 6000) a0 18 (some q27)) q29 15 200) a0 19 (some q29)) q31 15 200) a0 20 (some q31)) q33 15 200) a0 21 (some q33)) q35 15 200) a0 26 (some q35)) q37 15 200) a0 27 (some q37)) q39 15 200) a0 28 (some q39)) q41 15 200) a0 29 (some q41)) q43 15 200) a0 30 (some q43)) q45 15 200) a0 31 (some q45)) q47 15 32) a0 32 (some q47)) q49 15 40) a0 33 (some q49)) q51 15 40) a0 34 (some q51)) q53 16 60) a0 35 (some q53)) q55 15 600) a0 36 (some q55)) q57 15 600) a0 37 (some q57)) q59 15 600) a0 38 (some q59)) q61 16 30) a0 40 (some q61)) q63 17 30) a0 = 14 ∧ ∀ q65 : Nat, hK (sR (sN (sR (sN (sR (sN (sR (sN (sR (sN (sR (sN (sR (sN (sR (sN (sR (sN (sR (sN (sR (sN (sR (sN (sR (sN (sR (sN (sR (sN (sR (sN (sR (sN (sR (sN (sR (sN (sR (sN (sR (sN (sR (sN (sR (sN (sR (sN (sR (sN (sR (sN (sR (sN (sR (sN (sR (sN (sR (sN (sR (sN (sR (sN S q1 15 8) a0 5 (some q1)) q3 15 60) a0 6 (some q3)) q5 15 200) a0 7 (some q5)) q7 15 200) a0 8 (some q7)) q9 15 200) a0 9 (some q9)) q11 17 40000) a0 10 (some q11)) q13 17 40000) a0 11 (some q13)) q15 17 8000) a0 12 (some q15)) q17 15 12000) a0 13 (some q17)) q19 15 12000) a0 14 (some q19)) q21 15 200) a0 15 (some q21)) q23 15 200) a0 16 (some q23)) q25 15 200) a0 17 (some q25)) q27 15 6000) a0 18 (some q27)) q29 15 200) a0 19 (some q29)) q31 15 200) a0 20 (some q31)) q33 15 200) a0 21 (some q33)) q35 15 200) a0 26 (some q35)) q37 15 200) a0 27 (some q37)) q39 15 200) a0 28 (some q39)) q41 15 200) a0 29 (some q41)) q43 15 200) a0 30 (some q43)) q45 15 200) a0 31 (some q45)) q47 15 32) a0 32 (some q47)) q49 15 40) a0 33 (some q49)) q51 15 40) a0 34 (some q51)) q53 16 60) a0 35 (some q53)) q55 15 600) a0 36 (some q55)) q57 15 600) a0 37 (some q57)) q59 15 600) a0 38 (some q59)) q61 16 30) a0 40 (some q61)) q63 17 30) a0 42 (some q63)) q65 = 0 → hK (sN (sR (sN (sR (sN (sR (sN (sR (sN (sR (sN (sR (sN (sR (sN (sR (sN (sR (sN (sR (sN (sR (sN (sR (sN (sR (sN (sR (sN (sR (sN (sR (sN (sR (sN (sR (sN (sR (sN (sR (sN (sR (sN (sR (sN (sR (sN (sR (sN (sR (sN (sR (sN (sR (sN (sR (sN (sR (sN (sR (sN (sR (sN (sR (sN S q1 15 8) a0 5 (some q1)) q3 15 60) a0 6 (some q3)) q5 15 200) a0 7 (some q5)) q7 15 200) a0 8 (some q7)) q9 15 200) a0 9 (some q9)) q11 17 40000) a0 10 (some q11)) q13 17 40000) a0 11 (some q13)) q15 17 8000) a0 12 (some q15)) q17 15 12000) a0 13 (some q17)) q19 15 12000) a0 14 (some q19)) q21 15 200) a0 15 (some q21)) q23 15 200) a0 16 (some q23)) q25 15 200) a0 17 (some q25)) q27 15 6000) a0 18 (some q27)) q29 15 200) a0 19 (some q29)) q31 15 200) a0 20 (some q31)) q33 15 200) a0 21 (some q33)) q35 15 200) a0 26 (some q35)) q37 15 200) a0 27 (some q37)) q39 15 200) a0 28 (some q39)) q41 15 200) a0 29 (some q41)) q43 15 200) a0 30 (some q43)) q45 15 200) a0 31 (some q45)) q47 15 32) a0 32 (some q47)) q49 15 40) a0 33 (some q49)) q51 15 40) a0 34 (some q51)) q53 16 60) a0 35 (some q53)) q55 15 600) a0 36 (some q55)) q57 15 600) a0 37 (some q57)) q59 15 600) a0 38 (some q59)) q61 16 30) a0 40 (some q61)) q63 17 30) a0 42 (some q63)) q65 16 30) a0 = 14 ∧ ∀ q67 : Nat, hK (sR (sN (sR (sN (sR (sN (sR (sN (sR (sN (sR (sN (sR (sN (sR (sN (sR (sN (sR (sN (sR (sN (sR (sN (sR (sN (sR (sN (sR (sN (sR (sN (sR (sN (sR (sN (sR (sN (sR (sN (sR (sN (sR (sN (sR (sN (sR (sN (sR (sN (sR (sN (sR (sN (sR (sN (sR (sN (sR (sN (sR (sN (sR (sN (sR (sN S q1 15 8) a0 5 (some q1)) q3 15 60) a0 6 (some q3)) q5 15 200) a0 7 (some q5)) q7 15 200) a0 8 (some q7)) q9 15 200) a0 9 (some q9)) q11 17 40000) a0 10 (some q11)) q13 17 40000) a0 11 (some q13)) q15 17 8000) a0 12 (some q15)) q17 15 12000) a0 13 (some q17)) q19 15 12000) a0 14 (some q19)) q21 15 200) a0 15 (some q21)) q23 15 200) a0 16 (some q23)) q25 15 200) a0 17 (some q25)) q27 15 6000) a0 18 (some q27)) q29 15 200) a0 19 (some q29)) q31 15 200) a0 20 (some q31)) q33 15 200) a0 21 (some q33)) q35 15 200) a0 26 (some q35)) q37 15 200) a0 27 (some q37)) q39 15 200) a0 28 (some q39)) q41 15 200) a0 29 (some q41)) q43 15 200) a0 30 (some q43)) q45 15 200) a0 31 (some q45)) q47 15 32) a0 32 (some q47)) q49 15 40) a0 33 (some q49)) q51 15 40) a0 34 (some q51)) q53 16 60) a0 35 (some q53)) q55 15 600) a0 36 (some q55)) q57 15 600) a0 37 (some q57)) q59 15 600) a0 38 (some q59)) q61 16 30) a0 40 (some q61)) q63 17 30) a0 42 (some q63)) q65 16 30) a0 43 (some q65)) q67 = 0 → hK (sN (sR (sN (sR (sN (sR (sN (sR (sN (sR (sN (sR (sN (sR (sN (sR (sN (sR (sN (sR (sN (sR (sN (sR (sN (sR (sN (sR (sN (sR (sN (sR (sN (sR (sN (sR (sN (sR (sN (sR (sN (sR (sN (sR (sN (sR (sN (sR (sN (sR (sN (sR (sN (sR (sN (sR (sN (sR (sN (sR (sN (sR (sN (sR (sN (sR (sN S q1 15 8) a0 5 (some q1)) q3 15 60) a0 6 (some q3)) q5 15 200) a0 7 (some q5)) q7 15 200) a0 8 (some q7)) q9 15 200) a0 9 (some q9)) q11 17 40000) a0 10 (some q11)) q13 17 40000) a0 11 (some q13)) q15 17 8000) a0 12 (some q15)) q17 15 12000) a0 13 (some q17)) q19 15 12000) a0 14 (some q19)) q21 15 200) a0 15 (some q21)) q23 15 200) a0 16 (some q23)) q25 15 200) a0 17 (some q25)) q27 15 6000) a0 18 (some q27)) q29 15 200) a0 19 (some q29)) q31 15 200) a0 20 (some q31)) q33 15 200) a0 21 (some q33)) q35 15 200) a0 26 (some q35)) q37 15 200) a0 27 (some q37)) q39 15 200) a0 28 (some q39)) q41 15 200) a0 29 (some q41)) q43 15 200) a0 30 (some q43)) q45 15 200) a0 31 (some q45)) q47 15 32) a0 32 (some q47)) q49 15 40) a0 33 (some q49)) q51 15 40) a0 34 (some q51)) q53 16 60) a0 35 (some q53)) q55 15 600) a0 36 (some q55)) q57 15 600) a0 37 (some q57)) q59 15 600) a0 38 (some q59)) q61 16 30) a0 40 (some q61)) q63 17 30) a0 42 (some q63)) q65 16 30) a0 43 (some q65)) q67 17 200) a0 = 14 ∧ ∀ q69 : Nat, hK (sR (sN (sR (sN (sR (sN (sR (sN (sR (sN (sR (sN (sR (sN (sR (sN (sR (sN (sR (sN (sR (sN (sR (sN (sR (sN (sR (sN (sR (sN (sR (sN (sR (sN (sR (sN (sR (sN (sR (sN (sR (sN (sR (sN (sR (sN (sR (sN (sR (sN (sR (sN (sR (sN (sR (sN (sR (sN (sR (sN (sR (sN (sR (sN (sR (sN (sR (sN S q1 15 8) a0 5 (some q1)) q3 15 60) a0 6 (some q3)) q5 15 200) a0 7 (some q5)) q7 15 200) a0 8 (some q7)) q9 15 200) a0 9 (some q9)) q11 17 40000) a0 10 (some q11)) q13 17 40000) a0 11 (some q13)) q15 17 8000) a0 12 (some q15)) q17 15 12000) a0 13 (some q17)) q19 15 12000) a0 14 (some q19)) q21 15 200) a0 15 (some q21)) q23 15 200) a0 16 (some q23)) q25 15 200) a0 17 (some q25)) q27 15 6000) a0 18 (some q27)) q29 15 200) a0 19 (some q29)) q31 15 200) a0 20 (some q31)) q33 15 200) a0 21 (some q33)) q35 15 200) a0 26 (some q35)) q37 15 200) a0 27 (some q37)) q39 15 200) a0 28 (some q39)) q41 15 200) a0 29 (some q41)) q43 15 200) a0 30 (some q43)) q45 15 200) a0 31 (some q45)) q47 15 32) a0 32 (some q47)) q49 15 40) a0 33 (some q49)) q51 15 40) a0 34 (some q51)) q53 16 60) a0 35 (some q53)) q55 15 600) a0 36 (some q55)) q57 15 600) a0 37 (some q57)) q59 15 600) a0 38 (some q59)) q61 16 30) a0 40 (some q61)) q63 17 30) a0 42 (some q63)) q65 16 30) a0 43 (some q65)) q67 17 200) a0 44 (some q67)) q69 = 0 → hK (sN (sR (sN (sR (sN (sR (sN (sR (sN (sR (sN (sR (sN (sR (sN (sR (sN (sR (sN (sR (sN (sR (sN (sR (sN (sR (sN (sR (sN (sR (sN (sR (sN (sR (sN (sR (sN (sR (sN (sR (sN (sR (sN (sR (sN (sR (sN (sR (sN (sR (sN (sR (sN (sR (sN (sR (sN (sR (sN (sR (sN (sR (sN (sR (sN (sR (sN (sR (sN S q1 15 8) a0 5 (some q1)) q3 15 60) a0 6 (some q3)) q5 15 200) a0 7 (some q5)) q7 15 200) a0 8 (some q7)) q9 15 200) a0 9 (some q9)) q11 17 40000) a0 10 (some q11)) q13 17 40000) a0 11 (some q13)) q15 17 8000) a0 12 (some q15)) q17 15 12000) a0 13 (some q17)) q19 15 12000) a0 14 (some q19)) q21 15 200) a0 15 (some q21)) q23 15 200) a0 16 (some q23)) q25 15 200) a0 17 (some q25)) q27 15 6000) a0 18 (some q27)) q29 15 200) a0 19 (some q29)) q31 15 200) a0 20 (some q31)) q33 15 200) a0 21 (some q33)) q35 15 200) a0 26 (some q35)) q37 15 200) a0 27 (some q37)) q39 15 200) a0 28 (some q39)) q41 15 200) a0 29 (some q41)) q43 15 200) a0 30 (some q43)) q45 15 200) a0 31 (some q45)) q47 15 32) a0 32 (some q47)) q49 15 40) a0 33 (some q49)) q51 15 40) a0 34 (some q51)) q53 16 60) a0 35 (some q53)) q55 15 600) a0 36 (some q55)) q57 15 600) a0 37 (some q57)) q59 15 600) a0 38 (some q59)) q61 16 30) a0 40 (some q61)) q63 17 30) a0 42 (some q63)) q65 16 30) a0 43 (some q65)) q67 17 200) a0 44 (some q67)) q69 17 200) a0 = 14 ∧ ∀ q71 : Nat, hK (sR (sN (sR (sN (sR (sN (sR (sN (sR (sN (sR (sN (sR (sN (sR (sN (sR (sN (sR (sN (sR (sN (sR (sN (sR (sN (sR (sN (sR (sN (sR (sN (sR (sN (sR (sN (sR (sN (sR (sN (sR (sN (sR (sN (sR (sN (sR (sN (sR (sN (sR (sN (sR (sN (sR (sN (sR (sN (sR (sN (sR (sN (sR (sN (sR (sN (sR (sN (sR (sN S q1 15 8) a0 5 (some q1)) q3 15 60) a0 6 (some q3)) q5 15 200) a0 7 (some q5)) q7 15 200) a0 8 (some q7)) q9 15 200) a0 9 (some q9)) q11 17 40000) a0 10 (some q11)) q13 17 40000) a0 11 (some q13)) q15 17 8000) a0 12 (some q15)) q17 15 12000) a0 13 (some q17)) q19 15 12000) a0 14 (some q19)) q21 15 200) a0 15 (some q21)) q23 15 200) a0 16 (some q23)) q25 15 200) a0 17 (some q25)) q27 15 6000) a0 18 (some q27)) q29 15 200) a0 19 (some q29)) q31 15 200) a0 20 (some q31)) q33 15 200) a0 21 (some q33)) q35 15 200) a0 26 (some q35)) q37 15 200) a0 27 (some q37)) q39 15 200) a0 28 (some q39)) q41 15 200) a0 29 (some q41)) q43 15 200) a0 30 (some q43)) q45 15 200) a0 31 (some q45)) q47 15 32) a0 32 (some q47)) q49 15 40) a0 33 (some q49)) q51 15 40) a0 34 (some q51)) q53 16 60) a0 35 (some q53)) q55 15 600) a0 36 (some q55)) q57 15 600) a0 37 (some q57)) q59 15 600) a0 38 (some q59)) q61 16 30) a0 40 (some q61)) q63 17 30) a0 42 (some q63)) q65 16 30) a0 43 (some q65)) q67 17 200) a0 44 (some q67)) q69 17 200) a0 45 (some q69)) q71 = 0 → hK (sN (sR (sN (sR (sN (sR (sN (sR (sN (sR (sN (sR (sN (sR (sN (sR (sN (sR (sN (sR (sN (sR (sN (sR (sN (sR (sN (sR (sN (sR (sN (sR (sN (sR (sN (sR (sN (sR (sN (sR (sN (sR (sN (sR (sN (sR (sN (sR (sN (sR (sN (sR (sN (sR (sN (sR (sN (sR (sN (sR (sN (sR (sN (sR (sN (sR (sN (sR (sN (sR (sN S q1 15 8) a0 5 (some q1)) q3 15 60) a0 6 (some q3)) q5 15 200) a0 7 (some q5)) q7 15 200) a0 8 (some q7)) q9 15 200) a0 9 (some q9)) q11 17 40000) a0 10 (some q11)) q13 17 40000) a0 11 (some q13)) q15 17 8000) a0 12 (some q15)) q17 15 12000) a0 13 (some q17)) q19 15 12000) a0 14 (some q19)) q21 15 200) a0 15 (some q21)) q23 15 200) a0 16 (some q23)) q25 15 200) a0 17 (some q25)) q27 15 6000) a0 18 (some q27)) q29 15 200) a0 19 (some q29)) q31 15 200) a0 20 (some q31)) q33 15 200) a0 21 (some q33)) q35 15 200) a0 26 (some q35)) q37 15 200) a0 27 (some q37)) q39 15 200) a0 28 (some q39)) q41 15 200) a0 29 (some q41)) q43 15 200) a0 30 (some q43)) q45 15 200) a0 31 (some q45)) q47 15 32) a0 32 (some q47)) q49 15 40) a0 33 (some q49)) q51 15 40) a0 34 (some q51)) q53 16 60) a0 35 (some q53)) q55 15 600) a0 36 (some q55)) q57 15 600) a0 37 (some q57)) q59 15 600) a0 38 (some q59)) q61 16 30) a0 40 (some q61)) q63 17 30) a0 42 (some q63)) q65 16 30) a0 43 (some q65)) q67 17 200) a0 44 (some q67)) q69 17 200) a0 45 (some q69)) q71 15 200) a0 = 14 ∧ ∀ q73 : Nat, hK (sR (sN (sR (sN (sR (sN (sR (sN (sR (sN (sR (sN (sR (sN (sR (sN (sR (sN (sR (sN (sR (sN (sR (sN (sR (sN (sR (sN (sR (sN (sR (sN (sR (sN (sR (sN (sR (sN (sR (sN (sR (sN (sR (sN (sR (sN (sR (sN (sR (sN (sR (sN (sR (sN (sR (sN (sR (sN (sR (sN (sR (sN (sR (sN (sR (sN (sR (sN (sR (sN (sR (sN S q1 15 8) a0 5 (some q1)) q3 15 60) a0 6 (some q3)) q5 15 200) a0 7 (some q5)) q7 15 200) a0 8 (some q7)) q9 15 200) a0 9 (some q9)) q11 17 40000) a0 10 (some q11)) q13 17 40000) a0 11 (some q13)) q15 17 8000) a0 12 (some q15)) q17 15 12000) a0 13 (some q17)) q19 15 12000) a0 14 (some q19)) q21 15 200) a0 15 (some q21)) q23 15 200) a0 16 (some q23)) q25 15 200) a0 17 (some q25)) q27 15 6000) a0 18 (some q27)) q29 15 200) a0 19 (some q29)) q31 15 200) a0 20 (some q31)) q33 15 200) a0 21 (some q33)) q35 15 200) a0 26 (some q35)) q37 15 200) a0 27 (some q37)) q39 15 200) a0 28 (some q39)) q41 15 200) a0 29 (some q41)) q43 15 200) a0 30 (some q43)) q45 15 200) a0 31 (some q45)) q47 15 32) a0 32 (some q47)) q49 15 40) a0 33 (some q49)) q51 15 40) a0 34 (some q51)) q53 16 60) a0 35 (some q53)) q55 15 600) a0 36 (some q55)) q57 15 600) a0 37 (some q57)) q59 15 600) a0 38 (some q59)) q61 16 30) a0 40 (some q61)) q63 17 30) a0 42 (some q63)) q65 16 30) a0 43 (some q65)) q67 17 200) a0 44 (some q67)) q69 17 200) a0 45 (some q69)) q71 15 200) a0 46 (some q71)) q73 = 0 → hK (sN (sR (sN (sR (sN (sR (sN (sR (sN (sR (sN (sR (sN (sR (sN (sR (sN (sR (sN (sR (sN (sR (sN (sR (sN (sR (sN (sR (sN (sR (sN (sR (sN (sR (sN (sR (sN (sR (sN (sR (sN (sR (sN (sR (sN (sR (sN (sR (sN (sR (sN (sR (sN (sR (sN (sR (sN (sR (sN (sR (sN (sR (sN (sR (sN (sR (sN (sR (sN (sR (sN (sR (sN S q1 15 8) a0 5 (some q1)) q3 15 60) a0 6 (some q3)) q5 15 200) a0 7 (some q5)) q7 15 200) a0 8 (some q7)) q9 15 200) a0 9 (some q9)) q11 17 40000) a0 10 (some q11)) q13 17 40000) a0 11 (some q13)) q15 17 8000) a0 12 (some q15)) q17 15 12000) a0 13 (some q17)) q19 15 12000) a0 14 (some q19)) q21 15 200) a0 15 (some q21)) q23 15 200) a0 16 (some q23)) q25 15 200) a0 17 (some q25)) q27 15 6000) a0 18 (some q27)) q29 15 200) a0 19 (some q29)) q31 15 200) a0 20 (some q31)) q33 15 200) a0 21 (some q33)) q35 15 200) a0 26 (some q35)) q37 15 200) a0 27 (some q37)) q39 15 200) a0 28 (some q39)) q41 15 200) a0 29 (some q41)) q43 15 200) a0 30 (some q43)) q45 15 200) a0 31 (some q45)) q47 15 32) a0 32 (some q47)) q49 15 40) a0 33 (some q49)) q51 15 40) a0 34 (some q51)) q53 16 60) a0 35 (some q53)) q55 15 600) a0 36 (some q55)) q57 15 600) a0 37 (some q57)) q59 15 600) a0 38 (some q59)) q61 16 30) a0 40 (some q61)) q63 17 30) a0 42 (some q63)) q65 16 30) a0 43 (some q65)) q67 17 200) a0 44 (some q67)) q69 17 200) a0 45 (some q69)) q71 15 200) a0 46 (some q71)) q73 15 200) a0 = 14 ∧ Q (sR (sN (sR (sN (sR (sN (sR (sN (sR (sN (sR (sN (sR (sN (sR (sN (sR (sN (sR (sN (sR (sN (sR (sN (sR (sN (sR (sN (sR (sN (sR (sN (sR (sN (sR (sN (sR (sN (sR (sN (sR (sN (sR (sN (sR (sN (sR (sN (sR (sN (sR (sN (sR (sN (sR (sN (sR (sN (sR (sN (sR (sN (sR (sN (sR (sN (sR (sN (sR (sN (sR (sN (sR (sN S q1 15 8) a0 5 (some q1)) q3 15 60) a0 6 (some q3)) q5 15 200) a0 7 (some q5)) q7 15 200) a0 8 (some q7)) q9 15 200) a0 9 (some q9)) q11 17 40000) a0 10 (some q11)) q13 17 40000) a0 11 (some q13)) q15 17 8000) a0 12 (some q15)) q17 15 12000) a0 13 (some q17)) q19 15 12000) a0 14 (some q19)) q21 15 200) a0 15 (some q21)) q23 15 200) a0 16 (some q23)) q25 15 200) a0 17 (some q25)) q27 15 6000) a0 18 (some q27)) q29 15 200) a0 19 (some q29)) q31 15 200) a0 20 (some q31)) q33 15 200) a0 21 (some q33)) q35 15 200) a0 26 (some q35)) q37 15 200) a0 27 (some q37)) q39 15 200) a0 28 (some q39)) q41 15 200) a0 29 (some q41)) q43 15 200) a0 30 (some q43)) q45 15 200) a0 31 (some q45)) q47 15 32) a0 32 (some q47)) q49 15 40) a0 33 (some q49)) q51 15 40) a0 34 (some q51)) q53 16 60) a0 35 (some q53)) q55 15 600) a0 36 (some q55)) q57 15 600) a0 37 (some q57)) q59 15 600) a0 38 (some q59)) q61 16 30) a0 40 (some q61)) q63 17 30) a0 42 (some q63)) q65 16 30) a0 43 (some q65)) q67 17 200) a0 44 (some q67)) q69 17 200) a0 45 (some q69)) q71 15 200) a0 46 (some q71)) q73 15 200) a0 47 (some q73))
set_option maxRecDepth 100000 in
set_option maxHeartbeats 4000000 in
theorem c_X12_init {l : Launch} {G : GX} {S : Hp} {a0 : Nat} {Q : Hp → Prop} (hw : wp_X12_init S a0 Q) : Met l yX12_init (Cond.code yX12_init cX12_init 1 none :: TS) { frames := 1, cells := 37, slots := 123930, locals := 20 } (Pk G S [va_rf (some a0)]) (QV G Q) 37 123930 G.2.2.1 := by
  refine m_met (by decide) ?_
  intro p e s m below meth c H locs C hW hS
  have C : Cx p s m ([va_rf (some a0)] : List Value).toArray meth c cX12_init 1 RX12 none "<init>" G := C
  obtain ⟨ls, hent, hL, hla⟩ := m_entry m (vs := [va_rf (some a0)]) (nn := 1) [1] rfl (by decide)
  rw [hent]
  have h0 : ls[0]? = some (.val (va_rf (some a0))) := hla (0, va_rf (some a0)) (List.mem_of_getElem? (i := 0) rfl)
  clear hla
  generalize ([va_rf (some a0)] : List Value).toArray = args at C ⊢
  unfold wp_X12_init at hw
  refine m_aldN C dX12_init_0 rfl h0 ?_
  refine m_obj C tw_1131 tw_33 tw_34 hL.1 ⟨Nat.le_of_ble_eq_true rfl, Nat.le_of_ble_eq_true rfl⟩ (Nat.le_of_ble_eq_true rfl) rfl dX12_init_1 ?_
  refine m_aldN C dX12_init_4 rfl h0 ?_
  refine lv_bipush (v := 8) C.1 C.2.1 dX12_init_5 (by decide) ?_
  refine m_newa (N := 8) C hW hS (Or.inl ⟨rfl, rfl⟩) tw_122 (by decide) (by decide) (by decide) (Nat.le_of_ble_eq_true rfl) (Nat.le_of_ble_eq_true rfl) dX12_init_7 (fun q1 H hq1 hW hS => ?_)
  have hw := hw q1 hq1
  obtain ⟨hk2, hw⟩ := hw
  refine m_putR C hW hS rfl hk2 p_X12_9 (fun _ => rfl) rfl dX12_init_9 (fun H locs hW hS => ?_)
  refine m_aldN C dX12_init_12 rfl h0 ?_
  refine lv_bipush (v := 60) C.1 C.2.1 dX12_init_13 (by decide) ?_
  refine m_newa (N := 60) C hW hS (Or.inl ⟨rfl, rfl⟩) tw_122 (by decide) (by decide) (by decide) (Nat.le_of_ble_eq_true rfl) (Nat.le_of_ble_eq_true rfl) dX12_init_15 (fun q3 H hq3 hW hS => ?_)
  have hw := hw q3 hq3
  obtain ⟨hk4, hw⟩ := hw
  refine m_putR C hW hS rfl hk4 p_X12_13 (fun _ => rfl) rfl dX12_init_17 (fun H locs hW hS => ?_)
  refine m_aldN C dX12_init_20 rfl h0 ?_
  refine lv_sipush (v := 200) C.1 C.2.1 dX12_init_21 (by decide) ?_
  refine m_newa (N := 200) C hW hS (Or.inl ⟨rfl, rfl⟩) tw_122 (by decide) (by decide) (by decide) (Nat.le_of_ble_eq_true rfl) (Nat.le_of_ble_eq_true rfl) dX12_init_24 (fun q5 H hq5 hW hS => ?_)
  have hw := hw q5 hq5
  obtain ⟨hk6, hw⟩ := hw
  refine m_putR C hW hS rfl hk6 p_X12_16 (fun _ => rfl) rfl dX12_init_26 (fun H locs hW hS => ?_)
  refine m_aldN C dX12_init_29 rfl h0 ?_
  refine lv_sipush (v := 200) C.1 C.2.1 dX12_init_30 (by decide) ?_
  refine m_newa (N := 200) C hW hS (Or.inl ⟨rfl, rfl⟩) tw_122 (by decide) (by decide) (by decide) (Nat.le_of_ble_eq_true rfl) (Nat.le_of_ble_eq_true rfl) dX12_init_33 (fun q7 H hq7 hW hS => ?_)
  have hw := hw q7 hq7
  obtain ⟨hk8, hw⟩ := hw
  refine m_putR C hW hS rfl hk8 p_X12_19 (fun _ => rfl) rfl dX12_init_35 (fun H locs hW hS => ?_)
  refine m_aldN C dX12_init_38 rfl h0 ?_
  refine lv_sipush (v := 200) C.1 C.2.1 dX12_init_39 (by decide) ?_
  refine m_newa (N := 200) C hW hS (Or.inl ⟨rfl, rfl⟩) tw_122 (by decide) (by decide) (by decide) (Nat.le_of_ble_eq_true rfl) (Nat.le_of_ble_eq_true rfl) dX12_init_42 (fun q9 H hq9 hW hS => ?_)
  have hw := hw q9 hq9
  obtain ⟨hk10, hw⟩ := hw
  refine m_putR C hW hS rfl hk10 p_X12_22 (fun _ => rfl) rfl dX12_init_44 (fun H locs hW hS => ?_)
  refine m_aldN C dX12_init_47 rfl h0 ?_
  refine lv_ldc (v := 40000) C.1 C.2.1 C.2.2.2.1 (C.2.2.2.2.1 _ tw_1132) dX12_init_48 ?_
  refine m_newa (N := 40000) C hW hS (Or.inr (Or.inr ⟨rfl, rfl⟩)) tw_1278 (by decide) (by decide) (by decide) (Nat.le_of_ble_eq_true rfl) (Nat.le_of_ble_eq_true rfl) dX12_init_50 (fun q11 H hq11 hW hS => ?_)
  have hw := hw q11 hq11
  obtain ⟨hk12, hw⟩ := hw
  refine m_putR C hW hS rfl hk12 p_X12_26 (fun _ => rfl) rfl dX12_init_52 (fun H locs hW hS => ?_)
  refine m_aldN C dX12_init_55 rfl h0 ?_
  refine lv_ldc (v := 40000) C.1 C.2.1 C.2.2.2.1 (C.2.2.2.2.1 _ tw_1132) dX12_init_56 ?_
  refine m_newa (N := 40000) C hW hS (Or.inr (Or.inr ⟨rfl, rfl⟩)) tw_1278 (by decide) (by decide) (by decide) (Nat.le_of_ble_eq_true rfl) (Nat.le_of_ble_eq_true rfl) dX12_init_58 (fun q13 H hq13 hW hS => ?_)
  have hw := hw q13 hq13
  obtain ⟨hk14, hw⟩ := hw
  refine m_putR C hW hS rfl hk14 p_X12_30 (fun _ => rfl) rfl dX12_init_60 (fun H locs hW hS => ?_)
  refine m_aldN C dX12_init_63 rfl h0 ?_
  refine lv_sipush (v := 8000) C.1 C.2.1 dX12_init_64 (by decide) ?_
  refine m_newa (N := 8000) C hW hS (Or.inr (Or.inr ⟨rfl, rfl⟩)) tw_1278 (by decide) (by decide) (by decide) (Nat.le_of_ble_eq_true rfl) (Nat.le_of_ble_eq_true rfl) dX12_init_67 (fun q15 H hq15 hW hS => ?_)
  have hw := hw q15 hq15
  obtain ⟨hk16, hw⟩ := hw
  refine m_putR C hW hS rfl hk16 p_X12_33 (fun _ => rfl) rfl dX12_init_69 (fun H locs hW hS => ?_)
  refine m_aldN C dX12_init_72 rfl h0 ?_
  refine lv_sipush (v := 12000) C.1 C.2.1 dX12_init_73 (by decide) ?_
  refine m_newa (N := 12000) C hW hS (Or.inl ⟨rfl, rfl⟩) tw_122 (by decide) (by decide) (by decide) (Nat.le_of_ble_eq_true rfl) (Nat.le_of_ble_eq_true rfl) dX12_init_76 (fun q17 H hq17 hW hS => ?_)
  have hw := hw q17 hq17
  obtain ⟨hk18, hw⟩ := hw
  refine m_putR C hW hS rfl hk18 p_X12_36 (fun _ => rfl) rfl dX12_init_78 (fun H locs hW hS => ?_)
  refine m_aldN C dX12_init_81 rfl h0 ?_
  refine lv_sipush (v := 12000) C.1 C.2.1 dX12_init_82 (by decide) ?_
  refine m_newa (N := 12000) C hW hS (Or.inl ⟨rfl, rfl⟩) tw_122 (by decide) (by decide) (by decide) (Nat.le_of_ble_eq_true rfl) (Nat.le_of_ble_eq_true rfl) dX12_init_85 (fun q19 H hq19 hW hS => ?_)
  have hw := hw q19 hq19
  obtain ⟨hk20, hw⟩ := hw
  refine m_putR C hW hS rfl hk20 p_X12_39 (fun _ => rfl) rfl dX12_init_87 (fun H locs hW hS => ?_)
  refine m_aldN C dX12_init_90 rfl h0 ?_
  refine lv_sipush (v := 200) C.1 C.2.1 dX12_init_91 (by decide) ?_
  refine m_newa (N := 200) C hW hS (Or.inl ⟨rfl, rfl⟩) tw_122 (by decide) (by decide) (by decide) (Nat.le_of_ble_eq_true rfl) (Nat.le_of_ble_eq_true rfl) dX12_init_94 (fun q21 H hq21 hW hS => ?_)
  have hw := hw q21 hq21
  obtain ⟨hk22, hw⟩ := hw
  refine m_putR C hW hS rfl hk22 p_X12_42 (fun _ => rfl) rfl dX12_init_96 (fun H locs hW hS => ?_)
  refine m_aldN C dX12_init_99 rfl h0 ?_
  refine lv_sipush (v := 200) C.1 C.2.1 dX12_init_100 (by decide) ?_
  refine m_newa (N := 200) C hW hS (Or.inl ⟨rfl, rfl⟩) tw_122 (by decide) (by decide) (by decide) (Nat.le_of_ble_eq_true rfl) (Nat.le_of_ble_eq_true rfl) dX12_init_103 (fun q23 H hq23 hW hS => ?_)
  have hw := hw q23 hq23
  obtain ⟨hk24, hw⟩ := hw
  refine m_putR C hW hS rfl hk24 p_X12_45 (fun _ => rfl) rfl dX12_init_105 (fun H locs hW hS => ?_)
  refine m_aldN C dX12_init_108 rfl h0 ?_
  refine lv_sipush (v := 200) C.1 C.2.1 dX12_init_109 (by decide) ?_
  refine m_newa (N := 200) C hW hS (Or.inl ⟨rfl, rfl⟩) tw_122 (by decide) (by decide) (by decide) (Nat.le_of_ble_eq_true rfl) (Nat.le_of_ble_eq_true rfl) dX12_init_112 (fun q25 H hq25 hW hS => ?_)
  have hw := hw q25 hq25
  obtain ⟨hk26, hw⟩ := hw
  refine m_putR C hW hS rfl hk26 p_X12_48 (fun _ => rfl) rfl dX12_init_114 (fun H locs hW hS => ?_)
  refine m_aldN C dX12_init_117 rfl h0 ?_
  refine lv_sipush (v := 6000) C.1 C.2.1 dX12_init_118 (by decide) ?_
  refine m_newa (N := 6000) C hW hS (Or.inl ⟨rfl, rfl⟩) tw_122 (by decide) (by decide) (by decide) (Nat.le_of_ble_eq_true rfl) (Nat.le_of_ble_eq_true rfl) dX12_init_121 (fun q27 H hq27 hW hS => ?_)
  have hw := hw q27 hq27
  obtain ⟨hk28, hw⟩ := hw
  refine m_putR C hW hS rfl hk28 p_X12_51 (fun _ => rfl) rfl dX12_init_123 (fun H locs hW hS => ?_)
  refine m_aldN C dX12_init_126 rfl h0 ?_
  refine lv_sipush (v := 200) C.1 C.2.1 dX12_init_127 (by decide) ?_
  refine m_newa (N := 200) C hW hS (Or.inl ⟨rfl, rfl⟩) tw_122 (by decide) (by decide) (by decide) (Nat.le_of_ble_eq_true rfl) (Nat.le_of_ble_eq_true rfl) dX12_init_130 (fun q29 H hq29 hW hS => ?_)
  have hw := hw q29 hq29
  obtain ⟨hk30, hw⟩ := hw
  refine m_putR C hW hS rfl hk30 p_X12_54 (fun _ => rfl) rfl dX12_init_132 (fun H locs hW hS => ?_)
  refine m_aldN C dX12_init_135 rfl h0 ?_
  refine lv_sipush (v := 200) C.1 C.2.1 dX12_init_136 (by decide) ?_
  refine m_newa (N := 200) C hW hS (Or.inl ⟨rfl, rfl⟩) tw_122 (by decide) (by decide) (by decide) (Nat.le_of_ble_eq_true rfl) (Nat.le_of_ble_eq_true rfl) dX12_init_139 (fun q31 H hq31 hW hS => ?_)
  have hw := hw q31 hq31
  obtain ⟨hk32, hw⟩ := hw
  refine m_putR C hW hS rfl hk32 p_X12_57 (fun _ => rfl) rfl dX12_init_141 (fun H locs hW hS => ?_)
  refine m_aldN C dX12_init_144 rfl h0 ?_
  refine lv_sipush (v := 200) C.1 C.2.1 dX12_init_145 (by decide) ?_
  refine m_newa (N := 200) C hW hS (Or.inl ⟨rfl, rfl⟩) tw_122 (by decide) (by decide) (by decide) (Nat.le_of_ble_eq_true rfl) (Nat.le_of_ble_eq_true rfl) dX12_init_148 (fun q33 H hq33 hW hS => ?_)
  have hw := hw q33 hq33
  obtain ⟨hk34, hw⟩ := hw
  refine m_putR C hW hS rfl hk34 p_X12_60 (fun _ => rfl) rfl dX12_init_150 (fun H locs hW hS => ?_)
  refine m_aldN C dX12_init_153 rfl h0 ?_
  refine lv_sipush (v := 200) C.1 C.2.1 dX12_init_154 (by decide) ?_
  refine m_newa (N := 200) C hW hS (Or.inl ⟨rfl, rfl⟩) tw_122 (by decide) (by decide) (by decide) (Nat.le_of_ble_eq_true rfl) (Nat.le_of_ble_eq_true rfl) dX12_init_157 (fun q35 H hq35 hW hS => ?_)
  have hw := hw q35 hq35
  obtain ⟨hk36, hw⟩ := hw
  refine m_putR C hW hS rfl hk36 p_X12_63 (fun _ => rfl) rfl dX12_init_159 (fun H locs hW hS => ?_)
  refine m_aldN C dX12_init_162 rfl h0 ?_
  refine lv_sipush (v := 200) C.1 C.2.1 dX12_init_163 (by decide) ?_
  refine m_newa (N := 200) C hW hS (Or.inl ⟨rfl, rfl⟩) tw_122 (by decide) (by decide) (by decide) (Nat.le_of_ble_eq_true rfl) (Nat.le_of_ble_eq_true rfl) dX12_init_166 (fun q37 H hq37 hW hS => ?_)
  have hw := hw q37 hq37
  obtain ⟨hk38, hw⟩ := hw
  refine m_putR C hW hS rfl hk38 p_X12_66 (fun _ => rfl) rfl dX12_init_168 (fun H locs hW hS => ?_)
  refine m_aldN C dX12_init_171 rfl h0 ?_
  refine lv_sipush (v := 200) C.1 C.2.1 dX12_init_172 (by decide) ?_
  refine m_newa (N := 200) C hW hS (Or.inl ⟨rfl, rfl⟩) tw_122 (by decide) (by decide) (by decide) (Nat.le_of_ble_eq_true rfl) (Nat.le_of_ble_eq_true rfl) dX12_init_175 (fun q39 H hq39 hW hS => ?_)
  have hw := hw q39 hq39
  obtain ⟨hk40, hw⟩ := hw
  refine m_putR C hW hS rfl hk40 p_X12_69 (fun _ => rfl) rfl dX12_init_177 (fun H locs hW hS => ?_)
  refine m_aldN C dX12_init_180 rfl h0 ?_
  refine lv_sipush (v := 200) C.1 C.2.1 dX12_init_181 (by decide) ?_
  refine m_newa (N := 200) C hW hS (Or.inl ⟨rfl, rfl⟩) tw_122 (by decide) (by decide) (by decide) (Nat.le_of_ble_eq_true rfl) (Nat.le_of_ble_eq_true rfl) dX12_init_184 (fun q41 H hq41 hW hS => ?_)
  have hw := hw q41 hq41
  obtain ⟨hk42, hw⟩ := hw
  refine m_putR C hW hS rfl hk42 p_X12_72 (fun _ => rfl) rfl dX12_init_186 (fun H locs hW hS => ?_)
  refine m_aldN C dX12_init_189 rfl h0 ?_
  refine lv_sipush (v := 200) C.1 C.2.1 dX12_init_190 (by decide) ?_
  refine m_newa (N := 200) C hW hS (Or.inl ⟨rfl, rfl⟩) tw_122 (by decide) (by decide) (by decide) (Nat.le_of_ble_eq_true rfl) (Nat.le_of_ble_eq_true rfl) dX12_init_193 (fun q43 H hq43 hW hS => ?_)
  have hw := hw q43 hq43
  obtain ⟨hk44, hw⟩ := hw
  refine m_putR C hW hS rfl hk44 p_X12_75 (fun _ => rfl) rfl dX12_init_195 (fun H locs hW hS => ?_)
  refine m_aldN C dX12_init_198 rfl h0 ?_
  refine lv_sipush (v := 200) C.1 C.2.1 dX12_init_199 (by decide) ?_
  refine m_newa (N := 200) C hW hS (Or.inl ⟨rfl, rfl⟩) tw_122 (by decide) (by decide) (by decide) (Nat.le_of_ble_eq_true rfl) (Nat.le_of_ble_eq_true rfl) dX12_init_202 (fun q45 H hq45 hW hS => ?_)
  have hw := hw q45 hq45
  obtain ⟨hk46, hw⟩ := hw
  refine m_putR C hW hS rfl hk46 p_X12_78 (fun _ => rfl) rfl dX12_init_204 (fun H locs hW hS => ?_)
  refine m_aldN C dX12_init_207 rfl h0 ?_
  refine lv_bipush (v := 32) C.1 C.2.1 dX12_init_208 (by decide) ?_
  refine m_newa (N := 32) C hW hS (Or.inl ⟨rfl, rfl⟩) tw_122 (by decide) (by decide) (by decide) (Nat.le_of_ble_eq_true rfl) (Nat.le_of_ble_eq_true rfl) dX12_init_210 (fun q47 H hq47 hW hS => ?_)
  have hw := hw q47 hq47
  obtain ⟨hk48, hw⟩ := hw
  refine m_putR C hW hS rfl hk48 p_X12_81 (fun _ => rfl) rfl dX12_init_212 (fun H locs hW hS => ?_)
  refine m_aldN C dX12_init_215 rfl h0 ?_
  refine lv_bipush (v := 40) C.1 C.2.1 dX12_init_216 (by decide) ?_
  refine m_newa (N := 40) C hW hS (Or.inl ⟨rfl, rfl⟩) tw_122 (by decide) (by decide) (by decide) (Nat.le_of_ble_eq_true rfl) (Nat.le_of_ble_eq_true rfl) dX12_init_218 (fun q49 H hq49 hW hS => ?_)
  have hw := hw q49 hq49
  obtain ⟨hk50, hw⟩ := hw
  refine m_putR C hW hS rfl hk50 p_X12_84 (fun _ => rfl) rfl dX12_init_220 (fun H locs hW hS => ?_)
  refine m_aldN C dX12_init_223 rfl h0 ?_
  refine lv_bipush (v := 40) C.1 C.2.1 dX12_init_224 (by decide) ?_
  refine m_newa (N := 40) C hW hS (Or.inl ⟨rfl, rfl⟩) tw_122 (by decide) (by decide) (by decide) (Nat.le_of_ble_eq_true rfl) (Nat.le_of_ble_eq_true rfl) dX12_init_226 (fun q51 H hq51 hW hS => ?_)
  have hw := hw q51 hq51
  obtain ⟨hk52, hw⟩ := hw
  refine m_putR C hW hS rfl hk52 p_X12_87 (fun _ => rfl) rfl dX12_init_228 (fun H locs hW hS => ?_)
  refine m_aldN C dX12_init_231 rfl h0 ?_
  refine lv_bipush (v := 60) C.1 C.2.1 dX12_init_232 (by decide) ?_
  refine m_newa (N := 60) C hW hS (Or.inr (Or.inl ⟨rfl, rfl⟩)) tw_87 (by decide) (by decide) (by decide) (Nat.le_of_ble_eq_true rfl) (Nat.le_of_ble_eq_true rfl) dX12_init_234 (fun q53 H hq53 hW hS => ?_)
  have hw := hw q53 hq53
  obtain ⟨hk54, hw⟩ := hw
  refine m_putR C hW hS rfl hk54 p_X12_90 (fun _ => rfl) rfl dX12_init_236 (fun H locs hW hS => ?_)
  refine m_aldN C dX12_init_239 rfl h0 ?_
  refine lv_sipush (v := 600) C.1 C.2.1 dX12_init_240 (by decide) ?_
  refine m_newa (N := 600) C hW hS (Or.inl ⟨rfl, rfl⟩) tw_122 (by decide) (by decide) (by decide) (Nat.le_of_ble_eq_true rfl) (Nat.le_of_ble_eq_true rfl) dX12_init_243 (fun q55 H hq55 hW hS => ?_)
  have hw := hw q55 hq55
  obtain ⟨hk56, hw⟩ := hw
  refine m_putR C hW hS rfl hk56 p_X12_94 (fun _ => rfl) rfl dX12_init_245 (fun H locs hW hS => ?_)
  refine m_aldN C dX12_init_248 rfl h0 ?_
  refine lv_sipush (v := 600) C.1 C.2.1 dX12_init_249 (by decide) ?_
  refine m_newa (N := 600) C hW hS (Or.inl ⟨rfl, rfl⟩) tw_122 (by decide) (by decide) (by decide) (Nat.le_of_ble_eq_true rfl) (Nat.le_of_ble_eq_true rfl) dX12_init_252 (fun q57 H hq57 hW hS => ?_)
  have hw := hw q57 hq57
  obtain ⟨hk58, hw⟩ := hw
  refine m_putR C hW hS rfl hk58 p_X12_97 (fun _ => rfl) rfl dX12_init_254 (fun H locs hW hS => ?_)
  refine m_aldN C dX12_init_257 rfl h0 ?_
  refine lv_sipush (v := 600) C.1 C.2.1 dX12_init_258 (by decide) ?_
  refine m_newa (N := 600) C hW hS (Or.inl ⟨rfl, rfl⟩) tw_122 (by decide) (by decide) (by decide) (Nat.le_of_ble_eq_true rfl) (Nat.le_of_ble_eq_true rfl) dX12_init_261 (fun q59 H hq59 hW hS => ?_)
  have hw := hw q59 hq59
  obtain ⟨hk60, hw⟩ := hw
  refine m_putR C hW hS rfl hk60 p_X12_100 (fun _ => rfl) rfl dX12_init_263 (fun H locs hW hS => ?_)
  refine m_aldN C dX12_init_266 rfl h0 ?_
  refine lv_bipush (v := 30) C.1 C.2.1 dX12_init_267 (by decide) ?_
  refine m_newa (N := 30) C hW hS (Or.inr (Or.inl ⟨rfl, rfl⟩)) tw_87 (by decide) (by decide) (by decide) (Nat.le_of_ble_eq_true rfl) (Nat.le_of_ble_eq_true rfl) dX12_init_269 (fun q61 H hq61 hW hS => ?_)
  have hw := hw q61 hq61
  obtain ⟨hk62, hw⟩ := hw
  refine m_putR C hW hS rfl hk62 p_X12_103 (fun _ => rfl) rfl dX12_init_271 (fun H locs hW hS => ?_)
  refine m_aldN C dX12_init_274 rfl h0 ?_
  refine lv_bipush (v := 30) C.1 C.2.1 dX12_init_275 (by decide) ?_
  refine m_newa (N := 30) C hW hS (Or.inr (Or.inr ⟨rfl, rfl⟩)) tw_1278 (by decide) (by decide) (by decide) (Nat.le_of_ble_eq_true rfl) (Nat.le_of_ble_eq_true rfl) dX12_init_277 (fun q63 H hq63 hW hS => ?_)
  have hw := hw q63 hq63
  obtain ⟨hk64, hw⟩ := hw
  refine m_putR C hW hS rfl hk64 p_X12_106 (fun _ => rfl) rfl dX12_init_279 (fun H locs hW hS => ?_)
  refine m_aldN C dX12_init_282 rfl h0 ?_
  refine lv_bipush (v := 30) C.1 C.2.1 dX12_init_283 (by decide) ?_
  refine m_newa (N := 30) C hW hS (Or.inr (Or.inl ⟨rfl, rfl⟩)) tw_87 (by decide) (by decide) (by decide) (Nat.le_of_ble_eq_true rfl) (Nat.le_of_ble_eq_true rfl) dX12_init_285 (fun q65 H hq65 hW hS => ?_)
  have hw := hw q65 hq65
  obtain ⟨hk66, hw⟩ := hw
  refine m_putR C hW hS rfl hk66 p_X12_109 (fun _ => rfl) rfl dX12_init_287 (fun H locs hW hS => ?_)
  refine m_aldN C dX12_init_290 rfl h0 ?_
  refine lv_sipush (v := 200) C.1 C.2.1 dX12_init_291 (by decide) ?_
  refine m_newa (N := 200) C hW hS (Or.inr (Or.inr ⟨rfl, rfl⟩)) tw_1278 (by decide) (by decide) (by decide) (Nat.le_of_ble_eq_true rfl) (Nat.le_of_ble_eq_true rfl) dX12_init_294 (fun q67 H hq67 hW hS => ?_)
  have hw := hw q67 hq67
  obtain ⟨hk68, hw⟩ := hw
  refine m_putR C hW hS rfl hk68 p_X12_112 (fun _ => rfl) rfl dX12_init_296 (fun H locs hW hS => ?_)
  refine m_aldN C dX12_init_299 rfl h0 ?_
  refine lv_sipush (v := 200) C.1 C.2.1 dX12_init_300 (by decide) ?_
  refine m_newa (N := 200) C hW hS (Or.inr (Or.inr ⟨rfl, rfl⟩)) tw_1278 (by decide) (by decide) (by decide) (Nat.le_of_ble_eq_true rfl) (Nat.le_of_ble_eq_true rfl) dX12_init_303 (fun q69 H hq69 hW hS => ?_)
  have hw := hw q69 hq69
  obtain ⟨hk70, hw⟩ := hw
  refine m_putR C hW hS rfl hk70 p_X12_115 (fun _ => rfl) rfl dX12_init_305 (fun H locs hW hS => ?_)
  refine m_aldN C dX12_init_308 rfl h0 ?_
  refine lv_sipush (v := 200) C.1 C.2.1 dX12_init_309 (by decide) ?_
  refine m_newa (N := 200) C hW hS (Or.inl ⟨rfl, rfl⟩) tw_122 (by decide) (by decide) (by decide) (Nat.le_of_ble_eq_true rfl) (Nat.le_of_ble_eq_true rfl) dX12_init_312 (fun q71 H hq71 hW hS => ?_)
  have hw := hw q71 hq71
  obtain ⟨hk72, hw⟩ := hw
  refine m_putR C hW hS rfl hk72 p_X12_118 (fun _ => rfl) rfl dX12_init_314 (fun H locs hW hS => ?_)
  refine m_aldN C dX12_init_317 rfl h0 ?_
  refine lv_sipush (v := 200) C.1 C.2.1 dX12_init_318 (by decide) ?_
  refine m_newa (N := 200) C hW hS (Or.inl ⟨rfl, rfl⟩) tw_122 (by decide) (by decide) (by decide) (Nat.le_of_ble_eq_true rfl) (Nat.le_of_ble_eq_true rfl) dX12_init_321 (fun q73 H hq73 hW hS => ?_)
  have hw := hw q73 hq73
  obtain ⟨hk74, hw⟩ := hw
  refine m_putR C hW hS rfl hk74 p_X12_121 (fun _ => rfl) rfl dX12_init_323 (fun H locs hW hS => ?_)
  exact m_vret C hW hS hw dX12_init_326
def wp_X12_thrown (S : Hp) (a0 : Nat) (Q : Int32 → Hp → Prop) : Prop := hK S a0 = 14 ∧ Q (hI S a0 0) S
set_option maxRecDepth 100000 in
set_option maxHeartbeats 4000000 in
theorem c_X12_thrown {l : Launch} {G : GX} {S : Hp} {a0 : Nat} {Q : Int32 → Hp → Prop} (hw : wp_X12_thrown S a0 Q) : Met l yX12_thrown (Cond.code yX12_thrown cX12_thrown 1 (some .int) :: TS) { frames := 0, cells := 0, slots := 0, locals := 0 } (Pk G S [va_rf (some a0)]) (QI G Q) 0 0 G.2.2.1 := by
  refine m_met (by decide) ?_
  intro p e s m below meth c H locs C hW hS
  have C : Cx p s m ([va_rf (some a0)] : List Value).toArray meth c cX12_thrown 1 RX12 (some .int) "thrown" G := C
  obtain ⟨ls, hent, hL, hla⟩ := m_entry m (vs := [va_rf (some a0)]) (nn := 1) [1] rfl (by decide)
  rw [hent]
  have h0 : ls[0]? = some (.val (va_rf (some a0))) := hla (0, va_rf (some a0)) (List.mem_of_getElem? (i := 0) rfl)
  clear hla
  generalize ([va_rf (some a0)] : List Value).toArray = args at C ⊢
  unfold wp_X12_thrown at hw
  refine m_aldN C dX12_thrown_0 rfl h0 ?_
  obtain ⟨hk1, hw⟩ := hw
  refine m_getI C hW rfl hk1 f_X12_124 rfl dX12_thrown_1 ?_
  exact m_iret C hW hS hw dX12_thrown_4
