def wp_L_check (S : Hp) (a0 : Option Nat) (a1 : Int32) (a2 : Option Nat) (Q : Int32 → Hp → Prop) : Prop := ∃ b1 : Nat, a0 = some b1 ∧ hK S b1 = 13 ∧ wp_X11_check S b1 a1 (fun r4 S3 => ∃ b7 : Nat, a2 = some b7 ∧ hK S3 b7 = 16 ∧ vp_in 0 (hN S3 b7) ∧ Q 0 (sJ S3 b7 (0 : Int32).toNatClampNeg ((r4 : Int32).toInt64))) (fun S5 => Q 1 S5)
set_option maxRecDepth 100000 in
set_option maxHeartbeats 4000000 in
theorem c_L_check {l : Launch} (hl : l.stackTraces = false) {G : GX} {S : Hp} {a0 : Option Nat} {a1 : Int32} {a2 : Option Nat} {Q : Int32 → Hp → Prop} (hw : wp_L_check S a0 a1 a2 Q) : vx_Met l yL_check (Cond.codeWith yL_check cL_check 4 (some .int) [(0, 9, 12, 13)] :: TS) { frames := 8, cells := 1, slots := 6, locals := 124 } (Pk G S [va_rf a0, .int a1, va_rf a2]) (QI G Q) XN 1 6 G.2.2.1 := by
  refine m_metH (by decide) ?_
  intro p e s m below meth c H locs C hTab hW hS
  have C : Cx p s m ([va_rf a0, .int a1, va_rf a2] : List Value).toArray meth c cL_check 4 RL (some .int) "check" G := C
  obtain ⟨ls, hent, hL, hla⟩ := m_entry m (vs := [va_rf a0, .int a1, va_rf a2]) (nn := 4) [1, 1, 1] (by simp only [List.map_cons, List.map_nil, va_rf_cat] <;> rfl) (by decide)
  rw [hent]
  have h0 : ls[0]? = some (.val (va_rf a0)) := hla (0, va_rf a0) (List.mem_of_getElem? (i := 0) rfl)
  have h1 : ls[1]? = some (.val (.int a1)) := hla (1, .int a1) (List.mem_of_getElem? (i := 1) rfl)
  have h2 : ls[2]? = some (.val (va_rf a2)) := hla (2, va_rf a2) (List.mem_of_getElem? (i := 2) rfl)
  clear hla
  generalize ([va_rf a0, .int a1, va_rf a2] : List Value).toArray = args at C ⊢
  unfold wp_L_check at hw
  refine m_aldN C dL_check_0 rfl h2 ?_
  refine lv_iconst (v := 0) C.1 C.2.1 dL_check_1 (by decide) ?_
  refine m_aldN C dL_check_2 rfl h0 ?_
  refine lv_iload_n C.1 C.2.1 dL_check_3 rfl h1 ?_
  obtain ⟨b1, ho1, hw⟩ := hw
  obtain ⟨hk2, hw⟩ := hw
  refine m_xI (m_runX (As := [.int a1]) (rest := [.int 0, va_rf a2]) C hW hS hL (c_X11_check hl hw) v_L_23 ⟨rfl, rfl⟩ ⟨Nat.le_of_ble_eq_true rfl, Nat.le_of_ble_eq_true rfl⟩ ho1 hk2 rfl rfl (by simp only [List.map_cons, List.map_nil, va_rf_cat, List.sum_cons, List.sum_nil] <;> exact Nat.le_of_ble_eq_true rfl) dL_check_4 ⟨Nat.le_of_ble_eq_true rfl, Nat.le_of_ble_eq_true rfl⟩) hS (fun S5 q6 ce H locs hw hW hS g1 g2 g3 => ?_) (fun r4 S3 H locs hw hW hS => ?_)
  · refine m_catch C hTab tw_931 ⟨by decide, by decide⟩ g1 g2 g3 ?_
    refine m_astN C hL dL_check_12 rfl (by decide) (fun ls hL hn9 hk9 => ?_)
    refine lv_iconst (v := 1) C.1 C.2.1 dL_check_13 (by decide) ?_
    exact vx_ret (m_iret C hW hS hw dL_check_14)
  · refine lv_i2l (v := ((r4 : Int32).toInt64)) C.1 C.2.1 dL_check_7 rfl ?_
    obtain ⟨b7, ho7, hw⟩ := hw
    obtain ⟨hk8, hw⟩ := hw
    obtain ⟨hi9, hw⟩ := hw
    refine m_last C hW hS ho7 hk8 hi9 dL_check_8 (fun H locs hW hS => ?_)
    refine lv_goto (tgt := 15) C.1 C.2.1 dL_check_9 (by decide) ?_
    refine lv_iconst (v := 0) C.1 C.2.1 dL_check_15 (by decide) ?_
    exact vx_ret (m_iret C hW hS hw dL_check_16)
def wp_L_failure (S : Hp) (a0 : Option Nat) (a1 : Int32) (a2 : Int32) (a3 : Option Nat) (Q : Int32 → Hp → Prop) : Prop := ∃ b1 : Nat, a0 = some b1 ∧ hK S b1 = 13 ∧ wp_X11_failure S b1 a1 a2 (fun r4 S3 => ∃ b7 : Nat, a3 = some b7 ∧ hK S3 b7 = 16 ∧ vp_in 0 (hN S3 b7) ∧ Q 0 (sJ S3 b7 (0 : Int32).toNatClampNeg ((r4 : Int32).toInt64))) (fun S5 => Q 1 S5)
set_option maxRecDepth 100000 in
set_option maxHeartbeats 4000000 in
theorem c_L_failure {l : Launch} (hl : l.stackTraces = false) {G : GX} {S : Hp} {a0 : Option Nat} {a1 : Int32} {a2 : Int32} {a3 : Option Nat} {Q : Int32 → Hp → Prop} (hw : wp_L_failure S a0 a1 a2 a3 Q) : vx_Met l yL_failure (Cond.codeWith yL_failure cL_failure 5 (some .int) [(0, 10, 13, 13)] :: TS) { frames := 7, cells := 1, slots := 6, locals := 106 } (Pk G S [va_rf a0, .int a1, .int a2, va_rf a3]) (QI G Q) XN 1 6 G.2.2.1 := by
  refine m_metH (by decide) ?_
  intro p e s m below meth c H locs C hTab hW hS
  have C : Cx p s m ([va_rf a0, .int a1, .int a2, va_rf a3] : List Value).toArray meth c cL_failure 5 RL (some .int) "failure" G := C
  obtain ⟨ls, hent, hL, hla⟩ := m_entry m (vs := [va_rf a0, .int a1, .int a2, va_rf a3]) (nn := 5) [1, 1, 1, 1] (by simp only [List.map_cons, List.map_nil, va_rf_cat] <;> rfl) (by decide)
  rw [hent]
  have h0 : ls[0]? = some (.val (va_rf a0)) := hla (0, va_rf a0) (List.mem_of_getElem? (i := 0) rfl)
  have h1 : ls[1]? = some (.val (.int a1)) := hla (1, .int a1) (List.mem_of_getElem? (i := 1) rfl)
  have h2 : ls[2]? = some (.val (.int a2)) := hla (2, .int a2) (List.mem_of_getElem? (i := 2) rfl)
  have h3 : ls[3]? = some (.val (va_rf a3)) := hla (3, va_rf a3) (List.mem_of_getElem? (i := 3) rfl)
  clear hla
  generalize ([va_rf a0, .int a1, .int a2, va_rf a3] : List Value).toArray = args at C ⊢
  unfold wp_L_failure at hw
  refine m_aldN C dL_failure_0 rfl h3 ?_
  refine lv_iconst (v := 0) C.1 C.2.1 dL_failure_1 (by decide) ?_
  refine m_aldN C dL_failure_2 rfl h0 ?_
  refine lv_iload_n C.1 C.2.1 dL_failure_3 rfl h1 ?_
  refine lv_iload_n C.1 C.2.1 dL_failure_4 rfl h2 ?_
  obtain ⟨b1, ho1, hw⟩ := hw
  obtain ⟨hk2, hw⟩ := hw
  refine m_xI (m_runX (As := [.int a1, .int a2]) (rest := [.int 0, va_rf a3]) C hW hS hL (c_X11_failure hl hw) v_L_26 ⟨rfl, rfl⟩ ⟨Nat.le_of_ble_eq_true rfl, Nat.le_of_ble_eq_true rfl⟩ ho1 hk2 rfl rfl (by simp only [List.map_cons, List.map_nil, va_rf_cat, List.sum_cons, List.sum_nil] <;> exact Nat.le_of_ble_eq_true rfl) dL_failure_5 ⟨Nat.le_of_ble_eq_true rfl, Nat.le_of_ble_eq_true rfl⟩) hS (fun S5 q6 ce H locs hw hW hS g1 g2 g3 => ?_) (fun r4 S3 H locs hw hW hS => ?_)
  · refine m_catch C hTab tw_931 ⟨by decide, by decide⟩ g1 g2 g3 ?_
    refine m_ast_ C hL dL_failure_13 (by decide) (fun ls hL hn9 hk9 => ?_)
    refine lv_iconst (v := 1) C.1 C.2.1 dL_failure_15 (by decide) ?_
    exact vx_ret (m_iret C hW hS hw dL_failure_16)
  · refine lv_i2l (v := ((r4 : Int32).toInt64)) C.1 C.2.1 dL_failure_8 rfl ?_
    obtain ⟨b7, ho7, hw⟩ := hw
    obtain ⟨hk8, hw⟩ := hw
    obtain ⟨hi9, hw⟩ := hw
    refine m_last C hW hS ho7 hk8 hi9 dL_failure_9 (fun H locs hW hS => ?_)
    refine lv_goto (tgt := 17) C.1 C.2.1 dL_failure_10 (by decide) ?_
    refine lv_iconst (v := 0) C.1 C.2.1 dL_failure_17 (by decide) ?_
    exact vx_ret (m_iret C hW hS hw dL_failure_18)
def wp_L_left (S : Hp) (a0 : Option Nat) (a1 : Int32) (a2 : Option Nat) (Q : Int32 → Hp → Prop) : Prop := ∃ b1 : Nat, a0 = some b1 ∧ hK S b1 = 13 ∧ wp_X11_left S b1 a1 (fun r4 S3 => ∃ b7 : Nat, a2 = some b7 ∧ hK S3 b7 = 16 ∧ vp_in 0 (hN S3 b7) ∧ Q 0 (sJ S3 b7 (0 : Int32).toNatClampNeg r4)) (fun S5 => Q 1 S5)
set_option maxRecDepth 100000 in
set_option maxHeartbeats 4000000 in
theorem c_L_left {l : Launch} (hl : l.stackTraces = false) {G : GX} {S : Hp} {a0 : Option Nat} {a1 : Int32} {a2 : Option Nat} {Q : Int32 → Hp → Prop} (hw : wp_L_left S a0 a1 a2 Q) : vx_Met l yL_left (Cond.codeWith yL_left cL_left 4 (some .int) [(0, 8, 11, 13)] :: TS) { frames := 7, cells := 1, slots := 6, locals := 103 } (Pk G S [va_rf a0, .int a1, va_rf a2]) (QI G Q) XN 1 6 G.2.2.1 := by
  refine m_metH (by decide) ?_
  intro p e s m below meth c H locs C hTab hW hS
  have C : Cx p s m ([va_rf a0, .int a1, va_rf a2] : List Value).toArray meth c cL_left 4 RL (some .int) "left" G := C
  obtain ⟨ls, hent, hL, hla⟩ := m_entry m (vs := [va_rf a0, .int a1, va_rf a2]) (nn := 4) [1, 1, 1] (by simp only [List.map_cons, List.map_nil, va_rf_cat] <;> rfl) (by decide)
  rw [hent]
  have h0 : ls[0]? = some (.val (va_rf a0)) := hla (0, va_rf a0) (List.mem_of_getElem? (i := 0) rfl)
  have h1 : ls[1]? = some (.val (.int a1)) := hla (1, .int a1) (List.mem_of_getElem? (i := 1) rfl)
  have h2 : ls[2]? = some (.val (va_rf a2)) := hla (2, va_rf a2) (List.mem_of_getElem? (i := 2) rfl)
  clear hla
  generalize ([va_rf a0, .int a1, va_rf a2] : List Value).toArray = args at C ⊢
  unfold wp_L_left at hw
  refine m_aldN C dL_left_0 rfl h2 ?_
  refine lv_iconst (v := 0) C.1 C.2.1 dL_left_1 (by decide) ?_
  refine m_aldN C dL_left_2 rfl h0 ?_
  refine lv_iload_n C.1 C.2.1 dL_left_3 rfl h1 ?_
  obtain ⟨b1, ho1, hw⟩ := hw
  obtain ⟨hk2, hw⟩ := hw
  refine m_xL (m_runX (As := [.int a1]) (rest := [.int 0, va_rf a2]) C hW hS hL (c_X11_left hl hw) v_L_29 ⟨rfl, rfl⟩ ⟨Nat.le_of_ble_eq_true rfl, Nat.le_of_ble_eq_true rfl⟩ ho1 hk2 rfl rfl (by simp only [List.map_cons, List.map_nil, va_rf_cat, List.sum_cons, List.sum_nil] <;> exact Nat.le_of_ble_eq_true rfl) dL_left_4 ⟨Nat.le_of_ble_eq_true rfl, Nat.le_of_ble_eq_true rfl⟩) hS (fun S5 q6 ce H locs hw hW hS g1 g2 g3 => ?_) (fun r4 S3 H locs hw hW hS => ?_)
  · refine m_catch C hTab tw_931 ⟨by decide, by decide⟩ g1 g2 g3 ?_
    refine m_astN C hL dL_left_11 rfl (by decide) (fun ls hL hn9 hk9 => ?_)
    refine lv_iconst (v := 1) C.1 C.2.1 dL_left_12 (by decide) ?_
    exact vx_ret (m_iret C hW hS hw dL_left_13)
  · obtain ⟨b7, ho7, hw⟩ := hw
    obtain ⟨hk8, hw⟩ := hw
    obtain ⟨hi9, hw⟩ := hw
    refine m_last C hW hS ho7 hk8 hi9 dL_left_7 (fun H locs hW hS => ?_)
    refine lv_goto (tgt := 14) C.1 C.2.1 dL_left_8 (by decide) ?_
    refine lv_iconst (v := 0) C.1 C.2.1 dL_left_14 (by decide) ?_
    exact vx_ret (m_iret C hW hS hw dL_left_15)
def wp_L_had (S : Hp) (a0 : Option Nat) (a1 : Int32) (a2 : Option Nat) (Q : Int32 → Hp → Prop) : Prop := ∃ b1 : Nat, a0 = some b1 ∧ hK S b1 = 13 ∧ wp_X11_had S b1 a1 (fun r4 S3 => ∃ b7 : Nat, a2 = some b7 ∧ hK S3 b7 = 16 ∧ vp_in 0 (hN S3 b7) ∧ Q 0 (sJ S3 b7 (0 : Int32).toNatClampNeg ((r4 : Int32).toInt64))) (fun S5 => Q 1 S5)
set_option maxRecDepth 100000 in
set_option maxHeartbeats 4000000 in
theorem c_L_had {l : Launch} (hl : l.stackTraces = false) {G : GX} {S : Hp} {a0 : Option Nat} {a1 : Int32} {a2 : Option Nat} {Q : Int32 → Hp → Prop} (hw : wp_L_had S a0 a1 a2 Q) : vx_Met l yL_had (Cond.codeWith yL_had cL_had 4 (some .int) [(0, 9, 12, 13)] :: TS) { frames := 7, cells := 1, slots := 6, locals := 103 } (Pk G S [va_rf a0, .int a1, va_rf a2]) (QI G Q) XN 1 6 G.2.2.1 := by
  refine m_metH (by decide) ?_
  intro p e s m below meth c H locs C hTab hW hS
  have C : Cx p s m ([va_rf a0, .int a1, va_rf a2] : List Value).toArray meth c cL_had 4 RL (some .int) "had" G := C
  obtain ⟨ls, hent, hL, hla⟩ := m_entry m (vs := [va_rf a0, .int a1, va_rf a2]) (nn := 4) [1, 1, 1] (by simp only [List.map_cons, List.map_nil, va_rf_cat] <;> rfl) (by decide)
  rw [hent]
  have h0 : ls[0]? = some (.val (va_rf a0)) := hla (0, va_rf a0) (List.mem_of_getElem? (i := 0) rfl)
  have h1 : ls[1]? = some (.val (.int a1)) := hla (1, .int a1) (List.mem_of_getElem? (i := 1) rfl)
  have h2 : ls[2]? = some (.val (va_rf a2)) := hla (2, va_rf a2) (List.mem_of_getElem? (i := 2) rfl)
  clear hla
  generalize ([va_rf a0, .int a1, va_rf a2] : List Value).toArray = args at C ⊢
  unfold wp_L_had at hw
  refine m_aldN C dL_had_0 rfl h2 ?_
  refine lv_iconst (v := 0) C.1 C.2.1 dL_had_1 (by decide) ?_
  refine m_aldN C dL_had_2 rfl h0 ?_
  refine lv_iload_n C.1 C.2.1 dL_had_3 rfl h1 ?_
  obtain ⟨b1, ho1, hw⟩ := hw
  obtain ⟨hk2, hw⟩ := hw
  refine m_xI (m_runX (As := [.int a1]) (rest := [.int 0, va_rf a2]) C hW hS hL (c_X11_had hl hw) v_L_33 ⟨rfl, rfl⟩ ⟨Nat.le_of_ble_eq_true rfl, Nat.le_of_ble_eq_true rfl⟩ ho1 hk2 rfl rfl (by simp only [List.map_cons, List.map_nil, va_rf_cat, List.sum_cons, List.sum_nil] <;> exact Nat.le_of_ble_eq_true rfl) dL_had_4 ⟨Nat.le_of_ble_eq_true rfl, Nat.le_of_ble_eq_true rfl⟩) hS (fun S5 q6 ce H locs hw hW hS g1 g2 g3 => ?_) (fun r4 S3 H locs hw hW hS => ?_)
  · refine m_catch C hTab tw_931 ⟨by decide, by decide⟩ g1 g2 g3 ?_
    refine m_astN C hL dL_had_12 rfl (by decide) (fun ls hL hn9 hk9 => ?_)
    refine lv_iconst (v := 1) C.1 C.2.1 dL_had_13 (by decide) ?_
    exact vx_ret (m_iret C hW hS hw dL_had_14)
  · refine lv_i2l (v := ((r4 : Int32).toInt64)) C.1 C.2.1 dL_had_7 rfl ?_
    obtain ⟨b7, ho7, hw⟩ := hw
    obtain ⟨hk8, hw⟩ := hw
    obtain ⟨hi9, hw⟩ := hw
    refine m_last C hW hS ho7 hk8 hi9 dL_had_8 (fun H locs hW hS => ?_)
    refine lv_goto (tgt := 15) C.1 C.2.1 dL_had_9 (by decide) ?_
    refine lv_iconst (v := 0) C.1 C.2.1 dL_had_15 (by decide) ?_
    exact vx_ret (m_iret C hW hS hw dL_had_16)
def wp_L_idle (S : Hp) (a0 : Option Nat) (a1 : Int32) (a2 : Option Nat) (Q : Int32 → Hp → Prop) : Prop := ∃ b1 : Nat, a0 = some b1 ∧ hK S b1 = 13 ∧ wp_X11_idle S b1 a1 (fun r4 S3 => ∃ b7 : Nat, a2 = some b7 ∧ hK S3 b7 = 16 ∧ vp_in 0 (hN S3 b7) ∧ Q 0 (sJ S3 b7 (0 : Int32).toNatClampNeg r4)) (fun S5 => Q 1 S5)
set_option maxRecDepth 100000 in
set_option maxHeartbeats 4000000 in
theorem c_L_idle {l : Launch} (hl : l.stackTraces = false) {G : GX} {S : Hp} {a0 : Option Nat} {a1 : Int32} {a2 : Option Nat} {Q : Int32 → Hp → Prop} (hw : wp_L_idle S a0 a1 a2 Q) : vx_Met l yL_idle (Cond.codeWith yL_idle cL_idle 4 (some .int) [(0, 8, 11, 13)] :: TS) { frames := 7, cells := 1, slots := 6, locals := 103 } (Pk G S [va_rf a0, .int a1, va_rf a2]) (QI G Q) XN 1 6 G.2.2.1 := by
  refine m_metH (by decide) ?_
  intro p e s m below meth c H locs C hTab hW hS
  have C : Cx p s m ([va_rf a0, .int a1, va_rf a2] : List Value).toArray meth c cL_idle 4 RL (some .int) "idle" G := C
  obtain ⟨ls, hent, hL, hla⟩ := m_entry m (vs := [va_rf a0, .int a1, va_rf a2]) (nn := 4) [1, 1, 1] (by simp only [List.map_cons, List.map_nil, va_rf_cat] <;> rfl) (by decide)
  rw [hent]
  have h0 : ls[0]? = some (.val (va_rf a0)) := hla (0, va_rf a0) (List.mem_of_getElem? (i := 0) rfl)
  have h1 : ls[1]? = some (.val (.int a1)) := hla (1, .int a1) (List.mem_of_getElem? (i := 1) rfl)
  have h2 : ls[2]? = some (.val (va_rf a2)) := hla (2, va_rf a2) (List.mem_of_getElem? (i := 2) rfl)
  clear hla
  generalize ([va_rf a0, .int a1, va_rf a2] : List Value).toArray = args at C ⊢
  unfold wp_L_idle at hw
  refine m_aldN C dL_idle_0 rfl h2 ?_
  refine lv_iconst (v := 0) C.1 C.2.1 dL_idle_1 (by decide) ?_
  refine m_aldN C dL_idle_2 rfl h0 ?_
  refine lv_iload_n C.1 C.2.1 dL_idle_3 rfl h1 ?_
  obtain ⟨b1, ho1, hw⟩ := hw
  obtain ⟨hk2, hw⟩ := hw
  refine m_xL (m_runX (As := [.int a1]) (rest := [.int 0, va_rf a2]) C hW hS hL (c_X11_idle hl hw) v_L_36 ⟨rfl, rfl⟩ ⟨Nat.le_of_ble_eq_true rfl, Nat.le_of_ble_eq_true rfl⟩ ho1 hk2 rfl rfl (by simp only [List.map_cons, List.map_nil, va_rf_cat, List.sum_cons, List.sum_nil] <;> exact Nat.le_of_ble_eq_true rfl) dL_idle_4 ⟨Nat.le_of_ble_eq_true rfl, Nat.le_of_ble_eq_true rfl⟩) hS (fun S5 q6 ce H locs hw hW hS g1 g2 g3 => ?_) (fun r4 S3 H locs hw hW hS => ?_)
  · refine m_catch C hTab tw_931 ⟨by decide, by decide⟩ g1 g2 g3 ?_
    refine m_astN C hL dL_idle_11 rfl (by decide) (fun ls hL hn9 hk9 => ?_)
    refine lv_iconst (v := 1) C.1 C.2.1 dL_idle_12 (by decide) ?_
    exact vx_ret (m_iret C hW hS hw dL_idle_13)
  · obtain ⟨b7, ho7, hw⟩ := hw
    obtain ⟨hk8, hw⟩ := hw
    obtain ⟨hi9, hw⟩ := hw
    refine m_last C hW hS ho7 hk8 hi9 dL_idle_7 (fun H locs hW hS => ?_)
    refine lv_goto (tgt := 14) C.1 C.2.1 dL_idle_8 (by decide) ?_
    refine lv_iconst (v := 0) C.1 C.2.1 dL_idle_14 (by decide) ?_
    exact vx_ret (m_iret C hW hS hw dL_idle_15)
def wp_L_slack (S : Hp) (a0 : Option Nat) (a1 : Int32) (a2 : Option Nat) (Q : Int32 → Hp → Prop) : Prop := ∃ b1 : Nat, a0 = some b1 ∧ hK S b1 = 13 ∧ wp_X11_slack S b1 a1 (fun r4 S3 => ∃ b7 : Nat, a2 = some b7 ∧ hK S3 b7 = 16 ∧ vp_in 0 (hN S3 b7) ∧ Q 0 (sJ S3 b7 (0 : Int32).toNatClampNeg ((r4 : Int32).toInt64))) (fun S5 => Q 1 S5)
set_option maxRecDepth 100000 in
set_option maxHeartbeats 4000000 in
theorem c_L_slack {l : Launch} (hl : l.stackTraces = false) {G : GX} {S : Hp} {a0 : Option Nat} {a1 : Int32} {a2 : Option Nat} {Q : Int32 → Hp → Prop} (hw : wp_L_slack S a0 a1 a2 Q) : vx_Met l yL_slack (Cond.codeWith yL_slack cL_slack 4 (some .int) [(0, 9, 12, 13)] :: TS) { frames := 8, cells := 1, slots := 6, locals := 170 } (Pk G S [va_rf a0, .int a1, va_rf a2]) (QI G Q) XN 1 6 G.2.2.1 := by
  refine m_metH (by decide) ?_
  intro p e s m below meth c H locs C hTab hW hS
  have C : Cx p s m ([va_rf a0, .int a1, va_rf a2] : List Value).toArray meth c cL_slack 4 RL (some .int) "slack" G := C
  obtain ⟨ls, hent, hL, hla⟩ := m_entry m (vs := [va_rf a0, .int a1, va_rf a2]) (nn := 4) [1, 1, 1] (by simp only [List.map_cons, List.map_nil, va_rf_cat] <;> rfl) (by decide)
  rw [hent]
  have h0 : ls[0]? = some (.val (va_rf a0)) := hla (0, va_rf a0) (List.mem_of_getElem? (i := 0) rfl)
  have h1 : ls[1]? = some (.val (.int a1)) := hla (1, .int a1) (List.mem_of_getElem? (i := 1) rfl)
  have h2 : ls[2]? = some (.val (va_rf a2)) := hla (2, va_rf a2) (List.mem_of_getElem? (i := 2) rfl)
  clear hla
  generalize ([va_rf a0, .int a1, va_rf a2] : List Value).toArray = args at C ⊢
  unfold wp_L_slack at hw
  refine m_aldN C dL_slack_0 rfl h2 ?_
  refine lv_iconst (v := 0) C.1 C.2.1 dL_slack_1 (by decide) ?_
  refine m_aldN C dL_slack_2 rfl h0 ?_
  refine lv_iload_n C.1 C.2.1 dL_slack_3 rfl h1 ?_
  obtain ⟨b1, ho1, hw⟩ := hw
  obtain ⟨hk2, hw⟩ := hw
  refine m_xI (m_runX (As := [.int a1]) (rest := [.int 0, va_rf a2]) C hW hS hL (c_X11_slack hl hw) v_L_39 ⟨rfl, rfl⟩ ⟨Nat.le_of_ble_eq_true rfl, Nat.le_of_ble_eq_true rfl⟩ ho1 hk2 rfl rfl (by simp only [List.map_cons, List.map_nil, va_rf_cat, List.sum_cons, List.sum_nil] <;> exact Nat.le_of_ble_eq_true rfl) dL_slack_4 ⟨Nat.le_of_ble_eq_true rfl, Nat.le_of_ble_eq_true rfl⟩) hS (fun S5 q6 ce H locs hw hW hS g1 g2 g3 => ?_) (fun r4 S3 H locs hw hW hS => ?_)
  · refine m_catch C hTab tw_931 ⟨by decide, by decide⟩ g1 g2 g3 ?_
    refine m_astN C hL dL_slack_12 rfl (by decide) (fun ls hL hn9 hk9 => ?_)
    refine lv_iconst (v := 1) C.1 C.2.1 dL_slack_13 (by decide) ?_
    exact vx_ret (m_iret C hW hS hw dL_slack_14)
  · refine lv_i2l (v := ((r4 : Int32).toInt64)) C.1 C.2.1 dL_slack_7 rfl ?_
    obtain ⟨b7, ho7, hw⟩ := hw
    obtain ⟨hk8, hw⟩ := hw
    obtain ⟨hi9, hw⟩ := hw
    refine m_last C hW hS ho7 hk8 hi9 dL_slack_8 (fun H locs hW hS => ?_)
    refine lv_goto (tgt := 15) C.1 C.2.1 dL_slack_9 (by decide) ?_
    refine lv_iconst (v := 0) C.1 C.2.1 dL_slack_15 (by decide) ?_
    exact vx_ret (m_iret C hW hS hw dL_slack_16)
def wp_L_leans (S : Hp) (a0 : Option Nat) (a1 : Int32) (a2 : Int32) (a3 : Option Nat) (Q : Int32 → Hp → Prop) : Prop := ∃ b1 : Nat, a0 = some b1 ∧ hK S b1 = 13 ∧ wp_X11_leans S b1 a1 a2 (fun r4 S3 => (r4 = 0 → ∃ b8 : Nat, a3 = some b8 ∧ hK S3 b8 = 16 ∧ vp_in 0 (hN S3 b8) ∧ Q 0 (sJ S3 b8 (0 : Int32).toNatClampNeg 0)) ∧ (¬ (r4 = 0) → ∃ b11 : Nat, a3 = some b11 ∧ hK S3 b11 = 16 ∧ vp_in 0 (hN S3 b11) ∧ Q 0 (sJ S3 b11 (0 : Int32).toNatClampNeg 1))) (fun S5 => Q 1 S5)
set_option maxRecDepth 100000 in
set_option maxHeartbeats 4000000 in
theorem c_L_leans {l : Launch} (hl : l.stackTraces = false) {G : GX} {S : Hp} {a0 : Option Nat} {a1 : Int32} {a2 : Int32} {a3 : Option Nat} {Q : Int32 → Hp → Prop} (hw : wp_L_leans S a0 a1 a2 a3 Q) : vx_Met l yL_leans (Cond.codeWith yL_leans cL_leans 5 (some .int) [(0, 17, 20, 13)] :: TS) { frames := 8, cells := 2, slots := 12, locals := 127 } (Pk G S [va_rf a0, .int a1, .int a2, va_rf a3]) (QI G Q) XN 2 12 G.2.2.1 := by
  refine m_metH (by decide) ?_
  intro p e s m below meth c H locs C hTab hW hS
  have C : Cx p s m ([va_rf a0, .int a1, .int a2, va_rf a3] : List Value).toArray meth c cL_leans 5 RL (some .int) "leans" G := C
  obtain ⟨ls, hent, hL, hla⟩ := m_entry m (vs := [va_rf a0, .int a1, .int a2, va_rf a3]) (nn := 5) [1, 1, 1, 1] (by simp only [List.map_cons, List.map_nil, va_rf_cat] <;> rfl) (by decide)
  rw [hent]
  have h0 : ls[0]? = some (.val (va_rf a0)) := hla (0, va_rf a0) (List.mem_of_getElem? (i := 0) rfl)
  have h1 : ls[1]? = some (.val (.int a1)) := hla (1, .int a1) (List.mem_of_getElem? (i := 1) rfl)
  have h2 : ls[2]? = some (.val (.int a2)) := hla (2, .int a2) (List.mem_of_getElem? (i := 2) rfl)
  have h3 : ls[3]? = some (.val (va_rf a3)) := hla (3, va_rf a3) (List.mem_of_getElem? (i := 3) rfl)
  clear hla
  generalize ([va_rf a0, .int a1, .int a2, va_rf a3] : List Value).toArray = args at C ⊢
  unfold wp_L_leans at hw
  refine m_aldN C dL_leans_0 rfl h3 ?_
  refine lv_iconst (v := 0) C.1 C.2.1 dL_leans_1 (by decide) ?_
  refine m_aldN C dL_leans_2 rfl h0 ?_
  refine lv_iload_n C.1 C.2.1 dL_leans_3 rfl h1 ?_
  refine lv_iload_n C.1 C.2.1 dL_leans_4 rfl h2 ?_
  obtain ⟨b1, ho1, hw⟩ := hw
  obtain ⟨hk2, hw⟩ := hw
  refine m_xI (m_runX (As := [.int a1, .int a2]) (rest := [.int 0, va_rf a3]) C hW hS hL (c_X11_leans hl hw) v_L_42 ⟨rfl, rfl⟩ ⟨Nat.le_of_ble_eq_true rfl, Nat.le_of_ble_eq_true rfl⟩ ho1 hk2 rfl rfl (by simp only [List.map_cons, List.map_nil, va_rf_cat, List.sum_cons, List.sum_nil] <;> exact Nat.le_of_ble_eq_true rfl) dL_leans_5 ⟨Nat.le_of_ble_eq_true rfl, Nat.le_of_ble_eq_true rfl⟩) hS (fun S5 q6 ce H locs hw hW hS g1 g2 g3 => ?_) (fun r4 S3 H locs hw hW hS => ?_)
  · refine m_catch C hTab tw_931 ⟨by decide, by decide⟩ g1 g2 g3 ?_
    refine m_ast_ C hL dL_leans_20 (by decide) (fun ls hL hn9 hk9 => ?_)
    refine lv_iconst (v := 1) C.1 C.2.1 dL_leans_22 (by decide) ?_
    exact vx_ret (m_iret C hW hS hw dL_leans_23)
  · refine lv_if_eq (tgt := 15) C.1 C.2.1 dL_leans_8 (by decide) (fun hc7 => ?_) (fun hc7 => ?_)
    · have hw := hw.1 hc7
      refine lv_lconst (v := 0) C.1 C.2.1 dL_leans_15 (by decide) ?_
      obtain ⟨b8, ho8, hw⟩ := hw
      obtain ⟨hk9, hw⟩ := hw
      obtain ⟨hi10, hw⟩ := hw
      refine m_last C hW hS ho8 hk9 hi10 dL_leans_16 (fun H locs hW hS => ?_)
      refine lv_goto (tgt := 24) C.1 C.2.1 dL_leans_17 (by decide) ?_
      refine lv_iconst (v := 0) C.1 C.2.1 dL_leans_24 (by decide) ?_
      exact vx_ret (m_iret C hW hS hw dL_leans_25)
    · have hw := hw.2 hc7
      refine lv_lconst (v := 1) C.1 C.2.1 dL_leans_11 (by decide) ?_
      refine lv_goto (tgt := 16) C.1 C.2.1 dL_leans_12 (by decide) ?_
      obtain ⟨b11, ho11, hw⟩ := hw
      obtain ⟨hk12, hw⟩ := hw
      obtain ⟨hi13, hw⟩ := hw
      refine m_last C hW hS ho11 hk12 hi13 dL_leans_16 (fun H locs hW hS => ?_)
      refine lv_goto (tgt := 24) C.1 C.2.1 dL_leans_17 (by decide) ?_
      refine lv_iconst (v := 0) C.1 C.2.1 dL_leans_24 (by decide) ?_
      exact vx_ret (m_iret C hW hS hw dL_leans_25)
