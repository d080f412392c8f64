def wp_X6_longestTail (S : Hp) (a0 : Nat) (Q : Int32 → Hp → Prop) : Prop := hK S a0 = 8 ∧ wp_X6_reckon S a0 (fun S2 => hK S2 a0 = 8 ∧ Q (hI S2 a0 6) S2)
set_option maxRecDepth 100000 in
set_option maxHeartbeats 4000000 in
theorem c_X6_longestTail {l : Launch} {G : GX} {S : Hp} {a0 : Nat} {Q : Int32 → Hp → Prop} (hw : wp_X6_longestTail S a0 Q) : Met l yX6_longestTail (Cond.code yX6_longestTail cX6_longestTail 1 (some .int) :: TS) { frames := 6, cells := 0, slots := 0, locals := 128 } (Pk G S [va_rf (some a0)]) (QI G Q) 0 0 G.2.2.1 := by
  refine m_met (by decide) ?_
  intro p e s m below meth c H locs C hW hS
  have C : Cx p s m ([va_rf (some a0)] : List Value).toArray meth c cX6_longestTail 1 RX6 (some .int) "longestTail" G := C
  obtain ⟨ls, hent, hL, hla⟩ := m_entry m (vs := [va_rf (some a0)]) (nn := 1) [1] rfl (by decide)
  rw [hent]
  have h0 : ls[0]? = some (.val (va_rf (some a0))) := hla (0, va_rf (some a0)) (List.mem_of_getElem? (i := 0) rfl)
  clear hla
  generalize ([va_rf (some a0)] : List Value).toArray = args at C ⊢
  unfold wp_X6_longestTail at hw
  refine m_aldN C dX6_longestTail_0 rfl h0 ?_
  obtain ⟨hk1, hw⟩ := hw
  refine m_rV (m_runV (As := []) (rest := []) C hW hS hL (c_X6_reckon hw) v_X6_28 ⟨rfl, rfl⟩ ⟨Nat.le_of_ble_eq_true rfl, Nat.le_of_ble_eq_true rfl⟩ rfl hk1 rfl rfl (Nat.le_of_ble_eq_true rfl) dX6_longestTail_1 ⟨Nat.le_of_ble_eq_true rfl, Nat.le_of_ble_eq_true rfl⟩) hS (fun S2 H locs hw hW hS => ?_)
  refine m_aldN C dX6_longestTail_4 rfl h0 ?_
  obtain ⟨hk3, hw⟩ := hw
  refine m_getI C hW rfl hk3 f_X6_35 rfl dX6_longestTail_5 ?_
  exact m_iret C hW hS hw dX6_longestTail_8
def wp_X8_forgetMarks (S : Hp) (a0 : Nat) (Q : Hp → Prop) : Prop := hK S a0 = 10 ∧ ∃ b2 : Nat, (hR S a0 6) = some b2 ∧ hK S b2 = 7 ∧ wp_X5_clear S b2 (fun S4 => hK S4 a0 = 10 ∧ Q (sI S4 a0 16 0))
set_option maxRecDepth 100000 in
set_option maxHeartbeats 4000000 in
theorem c_X8_forgetMarks {l : Launch} {G : GX} {S : Hp} {a0 : Nat} {Q : Hp → Prop} (hw : wp_X8_forgetMarks S a0 Q) : Met l yX8_forgetMarks (Cond.code yX8_forgetMarks cX8_forgetMarks 1 none :: TS) { frames := 1, cells := 0, slots := 0, locals := 21 } (Pk G S [va_rf (some a0)]) (QV G Q) 0 0 G.2.2.1 := by
  refine m_met (by decide) ?_
  intro p e s m below meth c H locs C hW hS
  have C : Cx p s m ([va_rf (some a0)] : List Value).toArray meth c cX8_forgetMarks 1 RX8 none "forgetMarks" G := C
  obtain ⟨ls, hent, hL, hla⟩ := m_entry m (vs := [va_rf (some a0)]) (nn := 1) [1] rfl (by decide)
  rw [hent]
  have h0 : ls[0]? = some (.val (va_rf (some a0))) := hla (0, va_rf (some a0)) (List.mem_of_getElem? (i := 0) rfl)
  clear hla
  generalize ([va_rf (some a0)] : List Value).toArray = args at C ⊢
  unfold wp_X8_forgetMarks at hw
  refine m_aldN C dX8_forgetMarks_0 rfl h0 ?_
  obtain ⟨hk1, hw⟩ := hw
  refine m_getR C hW rfl hk1 f_X8_34 rfl dX8_forgetMarks_1 ?_
  obtain ⟨b2, ho2, hw⟩ := hw
  obtain ⟨hk3, hw⟩ := hw
  refine m_rV (m_runV (As := []) (rest := []) C hW hS hL (c_X5_clear hw) v_X8_134 ⟨rfl, rfl⟩ ⟨Nat.le_of_ble_eq_true rfl, Nat.le_of_ble_eq_true rfl⟩ ho2 hk3 rfl rfl (Nat.le_of_ble_eq_true rfl) dX8_forgetMarks_4 ⟨Nat.le_of_ble_eq_true rfl, Nat.le_of_ble_eq_true rfl⟩) hS (fun S4 H locs hw hW hS => ?_)
  refine m_aldN C dX8_forgetMarks_7 rfl h0 ?_
  refine lv_iconst (v := 0) C.1 C.2.1 dX8_forgetMarks_8 (by decide) ?_
  obtain ⟨hk5, hw⟩ := hw
  refine m_putZ C hW hS rfl hk5 p_X8_137 (fun z => by cases z) (by decide) rfl dX8_forgetMarks_9 (fun H locs hW hS => ?_)
  exact m_vret C hW hS hw dX8_forgetMarks_12
def wp_X8_wipe_L2 (l0 : Nat) (K34 : Hp → Prop) (Q : Hp → Prop) : Nat → Hp → Int32 → Prop
  | 0, _, _ => False
  | n + 1, S, l1 => hK S l0 = 10 ∧ ∃ b2 : Nat, (hR S l0 0) = some b2 ∧ hK S b2 = 11 ∧ ((hI S b2 7) ≤ l1 → K34 S) ∧ (¬ ((hI S b2 7) ≤ l1) → ∃ b5 : Nat, (hR S b2 5) = some b5 ∧ hK S b5 = 19 ∧ vp_in l1 (hN S b5) ∧ ∃ b8 : Nat, (hR S b5 (l1 : Int32).toNatClampNeg) = some b8 ∧ hK S b8 = 6 ∧ ∃ b10 : Nat, (hR S b8 15) = some b10 ∧ hK S b10 = 12 ∧ wp_X10_wipe S b10 (fun S12 => wp_X8_wipe_L2 l0 K34 Q n S12 (l1 + 1)))
def wp_X8_wipe_L36 (l0 : Nat) (K55 : Hp → Prop) (Q : Hp → Prop) : Nat → Hp → Int32 → Prop
  | 0, _, _ => False
  | n + 1, S, l1 => (40 ≤ l1 → K55 S) ∧ (¬ (40 ≤ l1) → hK S l0 = 10 ∧ ∃ b16 : Nat, (hR S l0 3) = some b16 ∧ hK S b16 = 15 ∧ vp_in l1 (hN S b16) ∧ wp_X8_wipe_L36 l0 K55 Q n (sI S b16 (l1 : Int32).toNatClampNeg (-1)) (l1 + 1))
def wp_X8_wipe_L57 (l0 : Nat) (K76 : Hp → Prop) (Q : Hp → Prop) : Nat → Hp → Int32 → Prop
  | 0, _, _ => False
  | n + 1, S, l1 => (32 ≤ l1 → K76 S) ∧ (¬ (32 ≤ l1) → hK S l0 = 10 ∧ ∃ b22 : Nat, (hR S l0 4) = some b22 ∧ hK S b22 = 19 ∧ vp_in l1 (hN S b22) ∧ wp_X8_wipe_L57 l0 K76 Q n (sR S b22 (l1 : Int32).toNatClampNeg none) (l1 + 1))
def wp_X8_wipe (S : Hp) (a0 : Nat) (Q : Hp → Prop) : Prop := wp_X8_wipe_L2 a0 (fun (S13 : Hp) => wp_X8_wipe_L36 a0 (fun (S19 : Hp) => wp_X8_wipe_L57 a0 (fun (S25 : Hp) => hK S25 a0 = 10 ∧ ∃ b27 : Nat, (hR S25 a0 7) = some b27 ∧ hK S25 b27 = 5 ∧ wp_X8_forgetMarks (sJ (sI (sI (sI (sI (sI (sI (sI (sI (sI S25 b27 1 0) a0 8 0) a0 9 (-1)) a0 10 0) a0 11 0) a0 12 0) a0 13 0) a0 14 0) a0 15 0) a0 17 0) a0 (fun S29 => Q S29)) Q FU S19 0) Q FU S13 0) Q FU S 0
set_option maxRecDepth 100000 in
set_option maxHeartbeats 4000000 in
theorem w_X8_wipe_L2 {p : Program} {l : Launch} {e : Env} {s : State} {m : MethodId} {args : Array Value} {below : List Frame} {meth : Method} {c : Code} {G : GX} {Q : Hp → Prop} {K34 : Hp → Prop} {l0 : Nat} (C : Cx p s m args meth c cX8_wipe 2 RX8 none "wipe" G)
    (k34 : ∀ (S : Hp) (H : Heap) (locs : List Loc) (ls : Array Slot), wd G S H → va_S G.2.2.1 s.heap H locs → LV ls 2 → ls[0]? = some (.val (va_rf (some l0))) → K34 S → W p l e ({ frames := 2, cells := 0, slots := 0, locals := 41 } : Room) s m args below meth c H locs 0 0 (MQ below (QV G Q) args s 0 0 G.2.2.1) (F0 m 34 ls [])) :
    ∀ (n : Nat) (S : Hp) (l1 : Int32) (H : Heap) (locs : List Loc) (ls : Array Slot), wd G S H → va_S G.2.2.1 s.heap H locs → LV ls 2 → ls[0]? = some (.val (va_rf (some l0))) → ls[1]? = some (.val (.int l1)) → wp_X8_wipe_L2 l0 K34 Q n S l1 → W p l e ({ frames := 2, cells := 0, slots := 0, locals := 41 } : Room) s m args below meth c H locs 0 0 (MQ below (QV G Q) args s 0 0 G.2.2.1) (F0 m 2 ls []) := by
  intro n
  induction n with
  | zero =>
    intro S l1 H locs ls hW hS hL h0 h1 hw
    exact False.elim hw
  | succ n ih =>
    intro S l1 H locs ls hW hS hL h0 h1 hw
    unfold wp_X8_wipe_L2 at hw
    refine lv_iload_n C.1 C.2.1 dX8_wipe_2 rfl h1 ?_
    refine m_aldN C dX8_wipe_3 rfl h0 ?_
    obtain ⟨hk1, hw⟩ := hw
    refine m_getR C hW rfl hk1 f_X8_45 rfl dX8_wipe_4 ?_
    obtain ⟨b2, ho2, hw⟩ := hw
    obtain ⟨hk3, hw⟩ := hw
    refine m_getI C hW ho2 hk3 f_X8_79 rfl dX8_wipe_7 ?_
    refine lv_icmp_ge (tgt := 34) C.1 C.2.1 dX8_wipe_10 (by decide) (fun hc4 => ?_) (fun hc4 => ?_)
    · have hw := hw.1 hc4
      exact k34 S H locs ls hW hS hL h0 hw
    · have hw := hw.2 hc4
      refine m_aldN C dX8_wipe_13 rfl h0 ?_
      refine m_getR C hW rfl hk1 f_X8_45 rfl dX8_wipe_14 ?_
      refine m_getR C hW ho2 hk3 f_X8_84 rfl dX8_wipe_17 ?_
      refine lv_iload_n C.1 C.2.1 dX8_wipe_20 rfl h1 ?_
      obtain ⟨b5, ho5, hw⟩ := hw
      obtain ⟨hk6, hw⟩ := hw
      obtain ⟨hi7, hw⟩ := hw
      refine m_aald C hW ho5 hk6 (by decide) (by decide) hi7 dX8_wipe_21 ?_
      obtain ⟨b8, ho8, hw⟩ := hw
      obtain ⟨hk9, hw⟩ := hw
      refine m_getR C hW ho8 hk9 f_X8_70 rfl dX8_wipe_22 ?_
      obtain ⟨b10, ho10, hw⟩ := hw
      obtain ⟨hk11, hw⟩ := hw
      refine m_rV (m_runV (As := []) (rest := []) C hW hS hL (c_X10_wipe hw) v_X8_108 ⟨rfl, rfl⟩ ⟨Nat.le_of_ble_eq_true rfl, Nat.le_of_ble_eq_true rfl⟩ ho10 hk11 rfl rfl (Nat.le_of_ble_eq_true rfl) dX8_wipe_25 ⟨Nat.le_of_ble_eq_true rfl, Nat.le_of_ble_eq_true rfl⟩) hS (fun S12 H locs hw hW hS => ?_)
      refine m_iinc (v := (l1 + 1)) C hL dX8_wipe_28 h1 rfl (by decide) (fun ls hL hn9 hk9 => ?_)
      have h0 := hk9 0 _ h0 (by decide) (Or.inr (va_rf_cat _))
      have h1 := hn9
      refine lv_goto (tgt := 2) C.1 C.2.1 dX8_wipe_31 (by decide) ?_
      exact ih S12 (l1 + 1) H locs ls hW hS hL h0 h1 hw
set_option maxRecDepth 100000 in
set_option maxHeartbeats 4000000 in
theorem w_X8_wipe_L36 {p : Program} {l : Launch} {e : Env} {s : State} {m : MethodId} {args : Array Value} {below : List Frame} {meth : Method} {c : Code} {G : GX} {Q : Hp → Prop} {K55 : Hp → Prop} {l0 : Nat} (C : Cx p s m args meth c cX8_wipe 2 RX8 none "wipe" G)
    (k55 : ∀ (S : Hp) (H : Heap) (locs : List Loc) (ls : Array Slot), wd G S H → va_S G.2.2.1 s.heap H locs → LV ls 2 → ls[0]? = some (.val (va_rf (some l0))) → K55 S → W p l e ({ frames := 2, cells := 0, slots := 0, locals := 41 } : Room) s m args below meth c H locs 0 0 (MQ below (QV G Q) args s 0 0 G.2.2.1) (F0 m 55 ls [])) :
    ∀ (n : Nat) (S : Hp) (l1 : Int32) (H : Heap) (locs : List Loc) (ls : Array Slot), wd G S H → va_S G.2.2.1 s.heap H locs → LV ls 2 → ls[0]? = some (.val (va_rf (some l0))) → ls[1]? = some (.val (.int l1)) → wp_X8_wipe_L36 l0 K55 Q n S l1 → W p l e ({ frames := 2, cells := 0, slots := 0, locals := 41 } : Room) s m args below meth c H locs 0 0 (MQ below (QV G Q) args s 0 0 G.2.2.1) (F0 m 36 ls []) := by
  intro n
  induction n with
  | zero =>
    intro S l1 H locs ls hW hS hL h0 h1 hw
    exact False.elim hw
  | succ n ih =>
    intro S l1 H locs ls hW hS hL h0 h1 hw
    unfold wp_X8_wipe_L36 at hw
    refine lv_iload_n C.1 C.2.1 dX8_wipe_36 rfl h1 ?_
    refine lv_bipush (v := 40) C.1 C.2.1 dX8_wipe_37 (by decide) ?_
    refine lv_icmp_ge (tgt := 55) C.1 C.2.1 dX8_wipe_39 (by decide) (fun hc14 => ?_) (fun hc14 => ?_)
    · have hw := hw.1 hc14
      exact k55 S H locs ls hW hS hL h0 hw
    · have hw := hw.2 hc14
      refine m_aldN C dX8_wipe_42 rfl h0 ?_
      obtain ⟨hk15, hw⟩ := hw
      refine m_getR C hW rfl hk15 f_X8_18 rfl dX8_wipe_43 ?_
      refine lv_iload_n C.1 C.2.1 dX8_wipe_46 rfl h1 ?_
      refine lv_iconst (v := (-1)) C.1 C.2.1 dX8_wipe_47 (by decide) ?_
      obtain ⟨b16, ho16, hw⟩ := hw
      obtain ⟨hk17, hw⟩ := hw
      obtain ⟨hi18, hw⟩ := hw
      refine m_iast C hW hS ho16 hk17 hi18 dX8_wipe_48 (fun H locs hW hS => ?_)
      refine m_iinc (v := (l1 + 1)) C hL dX8_wipe_49 h1 rfl (by decide) (fun ls hL hn9 hk9 => ?_)
      have h0 := hk9 0 _ h0 (by decide) (Or.inr (va_rf_cat _))
      have h1 := hn9
      refine lv_goto (tgt := 36) C.1 C.2.1 dX8_wipe_52 (by decide) ?_
      exact ih (sI S b16 (l1 : Int32).toNatClampNeg (-1)) (l1 + 1) H locs ls hW hS hL h0 h1 hw
set_option maxRecDepth 100000 in
set_option maxHeartbeats 4000000 in
theorem w_X8_wipe_L57 {p : Program} {l : Launch} {e : Env} {s : State} {m : MethodId} {args : Array Value} {below : List Frame} {meth : Method} {c : Code} {G : GX} {Q : Hp → Prop} {K76 : Hp → Prop} {l0 : Nat} (C : Cx p s m args meth c cX8_wipe 2 RX8 none "wipe" G)
    (k76 : ∀ (S : Hp) (H : Heap) (locs : List Loc) (ls : Array Slot), wd G S H → va_S G.2.2.1 s.heap H locs → LV ls 2 → ls[0]? = some (.val (va_rf (some l0))) → K76 S → W p l e ({ frames := 2, cells := 0, slots := 0, locals := 41 } : Room) s m args below meth c H locs 0 0 (MQ below (QV G Q) args s 0 0 G.2.2.1) (F0 m 76 ls [])) :
    ∀ (n : Nat) (S : Hp) (l1 : Int32) (H : Heap) (locs : List Loc) (ls : Array Slot), wd G S H → va_S G.2.2.1 s.heap H locs → LV ls 2 → ls[0]? = some (.val (va_rf (some l0))) → ls[1]? = some (.val (.int l1)) → wp_X8_wipe_L57 l0 K76 Q n S l1 → W p l e ({ frames := 2, cells := 0, slots := 0, locals := 41 } : Room) s m args below meth c H locs 0 0 (MQ below (QV G Q) args s 0 0 G.2.2.1) (F0 m 57 ls []) := by
  intro n
  induction n with
  | zero =>
    intro S l1 H locs ls hW hS hL h0 h1 hw
    exact False.elim hw
  | succ n ih =>
    intro S l1 H locs ls hW hS hL h0 h1 hw
    unfold wp_X8_wipe_L57 at hw
    refine lv_iload_n C.1 C.2.1 dX8_wipe_57 rfl h1 ?_
    refine lv_bipush (v := 32) C.1 C.2.1 dX8_wipe_58 (by decide) ?_
    refine lv_icmp_ge (tgt := 76) C.1 C.2.1 dX8_wipe_60 (by decide) (fun hc20 => ?_) (fun hc20 => ?_)
    · have hw := hw.1 hc20
      exact k76 S H locs ls hW hS hL h0 hw
    · have hw := hw.2 hc20
      refine m_aldN C dX8_wipe_63 rfl h0 ?_
      obtain ⟨hk21, hw⟩ := hw
      refine m_getR C hW rfl hk21 f_X8_24 rfl dX8_wipe_64 ?_
      refine lv_iload_n C.1 C.2.1 dX8_wipe_67 rfl h1 ?_
      refine lv_null C.1 C.2.1 dX8_wipe_68 ?_
      refine W.eq (g2 := F0 m 69 ls ([va_rf none, .int l1, va_rf (hR S l0 4)])) rfl ?_
      obtain ⟨b22, ho22, hw⟩ := hw
      obtain ⟨hk23, hw⟩ := hw
      obtain ⟨hi24, hw⟩ := hw
      refine m_aast C hW hS ho22 hk23 (by decide) (by decide) hi24 (fun _ z => by cases z) dX8_wipe_69 (fun H locs hW hS => ?_)
      refine m_iinc (v := (l1 + 1)) C hL dX8_wipe_70 h1 rfl (by decide) (fun ls hL hn9 hk9 => ?_)
      have h0 := hk9 0 _ h0 (by decide) (Or.inr (va_rf_cat _))
      have h1 := hn9
      refine lv_goto (tgt := 57) C.1 C.2.1 dX8_wipe_73 (by decide) ?_
      exact ih (sR S b22 (l1 : Int32).toNatClampNeg none) (l1 + 1) H locs ls hW hS hL h0 h1 hw
set_option maxRecDepth 100000 in
set_option maxHeartbeats 4000000 in
theorem c_X8_wipe {l : Launch} {G : GX} {S : Hp} {a0 : Nat} {Q : Hp → Prop} (hw : wp_X8_wipe S a0 Q) : Met l yX8_wipe (Cond.code yX8_wipe cX8_wipe 2 none :: TS) { frames := 2, cells := 0, slots := 0, locals := 41 } (Pk G S [va_rf (some a0)]) (QV G Q) 0 0 G.2.2.1 := by
  refine m_met (by decide) ?_
  intro p e s m below meth c H locs C hW hS
  have C : Cx p s m ([va_rf (some a0)] : List Value).toArray meth c cX8_wipe 2 RX8 none "wipe" G := C
  obtain ⟨ls, hent, hL, hla⟩ := m_entry m (vs := [va_rf (some a0)]) (nn := 2) [1] rfl (by decide)
  rw [hent]
  have h0 : ls[0]? = some (.val (va_rf (some a0))) := hla (0, va_rf (some a0)) (List.mem_of_getElem? (i := 0) rfl)
  clear hla
  generalize ([va_rf (some a0)] : List Value).toArray = args at C ⊢
  unfold wp_X8_wipe at hw
  refine lv_iconst (v := 0) C.1 C.2.1 dX8_wipe_0 (by decide) ?_
  refine m_istN C hL dX8_wipe_1 rfl (by decide) (fun ls hL hn9 hk9 => ?_)
  have h0 := hk9 0 _ h0 (by decide) (Or.inr (va_rf_cat _))
  have h1 := hn9
  refine w_X8_wipe_L2 C ?_ FU S 0 H locs ls hW hS hL h0 h1 hw
  · intro S13 H locs ls hW hS hL h0 hw
    refine lv_iconst (v := 0) C.1 C.2.1 dX8_wipe_34 (by decide) ?_
    refine m_istN C hL dX8_wipe_35 rfl (by decide) (fun ls hL hn9 hk9 => ?_)
    have h0 := hk9 0 _ h0 (by decide) (Or.inr (va_rf_cat _))
    have h1 := hn9
    refine w_X8_wipe_L36 C ?_ FU S13 0 H locs ls hW hS hL h0 h1 hw
    · intro S19 H locs ls hW hS hL h0 hw
      refine lv_iconst (v := 0) C.1 C.2.1 dX8_wipe_55 (by decide) ?_
      refine m_istN C hL dX8_wipe_56 rfl (by decide) (fun ls hL hn9 hk9 => ?_)
      have h0 := hk9 0 _ h0 (by decide) (Or.inr (va_rf_cat _))
      have h1 := hn9
      refine w_X8_wipe_L57 C ?_ FU S19 0 H locs ls hW hS hL h0 h1 hw
      · intro S25 H locs ls hW hS hL h0 hw
        refine m_aldN C dX8_wipe_76 rfl h0 ?_
        obtain ⟨hk26, hw⟩ := hw
        refine m_getR C hW rfl hk26 f_X8_41 rfl dX8_wipe_77 ?_
        refine lv_iconst (v := 0) C.1 C.2.1 dX8_wipe_80 (by decide) ?_
        obtain ⟨b27, ho27, hw⟩ := hw
        obtain ⟨hk28, hw⟩ := hw
        refine m_putI C hW hS ho27 hk28 p_X8_109 (fun z => by cases z) rfl dX8_wipe_81 (fun H locs hW hS => ?_)
        refine m_aldN C dX8_wipe_84 rfl h0 ?_
        refine lv_iconst (v := 0) C.1 C.2.1 dX8_wipe_85 (by decide) ?_
        refine m_putZ C hW hS rfl hk26 p_X8_52 (fun z => by cases z) (by decide) rfl dX8_wipe_86 (fun H locs hW hS => ?_)
        refine m_aldN C dX8_wipe_89 rfl h0 ?_
        refine lv_iconst (v := (-1)) C.1 C.2.1 dX8_wipe_90 (by decide) ?_
        refine m_putI C hW hS rfl hk26 p_X8_66 (fun z => by cases z) rfl dX8_wipe_91 (fun H locs hW hS => ?_)
        refine m_aldN C dX8_wipe_94 rfl h0 ?_
        refine lv_iconst (v := 0) C.1 C.2.1 dX8_wipe_95 (by decide) ?_
        refine m_putI C hW hS rfl hk26 p_X8_112 (fun z => by cases z) rfl dX8_wipe_96 (fun H locs hW hS => ?_)
        refine m_aldN C dX8_wipe_99 rfl h0 ?_
        refine lv_iconst (v := 0) C.1 C.2.1 dX8_wipe_100 (by decide) ?_
        refine m_putI C hW hS rfl hk26 p_X8_115 (fun z => by cases z) rfl dX8_wipe_101 (fun H locs hW hS => ?_)
        refine m_aldN C dX8_wipe_104 rfl h0 ?_
        refine lv_iconst (v := 0) C.1 C.2.1 dX8_wipe_105 (by decide) ?_
        refine m_putI C hW hS rfl hk26 p_X8_118 (fun z => by cases z) rfl dX8_wipe_106 (fun H locs hW hS => ?_)
        refine m_aldN C dX8_wipe_109 rfl h0 ?_
        refine lv_iconst (v := 0) C.1 C.2.1 dX8_wipe_110 (by decide) ?_
        refine m_putI C hW hS rfl hk26 p_X8_98 (fun z => by cases z) rfl dX8_wipe_111 (fun H locs hW hS => ?_)
        refine m_aldN C dX8_wipe_114 rfl h0 ?_
        refine lv_iconst (v := 0) C.1 C.2.1 dX8_wipe_115 (by decide) ?_
        refine m_putI C hW hS rfl hk26 p_X8_121 (fun z => by cases z) rfl dX8_wipe_116 (fun H locs hW hS => ?_)
        refine m_aldN C dX8_wipe_119 rfl h0 ?_
        refine lv_iconst (v := 0) C.1 C.2.1 dX8_wipe_120 (by decide) ?_
        refine m_putI C hW hS rfl hk26 p_X8_124 (fun z => by cases z) rfl dX8_wipe_121 (fun H locs hW hS => ?_)
        refine m_aldN C dX8_wipe_124 rfl h0 ?_
        refine lv_lconst (v := 0) C.1 C.2.1 dX8_wipe_125 (by decide) ?_
        refine m_putJ C hW hS rfl hk26 p_X8_127 (fun z => by cases z) rfl dX8_wipe_126 (fun H locs hW hS => ?_)
        refine m_aldN C dX8_wipe_129 rfl h0 ?_
        refine m_rV (m_runV (As := []) (rest := []) C hW hS hL (c_X8_forgetMarks hw) v_X8_131 ⟨rfl, rfl⟩ ⟨Nat.le_of_ble_eq_true rfl, Nat.le_of_ble_eq_true rfl⟩ rfl hk26 rfl rfl (Nat.le_of_ble_eq_true rfl) dX8_wipe_130 ⟨Nat.le_of_ble_eq_true rfl, Nat.le_of_ble_eq_true rfl⟩) hS (fun S29 H locs hw hW hS => ?_)
        exact m_vret C hW hS hw dX8_wipe_133
def wp_X8_init (S : Hp) (a0 : Nat) (a1 : Option Nat) (Q : Hp → Prop) : Prop := ∀ q1 : Nat, hK S q1 = 0 → hK (sN S q1 16 60) a0 = 10 ∧ ∀ q3 : Nat, hK (sR (sN S q1 16 60) a0 1 (some q1)) q3 = 0 → hK (sN (sR (sN S q1 16 60) a0 1 (some q1)) q3 16 60) a0 = 10 ∧ ∀ q5 : Nat, hK (sR (sN (sR (sN S q1 16 60) a0 1 (some q1)) q3 16 60) a0 2 (some q3)) q5 = 0 → hK (sN (sR (sN (sR (sN S q1 16 60) a0 1 (some q1)) q3 16 60) a0 2 (some q3)) q5 15 40) a0 = 10 ∧ ∀ q7 : Nat, hK (sR (sN (sR (sN (sR (sN S q1 16 60) a0 1 (some q1)) q3 16 60) a0 2 (some q3)) q5 15 40) a0 3 (some q5)) q7 = 0 → hK (sN (sR (sN (sR (sN (sR (sN S q1 16 60) a0 1 (some q1)) q3 16 60) a0 2 (some q3)) q5 15 40) a0 3 (some q5)) q7 19 32) a0 = 10 ∧ ∀ q9 : Nat, hK (sR (sN (sR (sN (sR (sN (sR (sN S q1 16 60) a0 1 (some q1)) q3 16 60) a0 2 (some q3)) q5 15 40) a0 3 (some q5)) q7 19 32) a0 4 (some q7)) q9 = 0 → hK (sN (sR (sN (sR (sN (sR (sN (sR (sN S q1 16 60) a0 1 (some q1)) q3 16 60) a0 2 (some q3)) q5 15 40) a0 3 (some q5)) q7 19 32) a0 4 (some q7)) q9 19 200) a0 = 10 ∧ ∀ q11 : Nat, hK (sR (sN (sR (sN (sR (sN (sR (sN (sR (sN S q1 16 60) a0 1 (some q1)) q3 16 60) a0 2 (some q3)) q5 15 40) a0 3 (some q5)) q7 19 32) a0 4 (some q7)) q9 19 200) a0 5 (some q9)) q11 = 0 → wp_X5_init (sN (sR (sN (sR (sN (sR (sN (sR (sN (sR (sN S q1 16 60) a0 1 (some q1)) q3 16 60) a0 2 (some q3)) q5 15 40) a0 3 (some q5)) q7 19 32) a0 4 (some q7)) q9 19 200) a0 5 (some q9)) q11 7 0) q11 (fun S12 => hK S12 a0 = 10 ∧ ∀ q14 : Nat, hK (sR S12 a0 6 (some q11)) q14 = 0 → wp_X3_init (sN (sR S12 a0 6 (some q11)) q14 5 0) q14 (fun S15 => hK S15 a0 = 10 ∧ wp_X8_wipe (sR (sR S15 a0 7 (some q14)) a0 0 a1) a0 (fun S17 => Q S17)))
set_option maxRecDepth 100000 in
set_option maxHeartbeats 4000000 in
theorem c_X8_init {l : Launch} {G : GX} {S : Hp} {a0 : Nat} {a1 : Option Nat} {Q : Hp → Prop} (hw : wp_X8_init S a0 a1 Q) : Met l yX8_init (Cond.code yX8_init cX8_init 2 none :: TS) { frames := 3, cells := 9, slots := 799, locals := 62 } (Pk G S [va_rf (some a0), va_rf a1]) (QV G Q) 9 799 G.2.2.1 := by
  refine m_met (by decide) ?_
  intro p e s m below meth c H locs C hW hS
  have C : Cx p s m ([va_rf (some a0), va_rf a1] : List Value).toArray meth c cX8_init 2 RX8 none "<init>" G := C
  obtain ⟨ls, hent, hL, hla⟩ := m_entry m (vs := [va_rf (some a0), va_rf a1]) (nn := 2) [1, 1] (by simp only [List.map_cons, List.map_nil, va_rf_cat] <;> rfl) (by decide)
  rw [hent]
  have h0 : ls[0]? = some (.val (va_rf (some a0))) := hla (0, va_rf (some a0)) (List.mem_of_getElem? (i := 0) rfl)
  have h1 : ls[1]? = some (.val (va_rf a1)) := hla (1, va_rf a1) (List.mem_of_getElem? (i := 1) rfl)
  clear hla
  generalize ([va_rf (some a0), va_rf a1] : List Value).toArray = args at C ⊢
  unfold wp_X8_init at hw
  refine m_aldN C dX8_init_0 rfl h0 ?_
  refine m_obj C tw_146 tw_33 tw_34 hL.1 ⟨Nat.le_of_ble_eq_true rfl, Nat.le_of_ble_eq_true rfl⟩ (Nat.le_of_ble_eq_true rfl) rfl dX8_init_1 ?_
  refine m_aldN C dX8_init_4 rfl h0 ?_
  refine lv_bipush (v := 60) C.1 C.2.1 dX8_init_5 (by decide) ?_
  refine m_newa (N := 60) C hW hS (Or.inr (Or.inl ⟨rfl, rfl⟩)) tw_87 (by decide) (by decide) (by decide) (Nat.le_of_ble_eq_true rfl) (Nat.le_of_ble_eq_true rfl) dX8_init_7 (fun q1 H hq1 hW hS => ?_)
  have hw := hw q1 hq1
  obtain ⟨hk2, hw⟩ := hw
  refine m_putR C hW hS rfl hk2 p_X8_9 (fun _ => rfl) rfl dX8_init_9 (fun H locs hW hS => ?_)
  refine m_aldN C dX8_init_12 rfl h0 ?_
  refine lv_bipush (v := 60) C.1 C.2.1 dX8_init_13 (by decide) ?_
  refine m_newa (N := 60) C hW hS (Or.inr (Or.inl ⟨rfl, rfl⟩)) tw_87 (by decide) (by decide) (by decide) (Nat.le_of_ble_eq_true rfl) (Nat.le_of_ble_eq_true rfl) dX8_init_15 (fun q3 H hq3 hW hS => ?_)
  have hw := hw q3 hq3
  obtain ⟨hk4, hw⟩ := hw
  refine m_putR C hW hS rfl hk4 p_X8_15 (fun _ => rfl) rfl dX8_init_17 (fun H locs hW hS => ?_)
  refine m_aldN C dX8_init_20 rfl h0 ?_
  refine lv_bipush (v := 40) C.1 C.2.1 dX8_init_21 (by decide) ?_
  refine m_newa (N := 40) C hW hS (Or.inl ⟨rfl, rfl⟩) tw_122 (by decide) (by decide) (by decide) (Nat.le_of_ble_eq_true rfl) (Nat.le_of_ble_eq_true rfl) dX8_init_23 (fun q5 H hq5 hW hS => ?_)
  have hw := hw q5 hq5
  obtain ⟨hk6, hw⟩ := hw
  refine m_putR C hW hS rfl hk6 p_X8_18 (fun _ => rfl) rfl dX8_init_25 (fun H locs hW hS => ?_)
  refine m_aldN C dX8_init_28 rfl h0 ?_
  refine lv_bipush (v := 32) C.1 C.2.1 dX8_init_29 (by decide) ?_
  refine m_anew (k := 19) (N := 32) C hW hS (by decide) (by decide) rfl (by decide) tw_147 (by decide) (by decide) (by decide) (Nat.le_of_ble_eq_true rfl) (Nat.le_of_ble_eq_true rfl) dX8_init_31 (fun q7 H hq7 hW hS => ?_)
  have hw := hw q7 hq7
  obtain ⟨hk8, hw⟩ := hw
  refine m_putR C hW hS rfl hk8 p_X8_24 (fun _ => rfl) rfl dX8_init_34 (fun H locs hW hS => ?_)
  refine m_aldN C dX8_init_37 rfl h0 ?_
  refine lv_sipush (v := 200) C.1 C.2.1 dX8_init_38 (by decide) ?_
  refine m_anew (k := 19) (N := 200) C hW hS (by decide) (by decide) rfl (by decide) tw_147 (by decide) (by decide) (by decide) (Nat.le_of_ble_eq_true rfl) (Nat.le_of_ble_eq_true rfl) dX8_init_41 (fun q9 H hq9 hW hS => ?_)
  have hw := hw q9 hq9
  obtain ⟨hk10, hw⟩ := hw
  refine m_putR C hW hS rfl hk10 p_X8_28 (fun _ => rfl) rfl dX8_init_44 (fun H locs hW hS => ?_)
  refine m_aldN C dX8_init_47 rfl h0 ?_
  refine m_new C hW hS n_X8_31 (Nat.le_of_ble_eq_true rfl) (Nat.le_of_ble_eq_true rfl) dX8_init_48 (fun q11 H hq11 hW hS => ?_)
  have hw := hw q11 hq11
  refine lv_dup C.1 C.2.1 dX8_init_51 (va_rf_cat _) ?_
  refine m_rV (m_runI (As := []) (rest := [va_rf (some q11), va_rf (some a0)]) C hW hS hL (c_X5_init hw) i_X8_33 ⟨rfl, rfl⟩ ⟨Nat.le_of_ble_eq_true rfl, Nat.le_of_ble_eq_true rfl⟩ rfl rfl rfl (by simp only [List.map_cons, List.map_nil, va_rf_cat, List.sum_cons, List.sum_nil] <;> exact Nat.le_of_ble_eq_true rfl) dX8_init_52 ⟨Nat.le_of_ble_eq_true rfl, Nat.le_of_ble_eq_true rfl⟩) hS (fun S12 H locs hw hW hS => ?_)
  obtain ⟨hk13, hw⟩ := hw
  refine m_putR C hW hS rfl hk13 p_X8_34 (fun _ => rfl) rfl dX8_init_55 (fun H locs hW hS => ?_)
  refine m_aldN C dX8_init_58 rfl h0 ?_
  refine m_new C hW hS n_X8_38 (Nat.le_of_ble_eq_true rfl) (Nat.le_of_ble_eq_true rfl) dX8_init_59 (fun q14 H hq14 hW hS => ?_)
  have hw := hw q14 hq14
  refine lv_dup C.1 C.2.1 dX8_init_62 (va_rf_cat _) ?_
  refine m_rV (m_runI (As := []) (rest := [va_rf (some q14), va_rf (some a0)]) C hW hS hL (c_X3_init hw) i_X8_40 ⟨rfl, rfl⟩ ⟨Nat.le_of_ble_eq_true rfl, Nat.le_of_ble_eq_true rfl⟩ rfl rfl rfl (by simp only [List.map_cons, List.map_nil, va_rf_cat, List.sum_cons, List.sum_nil] <;> exact Nat.le_of_ble_eq_true rfl) dX8_init_63 ⟨Nat.le_of_ble_eq_true rfl, Nat.le_of_ble_eq_true rfl⟩) hS (fun S15 H locs hw hW hS => ?_)
  obtain ⟨hk16, hw⟩ := hw
  refine m_putR C hW hS rfl hk16 p_X8_41 (fun _ => rfl) rfl dX8_init_66 (fun H locs hW hS => ?_)
  refine m_aldN C dX8_init_69 rfl h0 ?_
  refine m_aldN C dX8_init_70 rfl h1 ?_
  refine m_putR C hW hS rfl hk16 p_X8_45 (fun _ => rfl) rfl dX8_init_71 (fun H locs hW hS => ?_)
  refine m_aldN C dX8_init_74 rfl h0 ?_
  refine m_rV (m_runV (As := []) (rest := []) C hW hS hL (c_X8_wipe hw) v_X8_49 ⟨rfl, rfl⟩ ⟨Nat.le_of_ble_eq_true rfl, Nat.le_of_ble_eq_true rfl⟩ rfl hk16 rfl rfl (Nat.le_of_ble_eq_true rfl) dX8_init_75 ⟨Nat.le_of_ble_eq_true rfl, Nat.le_of_ble_eq_true rfl⟩) hS (fun S17 H locs hw hW hS => ?_)
  exact m_vret C hW hS hw dX8_init_78
def wp_X8_empty (S : Hp) (a0 : Nat) (Q : Int32 → Hp → Prop) : Prop := hK S a0 = 10 ∧ ∀ x2 : Int32, x2 = (hI S a0 8) → (x2 = 0 → (x2 = 0 ∨ x2 = 1) ∧ Q x2 S) ∧ (¬ (x2 = 0) → wp_X8_wipe S a0 (fun S5 => (x2 = 0 ∨ x2 = 1) ∧ Q x2 S5))
set_option maxRecDepth 100000 in
set_option maxHeartbeats 4000000 in
theorem c_X8_empty {l : Launch} {G : GX} {S : Hp} {a0 : Nat} {Q : Int32 → Hp → Prop} (hw : wp_X8_empty S a0 Q) : Met l yX8_empty (Cond.code yX8_empty cX8_empty 2 (some .boolean) :: TS) { frames := 3, cells := 0, slots := 0, locals := 62 } (Pk G S [va_rf (some a0)]) (QI G Q) 0 0 G.2.2.1 := by
  refine m_met (by decide) ?_
  intro p e s m below meth c H locs C hW hS
  have C : Cx p s m ([va_rf (some a0)] : List Value).toArray meth c cX8_empty 2 RX8 (some .boolean) "empty" G := C
  obtain ⟨ls, hent, hL, hla⟩ := m_entry m (vs := [va_rf (some a0)]) (nn := 2) [1] rfl (by decide)
  rw [hent]
  have h0 : ls[0]? = some (.val (va_rf (some a0))) := hla (0, va_rf (some a0)) (List.mem_of_getElem? (i := 0) rfl)
  clear hla
  generalize ([va_rf (some a0)] : List Value).toArray = args at C ⊢
  unfold wp_X8_empty at hw
  refine m_aldN C dX8_empty_0 rfl h0 ?_
  obtain ⟨hk1, hw⟩ := hw
  refine m_getI C hW rfl hk1 f_X8_52 rfl dX8_empty_1 ?_
  refine lv_topi (fun x2 ex2 => ?_)
  have hw := hw x2 ex2
  refine m_istN C hL dX8_empty_4 rfl (by decide) (fun ls hL hn9 hk9 => ?_)
  have h0 := hk9 0 _ h0 (by decide) (Or.inr (va_rf_cat _))
  have h1 := hn9
  refine lv_iload_n C.1 C.2.1 dX8_empty_5 rfl h1 ?_
  refine lv_if_eq (tgt := 13) C.1 C.2.1 dX8_empty_6 (by decide) (fun hc3 => ?_) (fun hc3 => ?_)
  · have hw := hw.1 hc3
    refine lv_iload_n C.1 C.2.1 dX8_empty_13 rfl h1 ?_
    obtain ⟨hz4, hw⟩ := hw
    exact m_zret C hW hS hz4 hw dX8_empty_14
  · have hw := hw.2 hc3
    refine m_aldN C dX8_empty_9 rfl h0 ?_
    refine m_rV (m_runV (As := []) (rest := []) C hW hS hL (c_X8_wipe hw) v_X8_49 ⟨rfl, rfl⟩ ⟨Nat.le_of_ble_eq_true rfl, Nat.le_of_ble_eq_true rfl⟩ rfl hk1 rfl rfl (Nat.le_of_ble_eq_true rfl) dX8_empty_10 ⟨Nat.le_of_ble_eq_true rfl, Nat.le_of_ble_eq_true rfl⟩) hS (fun S5 H locs hw hW hS => ?_)
    refine lv_iload_n C.1 C.2.1 dX8_empty_13 rfl h1 ?_
    obtain ⟨hz6, hw⟩ := hw
    exact m_zret C hW hS hz6 hw dX8_empty_14
def wp_X8_addGiven_L7 (l1 : Option Nat) (l2 : Option Nat) (Q : Hp → Prop) : Nat → Hp → Int32 → Prop
  | 0, _, _ => False
  | n + 1, S, l3 => ∃ b3 : Nat, l2 = some b3 ∧ hK S b3 = 2 ∧ ((hI S b3 2) ≤ l3 → Q S) ∧ (¬ ((hI S b3 2) ≤ l3) → ∃ b6 : Nat, (hR S b3 0) = some b6 ∧ hK S b6 = 15 ∧ vp_in l3 (hN S b6) ∧ ∃ b9 : Nat, l1 = some b9 ∧ hK S b9 = 16 ∧ vp_in (hI S b6 (l3 : Int32).toNatClampNeg) (hN S b9) ∧ ∃ b12 : Nat, (hR S b3 1) = some b12 ∧ hK S b12 = 15 ∧ vp_in l3 (hN S b12) ∧ vp_in (hI S b6 (l3 : Int32).toNatClampNeg) (hN S b9) ∧ wp_X8_addGiven_L7 l1 l2 Q n (sJ S b9 ((hI S b6 (l3 : Int32).toNatClampNeg) : Int32).toNatClampNeg ((hJ S b9 ((hI S b6 (l3 : Int32).toNatClampNeg) : Int32).toNatClampNeg) + (((hI S b12 (l3 : Int32).toNatClampNeg) : Int32).toInt64))) (l3 + 1))
def wp_X8_addGiven (S : Hp) (a0 : Option Nat) (a1 : Option Nat) (Q : Hp → Prop) : Prop := ∃ b1 : Nat, a0 = some b1 ∧ hK S b1 = 6 ∧ wp_X8_addGiven_L7 a1 (hR S b1 9) Q FU S 0
set_option maxRecDepth 100000 in
set_option maxHeartbeats 4000000 in
theorem w_X8_addGiven_L7 {p : Program} {l : Launch} {e : Env} {s : State} {m : MethodId} {args : Array Value} {below : List Frame} {meth : Method} {c : Code} {G : GX} {Q : Hp → Prop} {l1 : Option Nat} {l2 : Option Nat} (C : Cx p s m args meth c cX8_addGiven 4 RX8 none "addGiven" G) :
    ∀ (n : Nat) (S : Hp) (l3 : Int32) (H : Heap) (locs : List Loc) (ls : Array Slot), wd G S H → va_S G.2.2.1 s.heap H locs → LV ls 4 → ls[1]? = some (.val (va_rf l1)) → ls[2]? = some (.val (va_rf l2)) → ls[3]? = some (.val (.int l3)) → wp_X8_addGiven_L7 l1 l2 Q n S l3 → W p l e ({ frames := 0, cells := 0, slots := 0, locals := 0 } : Room) s m args below meth c H locs 0 0 (MQ below (QV G Q) args s 0 0 G.2.2.1) (F0 m 7 ls []) := by
  intro n
  induction n with
  | zero =>
    intro S l3 H locs ls hW hS hL h1 h2 h3 hw
    exact False.elim hw
  | succ n ih =>
    intro S l3 H locs ls hW hS hL h1 h2 h3 hw
    unfold wp_X8_addGiven_L7 at hw
    refine lv_iload_n C.1 C.2.1 dX8_addGiven_7 rfl h3 ?_
    refine m_aldN C dX8_addGiven_8 rfl h2 ?_
    obtain ⟨b3, ho3, hw⟩ := hw
    obtain ⟨hk4, hw⟩ := hw
    refine m_getI C hW ho3 hk4 f_X8_176 rfl dX8_addGiven_9 ?_
    refine lv_icmp_ge (tgt := 39) C.1 C.2.1 dX8_addGiven_12 (by decide) (fun hc5 => ?_) (fun hc5 => ?_)
    · have hw := hw.1 hc5
      exact m_vret C hW hS hw dX8_addGiven_39
    · have hw := hw.2 hc5
      refine m_aldN C dX8_addGiven_15 rfl h1 ?_
      refine m_aldN C dX8_addGiven_16 rfl h2 ?_
      refine m_getR C hW ho3 hk4 f_X8_179 rfl dX8_addGiven_17 ?_
      refine lv_iload_n C.1 C.2.1 dX8_addGiven_20 rfl h3 ?_
      obtain ⟨b6, ho6, hw⟩ := hw
      obtain ⟨hk7, hw⟩ := hw
      obtain ⟨hi8, hw⟩ := hw
      refine m_iald C hW ho6 hk7 hi8 dX8_addGiven_21 ?_
      refine lv_dup2_11 C.1 C.2.1 dX8_addGiven_22 (rfl) (va_rf_cat _) ?_
      obtain ⟨b9, ho9, hw⟩ := hw
      obtain ⟨hk10, hw⟩ := hw
      obtain ⟨hi11, hw⟩ := hw
      refine m_lald C hW ho9 hk10 hi11 dX8_addGiven_23 ?_
      refine m_aldN C dX8_addGiven_24 rfl h2 ?_
      refine m_getR C hW ho3 hk4 f_X8_182 rfl dX8_addGiven_25 ?_
      refine lv_iload_n C.1 C.2.1 dX8_addGiven_28 rfl h3 ?_
      obtain ⟨b12, ho12, hw⟩ := hw
      obtain ⟨hk13, hw⟩ := hw
      obtain ⟨hi14, hw⟩ := hw
      refine m_iald C hW ho12 hk13 hi14 dX8_addGiven_29 ?_
      refine lv_i2l (v := (((hI S b12 (l3 : Int32).toNatClampNeg) : Int32).toInt64)) C.1 C.2.1 dX8_addGiven_30 rfl ?_
      refine lv_ladd C.1 C.2.1 dX8_addGiven_31 ?_
      obtain ⟨hi15, hw⟩ := hw
      refine m_last C hW hS ho9 hk10 hi15 dX8_addGiven_32 (fun H locs hW hS => ?_)
      refine m_iinc (v := (l3 + 1)) C hL dX8_addGiven_33 h3 rfl (by decide) (fun ls hL hn9 hk9 => ?_)
      have h1 := hk9 1 _ h1 (by decide) (Or.inl (by decide))
      have h2 := hk9 2 _ h2 (by decide) (Or.inr (va_rf_cat _))
      have h3 := hn9
      refine lv_goto (tgt := 7) C.1 C.2.1 dX8_addGiven_36 (by decide) ?_
      exact ih (sJ S b9 ((hI S b6 (l3 : Int32).toNatClampNeg) : Int32).toNatClampNeg ((hJ S b9 ((hI S b6 (l3 : Int32).toNatClampNeg) : Int32).toNatClampNeg) + (((hI S b12 (l3 : Int32).toNatClampNeg) : Int32).toInt64))) (l3 + 1) H locs ls hW hS hL h1 h2 h3 hw
set_option maxRecDepth 100000 in
set_option maxHeartbeats 4000000 in
theorem c_X8_addGiven {l : Launch} {G : GX} {S : Hp} {a0 : Option Nat} {a1 : Option Nat} {Q : Hp → Prop} (hw : wp_X8_addGiven S a0 a1 Q) : Met l yX8_addGiven (Cond.code yX8_addGiven cX8_addGiven 4 none :: TS) { frames := 0, cells := 0, slots := 0, locals := 0 } (Pk G S [va_rf a0, va_rf a1]) (QV G Q) 0 0 G.2.2.1 := by
  refine m_met (by decide) ?_
  intro p e s m below meth c H locs C hW hS
  have C : Cx p s m ([va_rf a0, va_rf a1] : List Value).toArray meth c cX8_addGiven 4 RX8 none "addGiven" G := C
  obtain ⟨ls, hent, hL, hla⟩ := m_entry m (vs := [va_rf a0, va_rf a1]) (nn := 4) [1, 1] (by simp only [List.map_cons, List.map_nil, va_rf_cat] <;> rfl) (by decide)
  rw [hent]
  have h0 : ls[0]? = some (.val (va_rf a0)) := hla (0, va_rf a0) (List.mem_of_getElem? (i := 0) rfl)
  have h1 : ls[1]? = some (.val (va_rf a1)) := hla (1, va_rf a1) (List.mem_of_getElem? (i := 1) rfl)
  clear hla
  generalize ([va_rf a0, va_rf a1] : List Value).toArray = args at C ⊢
  unfold wp_X8_addGiven at hw
  refine m_aldN C dX8_addGiven_0 rfl h0 ?_
  obtain ⟨b1, ho1, hw⟩ := hw
  obtain ⟨hk2, hw⟩ := hw
  refine m_getR C hW ho1 hk2 f_X8_172 rfl dX8_addGiven_1 ?_
  refine m_astN C hL dX8_addGiven_4 rfl (by decide) (fun ls hL hn9 hk9 => ?_)
  have h1 := hk9 1 _ h1 (by decide) (Or.inr (va_rf_cat _))
  have h2 := hn9
  refine lv_iconst (v := 0) C.1 C.2.1 dX8_addGiven_5 (by decide) ?_
  refine m_istN C hL dX8_addGiven_6 rfl (by decide) (fun ls hL hn9 hk9 => ?_)
  have h1 := hk9 1 _ h1 (by decide) (Or.inl (by decide))
  have h2 := hk9 2 _ h2 (by decide) (Or.inr (va_rf_cat _))
  have h3 := hn9
  exact w_X8_addGiven_L7 C  FU S 0 H locs ls hW hS hL h1 h2 h3 hw
def wp_X8_layOut_L2 (l0 : Nat) (K44 : Hp → Prop) (Q : Hp → Prop) : Nat → Hp → Int32 → Prop
  | 0, _, _ => False
  | n + 1, S, l1 => (60 ≤ l1 → K44 S) ∧ (¬ (60 ≤ l1) → hK S l0 = 10 ∧ ∃ b3 : Nat, (hR S l0 0) = some b3 ∧ hK S b3 = 11 ∧ ∃ b5 : Nat, (hR S b3 4) = some b5 ∧ hK S b5 = 16 ∧ vp_in l1 (hN S b5) ∧ ∃ b8 : Nat, (hR S l0 1) = some b8 ∧ hK S b8 = 16 ∧ vp_in l1 (hN S b8) ∧ ∃ b11 : Nat, (hR (sJ S b8 (l1 : Int32).toNatClampNeg (hJ S b5 (l1 : Int32).toNatClampNeg)) l0 0) = some b11 ∧ hK (sJ S b8 (l1 : Int32).toNatClampNeg (hJ S b5 (l1 : Int32).toNatClampNeg)) b11 = 11 ∧ ∃ b13 : Nat, (hR (sJ S b8 (l1 : Int32).toNatClampNeg (hJ S b5 (l1 : Int32).toNatClampNeg)) b11 4) = some b13 ∧ hK (sJ S b8 (l1 : Int32).toNatClampNeg (hJ S b5 (l1 : Int32).toNatClampNeg)) b13 = 16 ∧ vp_in l1 (hN (sJ S b8 (l1 : Int32).toNatClampNeg (hJ S b5 (l1 : Int32).toNatClampNeg)) b13) ∧ ∃ b16 : Nat, (hR (sJ S b8 (l1 : Int32).toNatClampNeg (hJ S b5 (l1 : Int32).toNatClampNeg)) l0 2) = some b16 ∧ hK (sJ S b8 (l1 : Int32).toNatClampNeg (hJ S b5 (l1 : Int32).toNatClampNeg)) b16 = 16 ∧ vp_in l1 (hN (sJ S b8 (l1 : Int32).toNatClampNeg (hJ S b5 (l1 : Int32).toNatClampNeg)) b16) ∧ wp_X8_layOut_L2 l0 K44 Q n (sJ (sJ S b8 (l1 : Int32).toNatClampNeg (hJ S b5 (l1 : Int32).toNatClampNeg)) b16 (l1 : Int32).toNatClampNeg (hJ (sJ S b8 (l1 : Int32).toNatClampNeg (hJ S b5 (l1 : Int32).toNatClampNeg)) b13 (l1 : Int32).toNatClampNeg)) (l1 + 1))
def wp_X8_layOut_L46 (l0 : Nat) (K87 : Hp → Prop) (Q : Hp → Prop) : Nat → Hp → Int32 → Prop
  | 0, _, _ => False
  | n + 1, S, l1 => hK S l0 = 10 ∧ ∃ b21 : Nat, (hR S l0 0) = some b21 ∧ hK S b21 = 11 ∧ ((hI S b21 1) ≤ l1 → K87 S) ∧ (¬ ((hI S b21 1) ≤ l1) → ∃ b24 : Nat, (hR S b21 0) = some b24 ∧ hK S b24 = 18 ∧ vp_in l1 (hN S b24) ∧ vp_in l1 (hN S b24) ∧ ∃ b28 : Nat, (hR S b24 (l1 : Int32).toNatClampNeg) = some b28 ∧ hK S b28 = 4 ∧ wp_X8_layOut_L46 l0 K87 Q n (sI S b28 3 (hI S b28 2)) (l1 + 1))
def wp_X8_layOut_L89 (l0 : Nat) (Q : Hp → Prop) : Nat → Hp → Int32 → Prop
  | 0, _, _ => False
  | n + 1, S, l1 => hK S l0 = 10 ∧ ∃ b32 : Nat, (hR S l0 0) = some b32 ∧ hK S b32 = 11 ∧ ((hI S b32 7) ≤ l1 → Q (sI S l0 14 (hI S b32 7))) ∧ (¬ ((hI S b32 7) ≤ l1) → ∃ b35 : Nat, (hR S b32 5) = some b35 ∧ hK S b35 = 19 ∧ vp_in l1 (hN S b35) ∧ ∃ b38 : Nat, (hR S b35 (l1 : Int32).toNatClampNeg) = some b38 ∧ hK S b38 = 6 ∧ ∃ b40 : Nat, (hR S b38 4) = some b40 ∧ hK S b40 = 1 ∧ wp_Jx4a65c_size_8abf5 S b40 (fun r43 S42 => ∃ b44 : Nat, (hR S b38 15) = some b44 ∧ hK S42 b44 = 12 ∧ hK (sI S42 b44 7 r43) l0 = 10 ∧ wp_X8_addGiven (sI S42 b44 7 r43) (hR S b35 (l1 : Int32).toNatClampNeg) (hR (sI S42 b44 7 r43) l0 2) (fun S47 => hK S47 l0 = 10 ∧ ∃ b49 : Nat, (hR S47 l0 0) = some b49 ∧ hK S47 b49 = 11 ∧ ∃ b51 : Nat, (hR S47 b49 6) = some b51 ∧ hK S47 b51 = 19 ∧ vp_in l1 (hN S47 b51) ∧ ∃ b54 : Nat, (hR S47 l0 5) = some b54 ∧ hK S47 b54 = 19 ∧ vp_in l1 (hN S47 b54) ∧ ∃ b57 : Nat, (hR S47 b51 (l1 : Int32).toNatClampNeg) = some b57 ∧ hK S47 b57 = 6 ∧ wp_X8_layOut_L89 l0 Q n (sR S47 b54 (l1 : Int32).toNatClampNeg (hR S47 b51 (l1 : Int32).toNatClampNeg)) (l1 + 1))))
def wp_X8_layOut (S : Hp) (a0 : Nat) (Q : Hp → Prop) : Prop := wp_X8_layOut_L2 a0 (fun (S19 : Hp) => wp_X8_layOut_L46 a0 (fun (S30 : Hp) => wp_X8_layOut_L89 a0 Q FU S30 0) Q FU S19 0) Q FU S 0
set_option maxRecDepth 100000 in
set_option maxHeartbeats 4000000 in
theorem w_X8_layOut_L2 {p : Program} {l : Launch} {e : Env} {s : State} {m : MethodId} {args : Array Value} {below : List Frame} {meth : Method} {c : Code} {G : GX} {Q : Hp → Prop} {K44 : Hp → Prop} {l0 : Nat} (C : Cx p s m args meth c cX8_layOut 3 RX8 none "layOut" G)
    (k44 : ∀ (S : Hp) (H : Heap) (locs : List Loc) (ls : Array Slot), wd G S H → va_S G.2.2.1 s.heap H locs → LV ls 3 → ls[0]? = some (.val (va_rf (some l0))) → K44 S → W p l e ({ frames := 1, cells := 0, slots := 0, locals := 23 } : Room) s m args below meth c H locs 0 0 (MQ below (QV G Q) args s 0 0 G.2.2.1) (F0 m 44 ls [])) :
    ∀ (n : Nat) (S : Hp) (l1 : Int32) (H : Heap) (locs : List Loc) (ls : Array Slot), wd G S H → va_S G.2.2.1 s.heap H locs → LV ls 3 → ls[0]? = some (.val (va_rf (some l0))) → ls[1]? = some (.val (.int l1)) → wp_X8_layOut_L2 l0 K44 Q n S l1 → W p l e ({ frames := 1, cells := 0, slots := 0, locals := 23 } : Room) s m args below meth c H locs 0 0 (MQ below (QV G Q) args s 0 0 G.2.2.1) (F0 m 2 ls []) := by
  intro n
  induction n with
  | zero =>
    intro S l1 H locs ls hW hS hL h0 h1 hw
    exact False.elim hw
  | succ n ih =>
    intro S l1 H locs ls hW hS hL h0 h1 hw
    unfold wp_X8_layOut_L2 at hw
    refine lv_iload_n C.1 C.2.1 dX8_layOut_2 rfl h1 ?_
    refine lv_bipush (v := 60) C.1 C.2.1 dX8_layOut_3 (by decide) ?_
    refine lv_icmp_ge (tgt := 44) C.1 C.2.1 dX8_layOut_5 (by decide) (fun hc1 => ?_) (fun hc1 => ?_)
    · have hw := hw.1 hc1
      exact k44 S H locs ls hW hS hL h0 hw
    · have hw := hw.2 hc1
      refine m_aldN C dX8_layOut_8 rfl h0 ?_
      obtain ⟨hk2, hw⟩ := hw
      refine m_getR C hW rfl hk2 f_X8_9 rfl dX8_layOut_9 ?_
      refine lv_iload_n C.1 C.2.1 dX8_layOut_12 rfl h1 ?_
      refine m_aldN C dX8_layOut_13 rfl h0 ?_
      refine m_getR C hW rfl hk2 f_X8_45 rfl dX8_layOut_14 ?_
      obtain ⟨b3, ho3, hw⟩ := hw
      obtain ⟨hk4, hw⟩ := hw
      refine m_getR C hW ho3 hk4 f_X8_140 rfl dX8_layOut_17 ?_
      refine lv_iload_n C.1 C.2.1 dX8_layOut_20 rfl h1 ?_
      obtain ⟨b5, ho5, hw⟩ := hw
      obtain ⟨hk6, hw⟩ := hw
      obtain ⟨hi7, hw⟩ := hw
      refine m_lald C hW ho5 hk6 hi7 dX8_layOut_21 ?_
      obtain ⟨b8, ho8, hw⟩ := hw
      obtain ⟨hk9, hw⟩ := hw
      obtain ⟨hi10, hw⟩ := hw
      refine m_last C hW hS ho8 hk9 hi10 dX8_layOut_22 (fun H locs hW hS => ?_)
      refine m_aldN C dX8_layOut_23 rfl h0 ?_
      refine m_getR C hW rfl hk2 f_X8_15 rfl dX8_layOut_24 ?_
      refine lv_iload_n C.1 C.2.1 dX8_layOut_27 rfl h1 ?_
      refine m_aldN C dX8_layOut_28 rfl h0 ?_
      refine m_getR C hW rfl hk2 f_X8_45 rfl dX8_layOut_29 ?_
      obtain ⟨b11, ho11, hw⟩ := hw
      obtain ⟨hk12, hw⟩ := hw
      refine m_getR C hW ho11 hk12 f_X8_140 rfl dX8_layOut_32 ?_
      refine lv_iload_n C.1 C.2.1 dX8_layOut_35 rfl h1 ?_
      obtain ⟨b13, ho13, hw⟩ := hw
      obtain ⟨hk14, hw⟩ := hw
      obtain ⟨hi15, hw⟩ := hw
      refine m_lald C hW ho13 hk14 hi15 dX8_layOut_36 ?_
      obtain ⟨b16, ho16, hw⟩ := hw
      obtain ⟨hk17, hw⟩ := hw
      obtain ⟨hi18, hw⟩ := hw
      refine m_last C hW hS ho16 hk17 hi18 dX8_layOut_37 (fun H locs hW hS => ?_)
      refine m_iinc (v := (l1 + 1)) C hL dX8_layOut_38 h1 rfl (by decide) (fun ls hL hn9 hk9 => ?_)
      have h0 := hk9 0 _ h0 (by decide) (Or.inr (va_rf_cat _))
      have h1 := hn9
      refine lv_goto (tgt := 2) C.1 C.2.1 dX8_layOut_41 (by decide) ?_
      exact ih (sJ (sJ S b8 (l1 : Int32).toNatClampNeg (hJ S b5 (l1 : Int32).toNatClampNeg)) b16 (l1 : Int32).toNatClampNeg (hJ (sJ S b8 (l1 : Int32).toNatClampNeg (hJ S b5 (l1 : Int32).toNatClampNeg)) b13 (l1 : Int32).toNatClampNeg)) (l1 + 1) H locs ls hW hS hL h0 h1 hw
set_option maxRecDepth 100000 in
set_option maxHeartbeats 4000000 in
theorem w_X8_layOut_L46 {p : Program} {l : Launch} {e : Env} {s : State} {m : MethodId} {args : Array Value} {below : List Frame} {meth : Method} {c : Code} {G : GX} {Q : Hp → Prop} {K87 : Hp → Prop} {l0 : Nat} (C : Cx p s m args meth c cX8_layOut 3 RX8 none "layOut" G)
    (k87 : ∀ (S : Hp) (H : Heap) (locs : List Loc) (ls : Array Slot), wd G S H → va_S G.2.2.1 s.heap H locs → LV ls 3 → ls[0]? = some (.val (va_rf (some l0))) → K87 S → W p l e ({ frames := 1, cells := 0, slots := 0, locals := 23 } : Room) s m args below meth c H locs 0 0 (MQ below (QV G Q) args s 0 0 G.2.2.1) (F0 m 87 ls [])) :
    ∀ (n : Nat) (S : Hp) (l1 : Int32) (H : Heap) (locs : List Loc) (ls : Array Slot), wd G S H → va_S G.2.2.1 s.heap H locs → LV ls 3 → ls[0]? = some (.val (va_rf (some l0))) → ls[1]? = some (.val (.int l1)) → wp_X8_layOut_L46 l0 K87 Q n S l1 → W p l e ({ frames := 1, cells := 0, slots := 0, locals := 23 } : Room) s m args below meth c H locs 0 0 (MQ below (QV G Q) args s 0 0 G.2.2.1) (F0 m 46 ls []) := by
  intro n
  induction n with
  | zero =>
    intro S l1 H locs ls hW hS hL h0 h1 hw
    exact False.elim hw
  | succ n ih =>
    intro S l1 H locs ls hW hS hL h0 h1 hw
    unfold wp_X8_layOut_L46 at hw
    refine lv_iload_n C.1 C.2.1 dX8_layOut_46 rfl h1 ?_
    refine m_aldN C dX8_layOut_47 rfl h0 ?_
    obtain ⟨hk20, hw⟩ := hw
    refine m_getR C hW rfl hk20 f_X8_45 rfl dX8_layOut_48 ?_
    obtain ⟨b21, ho21, hw⟩ := hw
    obtain ⟨hk22, hw⟩ := hw
    refine m_getI C hW ho21 hk22 f_X8_143 rfl dX8_layOut_51 ?_
    refine lv_icmp_ge (tgt := 87) C.1 C.2.1 dX8_layOut_54 (by decide) (fun hc23 => ?_) (fun hc23 => ?_)
    · have hw := hw.1 hc23
      exact k87 S H locs ls hW hS hL h0 hw
    · have hw := hw.2 hc23
      refine m_aldN C dX8_layOut_57 rfl h0 ?_
      refine m_getR C hW rfl hk20 f_X8_45 rfl dX8_layOut_58 ?_
      refine m_getR C hW ho21 hk22 f_X8_146 rfl dX8_layOut_61 ?_
      refine lv_iload_n C.1 C.2.1 dX8_layOut_64 rfl h1 ?_
      obtain ⟨b24, ho24, hw⟩ := hw
      obtain ⟨hk25, hw⟩ := hw
      obtain ⟨hi26, hw⟩ := hw
      refine m_aald C hW ho24 hk25 (by decide) (by decide) hi26 dX8_layOut_65 ?_
      refine m_aldN C dX8_layOut_66 rfl h0 ?_
      refine m_getR C hW rfl hk20 f_X8_45 rfl dX8_layOut_67 ?_
      refine m_getR C hW ho21 hk22 f_X8_146 rfl dX8_layOut_70 ?_
      refine lv_iload_n C.1 C.2.1 dX8_layOut_73 rfl h1 ?_
      obtain ⟨hi27, hw⟩ := hw
      refine m_aald C hW ho24 hk25 (by decide) (by decide) hi27 dX8_layOut_74 ?_
      obtain ⟨b28, ho28, hw⟩ := hw
      obtain ⟨hk29, hw⟩ := hw
      refine m_getI C hW ho28 hk29 f_X8_93 rfl dX8_layOut_75 ?_
      refine m_putI C hW hS ho28 hk29 p_X8_150 (fun z => by cases z) rfl dX8_layOut_78 (fun H locs hW hS => ?_)
      refine m_iinc (v := (l1 + 1)) C hL dX8_layOut_81 h1 rfl (by decide) (fun ls hL hn9 hk9 => ?_)
      have h0 := hk9 0 _ h0 (by decide) (Or.inr (va_rf_cat _))
      have h1 := hn9
      refine lv_goto (tgt := 46) C.1 C.2.1 dX8_layOut_84 (by decide) ?_
      exact ih (sI S b28 3 (hI S b28 2)) (l1 + 1) H locs ls hW hS hL h0 h1 hw
set_option maxRecDepth 100000 in
set_option maxHeartbeats 4000000 in
theorem w_X8_layOut_L89 {p : Program} {l : Launch} {e : Env} {s : State} {m : MethodId} {args : Array Value} {below : List Frame} {meth : Method} {c : Code} {G : GX} {Q : Hp → Prop} {l0 : Nat} (C : Cx p s m args meth c cX8_layOut 3 RX8 none "layOut" G) :
    ∀ (n : Nat) (S : Hp) (l1 : Int32) (H : Heap) (locs : List Loc) (ls : Array Slot), wd G S H → va_S G.2.2.1 s.heap H locs → LV ls 3 → ls[0]? = some (.val (va_rf (some l0))) → ls[1]? = some (.val (.int l1)) → wp_X8_layOut_L89 l0 Q n S l1 → W p l e ({ frames := 1, cells := 0, slots := 0, locals := 23 } : Room) s m args below meth c H locs 0 0 (MQ below (QV G Q) args s 0 0 G.2.2.1) (F0 m 89 ls []) := by
  intro n
  induction n with
  | zero =>
    intro S l1 H locs ls hW hS hL h0 h1 hw
    exact False.elim hw
  | succ n ih =>
    intro S l1 H locs ls hW hS hL h0 h1 hw
    unfold wp_X8_layOut_L89 at hw
    refine lv_iload_n C.1 C.2.1 dX8_layOut_89 rfl h1 ?_
    refine m_aldN C dX8_layOut_90 rfl h0 ?_
    obtain ⟨hk31, hw⟩ := hw
    refine m_getR C hW rfl hk31 f_X8_45 rfl dX8_layOut_91 ?_
    obtain ⟨b32, ho32, hw⟩ := hw
    obtain ⟨hk33, hw⟩ := hw
    refine m_getI C hW ho32 hk33 f_X8_79 rfl dX8_layOut_94 ?_
    refine lv_icmp_ge (tgt := 153) C.1 C.2.1 dX8_layOut_97 (by decide) (fun hc34 => ?_) (fun hc34 => ?_)
    · have hw := hw.1 hc34
      refine m_aldN C dX8_layOut_153 rfl h0 ?_
      refine m_aldN C dX8_layOut_154 rfl h0 ?_
      refine m_getR C hW rfl hk31 f_X8_45 rfl dX8_layOut_155 ?_
      refine m_getI C hW ho32 hk33 f_X8_79 rfl dX8_layOut_158 ?_
      refine m_putI C hW hS rfl hk31 p_X8_121 (fun z => by cases z) rfl dX8_layOut_161 (fun H locs hW hS => ?_)
      exact m_vret C hW hS hw dX8_layOut_164
    · have hw := hw.2 hc34
      refine m_aldN C dX8_layOut_100 rfl h0 ?_
      refine m_getR C hW rfl hk31 f_X8_45 rfl dX8_layOut_101 ?_
      refine m_getR C hW ho32 hk33 f_X8_84 rfl dX8_layOut_104 ?_
      refine lv_iload_n C.1 C.2.1 dX8_layOut_107 rfl h1 ?_
      obtain ⟨b35, ho35, hw⟩ := hw
      obtain ⟨hk36, hw⟩ := hw
      obtain ⟨hi37, hw⟩ := hw
      refine m_aald C hW ho35 hk36 (by decide) (by decide) hi37 dX8_layOut_108 ?_
      refine m_astN C hL dX8_layOut_109 rfl (by decide) (fun ls hL hn9 hk9 => ?_)
      have h0 := hk9 0 _ h0 (by decide) (Or.inl (by decide))
      have h1 := hk9 1 _ h1 (by decide) (Or.inr (rfl))
      have h2 := hn9
      refine m_aldN C dX8_layOut_110 rfl h2 ?_
      obtain ⟨b38, ho38, hw⟩ := hw
      obtain ⟨hk39, hw⟩ := hw
      refine m_getR C hW ho38 hk39 f_X8_70 rfl dX8_layOut_111 ?_
      refine m_aldN C dX8_layOut_114 rfl h2 ?_
      refine m_getR C hW ho38 hk39 f_X8_153 rfl dX8_layOut_115 ?_
      obtain ⟨b40, ho40, hw⟩ := hw
      obtain ⟨hk41, hw⟩ := hw
      refine m_rI (m_runV (As := []) (rest := [va_rf (hR S b38 15)]) C hW hS hL (c_Jx4a65c_size_8abf5 hw) v_X8_157 ⟨rfl, rfl⟩ ⟨Nat.le_of_ble_eq_true rfl, Nat.le_of_ble_eq_true rfl⟩ ho40 hk41 rfl rfl (by simp only [List.map_cons, List.map_nil, va_rf_cat, List.sum_cons, List.sum_nil] <;> exact Nat.le_of_ble_eq_true rfl) dX8_layOut_118 ⟨Nat.le_of_ble_eq_true rfl, Nat.le_of_ble_eq_true rfl⟩) hS (fun r43 S42 H locs hw hW hS => ?_)
      obtain ⟨b44, ho44, hw⟩ := hw
      obtain ⟨hk45, hw⟩ := hw
      refine m_putI C hW hS ho44 hk45 p_X8_162 (fun z => by cases z) rfl dX8_layOut_121 (fun H locs hW hS => ?_)
      refine m_aldN C dX8_layOut_124 rfl h2 ?_
      refine m_aldN C dX8_layOut_125 rfl h0 ?_
      obtain ⟨hk46, hw⟩ := hw
      refine m_getR C hW rfl hk46 f_X8_15 rfl dX8_layOut_126 ?_
      refine m_rV (m_runS (As := [va_rf (hR S b35 (l1 : Int32).toNatClampNeg), va_rf (hR (sI S42 b44 7 r43) l0 2)]) (rest := []) C hW hS hL (c_X8_addGiven hw) s_X8_165 ⟨rfl, rfl⟩ ⟨Nat.le_of_ble_eq_true rfl, Nat.le_of_ble_eq_true rfl⟩ rfl rfl (Nat.le_of_ble_eq_true rfl) dX8_layOut_129 ⟨Nat.le_of_ble_eq_true rfl, Nat.le_of_ble_eq_true rfl⟩) hS (fun S47 H locs hw hW hS => ?_)
      refine m_aldN C dX8_layOut_132 rfl h0 ?_
      obtain ⟨hk48, hw⟩ := hw
      refine m_getR C hW rfl hk48 f_X8_28 rfl dX8_layOut_133 ?_
      refine lv_iload_n C.1 C.2.1 dX8_layOut_136 rfl h1 ?_
      refine m_aldN C dX8_layOut_137 rfl h0 ?_
      refine m_getR C hW rfl hk48 f_X8_45 rfl dX8_layOut_138 ?_
      obtain ⟨b49, ho49, hw⟩ := hw
      obtain ⟨hk50, hw⟩ := hw
      refine m_getR C hW ho49 hk50 f_X8_169 rfl dX8_layOut_141 ?_
      refine lv_iload_n C.1 C.2.1 dX8_layOut_144 rfl h1 ?_
      obtain ⟨b51, ho51, hw⟩ := hw
      obtain ⟨hk52, hw⟩ := hw
      obtain ⟨hi53, hw⟩ := hw
      refine m_aald C hW ho51 hk52 (by decide) (by decide) hi53 dX8_layOut_145 ?_
      obtain ⟨b54, ho54, hw⟩ := hw
      obtain ⟨hk55, hw⟩ := hw
      obtain ⟨hi56, hw⟩ := hw
      obtain ⟨b57, ho57, hw⟩ := hw
      obtain ⟨hk58, hw⟩ := hw
      refine m_aast C hW hS ho54 hk55 (by decide) (by decide) hi56 (fun bb9 zz9 => by obtain rfl : b57 = bb9 := Option.some.inj ((ho57).symm.trans zz9); exact Or.inr ⟨by decide, hk58⟩) dX8_layOut_146 (fun H locs hW hS => ?_)
      refine m_iinc (v := (l1 + 1)) C hL dX8_layOut_147 h1 rfl (by decide) (fun ls hL hn9 hk9 => ?_)
      have h0 := hk9 0 _ h0 (by decide) (Or.inr (va_rf_cat _))
      have h1 := hn9
      refine lv_goto (tgt := 89) C.1 C.2.1 dX8_layOut_150 (by decide) ?_
      exact ih (sR S47 b54 (l1 : Int32).toNatClampNeg (hR S47 b51 (l1 : Int32).toNatClampNeg)) (l1 + 1) H locs ls hW hS hL h0 h1 hw
set_option maxRecDepth 100000 in
set_option maxHeartbeats 4000000 in
theorem c_X8_layOut {l : Launch} {G : GX} {S : Hp} {a0 : Nat} {Q : Hp → Prop} (hw : wp_X8_layOut S a0 Q) : Met l yX8_layOut (Cond.code yX8_layOut cX8_layOut 3 none :: TS) { frames := 1, cells := 0, slots := 0, locals := 23 } (Pk G S [va_rf (some a0)]) (QV G Q) 0 0 G.2.2.1 := by
  refine m_met (by decide) ?_
  intro p e s m below meth c H locs C hW hS
  have C : Cx p s m ([va_rf (some a0)] : List Value).toArray meth c cX8_layOut 3 RX8 none "layOut" G := C
  obtain ⟨ls, hent, hL, hla⟩ := m_entry m (vs := [va_rf (some a0)]) (nn := 3) [1] rfl (by decide)
  rw [hent]
  have h0 : ls[0]? = some (.val (va_rf (some a0))) := hla (0, va_rf (some a0)) (List.mem_of_getElem? (i := 0) rfl)
  clear hla
  generalize ([va_rf (some a0)] : List Value).toArray = args at C ⊢
  unfold wp_X8_layOut at hw
  refine lv_iconst (v := 0) C.1 C.2.1 dX8_layOut_0 (by decide) ?_
  refine m_istN C hL dX8_layOut_1 rfl (by decide) (fun ls hL hn9 hk9 => ?_)
  have h0 := hk9 0 _ h0 (by decide) (Or.inr (va_rf_cat _))
  have h1 := hn9
  refine w_X8_layOut_L2 C ?_ FU S 0 H locs ls hW hS hL h0 h1 hw
  · intro S19 H locs ls hW hS hL h0 hw
    refine lv_iconst (v := 0) C.1 C.2.1 dX8_layOut_44 (by decide) ?_
    refine m_istN C hL dX8_layOut_45 rfl (by decide) (fun ls hL hn9 hk9 => ?_)
    have h0 := hk9 0 _ h0 (by decide) (Or.inr (va_rf_cat _))
    have h1 := hn9
    refine w_X8_layOut_L46 C ?_ FU S19 0 H locs ls hW hS hL h0 h1 hw
    · intro S30 H locs ls hW hS hL h0 hw
      refine lv_iconst (v := 0) C.1 C.2.1 dX8_layOut_87 (by decide) ?_
      refine m_istN C hL dX8_layOut_88 rfl (by decide) (fun ls hL hn9 hk9 => ?_)
      have h0 := hk9 0 _ h0 (by decide) (Or.inr (va_rf_cat _))
      have h1 := hn9
      exact w_X8_layOut_L89 C  FU S30 0 H locs ls hW hS hL h0 h1 hw
def wp_X8_isHopeless_L19 (l0 : Nat) (l1 : Nat) (l2 : Option Nat) (Q : Int32 → Hp → Prop) : Nat → Hp → Int32 → Prop
  | 0, _, _ => False
  | n + 1, S, l3 => ∃ b6 : Nat, l2 = some b6 ∧ hK S b6 = 2 ∧ ((hI S b6 2) ≤ l3 → Q 0 S) ∧ (¬ ((hI S b6 2) ≤ l3) → ∃ b9 : Nat, (hR S b6 0) = some b9 ∧ hK S b9 = 15 ∧ vp_in l3 (hN S b9) ∧ ∀ x12 : Int32, x12 = (hI S b9 (l3 : Int32).toNatClampNeg) → ∃ b13 : Nat, (hR S b6 1) = some b13 ∧ hK S b13 = 15 ∧ vp_in l3 (hN S b13) ∧ hK S l0 = 10 ∧ ∃ b17 : Nat, (hR S l0 2) = some b17 ∧ hK S b17 = 16 ∧ vp_in x12 (hN S b17) ∧ hK S l1 = 6 ∧ ∃ b21 : Nat, (hR S l1 9) = some b21 ∧ hK S b21 = 2 ∧ wp_X0_amountOf S b21 x12 (fun r24 S23 => ((((hI S b13 (l3 : Int32).toNatClampNeg) : Int32).toInt64) ≤ ((hJ S b17 (x12 : Int32).toNatClampNeg) - ((r24 : Int32).toInt64)) → wp_X8_isHopeless_L19 l0 l1 l2 Q n S23 (l3 + 1)) ∧ (¬ ((((hI S b13 (l3 : Int32).toNatClampNeg) : Int32).toInt64) ≤ ((hJ S b17 (x12 : Int32).toNatClampNeg) - ((r24 : Int32).toInt64))) → Q 1 S23)))
def wp_X8_isHopeless (S : Hp) (a0 : Nat) (a1 : Option Nat) (Q : Int32 → Hp → Prop) : Prop := ∃ b1 : Nat, a1 = some b1 ∧ hK S b1 = 6 ∧ ∃ b3 : Nat, (hR S b1 1) = some b3 ∧ hK S b3 = 4 ∧ ((hI S b3 2) = 0 → Q 1 S) ∧ (¬ ((hI S b3 2) = 0) → wp_X8_isHopeless_L19 a0 b1 (hR S b1 8) Q FU S 0)
set_option maxRecDepth 100000 in
set_option maxHeartbeats 4000000 in
theorem w_X8_isHopeless_L19 {p : Program} {l : Launch} {e : Env} {s : State} {m : MethodId} {args : Array Value} {below : List Frame} {meth : Method} {c : Code} {G : GX} {Q : Int32 → Hp → Prop} {l0 : Nat} {l1 : Nat} {l2 : Option Nat} (C : Cx p s m args meth c cX8_isHopeless 5 RX8 (some .boolean) "isHopeless" G) :
    ∀ (n : Nat) (S : Hp) (l3 : Int32) (H : Heap) (locs : List Loc) (ls : Array Slot), wd G S H → va_S G.2.2.1 s.heap H locs → LV ls 5 → ls[0]? = some (.val (va_rf (some l0))) → ls[1]? = some (.val (va_rf (some l1))) → ls[2]? = some (.val (va_rf l2)) → ls[3]? = some (.val (.int l3)) → wp_X8_isHopeless_L19 l0 l1 l2 Q n S l3 → W p l e ({ frames := 2, cells := 0, slots := 0, locals := 44 } : Room) s m args below meth c H locs 0 0 (MQ below (QI G Q) args s 0 0 G.2.2.1) (F0 m 19 ls []) := by
  intro n
  induction n with
  | zero =>
    intro S l3 H locs ls hW hS hL h0 h1 h2 h3 hw
    exact False.elim hw
  | succ n ih =>
    intro S l3 H locs ls hW hS hL h0 h1 h2 h3 hw
    unfold wp_X8_isHopeless_L19 at hw
    refine lv_iload_n C.1 C.2.1 dX8_isHopeless_19 rfl h3 ?_
    refine m_aldN C dX8_isHopeless_20 rfl h2 ?_
    obtain ⟨b6, ho6, hw⟩ := hw
    obtain ⟨hk7, hw⟩ := hw
    refine m_getI C hW ho6 hk7 f_X8_176 rfl dX8_isHopeless_21 ?_
    refine lv_icmp_ge (tgt := 72) C.1 C.2.1 dX8_isHopeless_24 (by decide) (fun hc8 => ?_) (fun hc8 => ?_)
    · have hw := hw.1 hc8
      refine lv_iconst (v := 0) C.1 C.2.1 dX8_isHopeless_72 (by decide) ?_
      exact m_zret C hW hS (by decide) hw dX8_isHopeless_73
    · have hw := hw.2 hc8
      refine m_aldN C dX8_isHopeless_27 rfl h2 ?_
      refine m_getR C hW ho6 hk7 f_X8_179 rfl dX8_isHopeless_28 ?_
      refine lv_iload_n C.1 C.2.1 dX8_isHopeless_31 rfl h3 ?_
      obtain ⟨b9, ho9, hw⟩ := hw
      obtain ⟨hk10, hw⟩ := hw
      obtain ⟨hi11, hw⟩ := hw
      refine m_iald C hW ho9 hk10 hi11 dX8_isHopeless_32 ?_
      refine lv_topi (fun x12 ex12 => ?_)
      have hw := hw x12 ex12
      refine m_ist C hL dX8_isHopeless_33 (by decide) (fun ls hL hn9 hk9 => ?_)
      have h0 := hk9 0 _ h0 (by decide) (Or.inl (by decide))
      have h1 := hk9 1 _ h1 (by decide) (Or.inl (by decide))
      have h2 := hk9 2 _ h2 (by decide) (Or.inl (by decide))
      have h3 := hk9 3 _ h3 (by decide) (Or.inr (rfl))
      have h4 := hn9
      refine m_aldN C dX8_isHopeless_35 rfl h2 ?_
      refine m_getR C hW ho6 hk7 f_X8_182 rfl dX8_isHopeless_36 ?_
      refine lv_iload_n C.1 C.2.1 dX8_isHopeless_39 rfl h3 ?_
      obtain ⟨b13, ho13, hw⟩ := hw
      obtain ⟨hk14, hw⟩ := hw
      obtain ⟨hi15, hw⟩ := hw
      refine m_iald C hW ho13 hk14 hi15 dX8_isHopeless_40 ?_
      refine lv_i2l (v := (((hI S b13 (l3 : Int32).toNatClampNeg) : Int32).toInt64)) C.1 C.2.1 dX8_isHopeless_41 rfl ?_
      refine m_aldN C dX8_isHopeless_42 rfl h0 ?_
      obtain ⟨hk16, hw⟩ := hw
      refine m_getR C hW rfl hk16 f_X8_15 rfl dX8_isHopeless_43 ?_
      refine lv_iload C.1 C.2.1 dX8_isHopeless_46 h4 ?_
      obtain ⟨b17, ho17, hw⟩ := hw
      obtain ⟨hk18, hw⟩ := hw
      obtain ⟨hi19, hw⟩ := hw
      refine m_lald C hW ho17 hk18 hi19 dX8_isHopeless_48 ?_
      refine m_aldN C dX8_isHopeless_49 rfl h1 ?_
      obtain ⟨hk20, hw⟩ := hw
      refine m_getR C hW rfl hk20 f_X8_172 rfl dX8_isHopeless_50 ?_
      refine lv_iload C.1 C.2.1 dX8_isHopeless_53 h4 ?_
      obtain ⟨b21, ho21, hw⟩ := hw
      obtain ⟨hk22, hw⟩ := hw
      refine m_rI (m_runV (As := [.int x12]) (rest := [.long (hJ S b17 (x12 : Int32).toNatClampNeg), .long (((hI S b13 (l3 : Int32).toNatClampNeg) : Int32).toInt64)]) C hW hS hL (c_X0_amountOf hw) v_X8_204 ⟨rfl, rfl⟩ ⟨Nat.le_of_ble_eq_true rfl, Nat.le_of_ble_eq_true rfl⟩ ho21 hk22 rfl rfl (Nat.le_of_ble_eq_true rfl) dX8_isHopeless_55 ⟨Nat.le_of_ble_eq_true rfl, Nat.le_of_ble_eq_true rfl⟩) hS (fun r24 S23 H locs hw hW hS => ?_)
      refine lv_i2l (v := ((r24 : Int32).toInt64)) C.1 C.2.1 dX8_isHopeless_58 rfl ?_
      refine lv_lsub C.1 C.2.1 dX8_isHopeless_59 ?_
      refine W.lcmp C.1 C.2.1 dX8_isHopeless_60 ?_
      refine lv_if_le (tgt := 66) C.1 C.2.1 dX8_isHopeless_61 (by decide) (fun hc25 => ?_) (fun hc25 => ?_)
      · have hw := hw.1 ((q_le _ _).mp hc25)
        refine m_iinc (v := (l3 + 1)) C hL dX8_isHopeless_66 h3 rfl (by decide) (fun ls hL hn9 hk9 => ?_)
        have h0 := hk9 0 _ h0 (by decide) (Or.inl (by decide))
        have h1 := hk9 1 _ h1 (by decide) (Or.inl (by decide))
        have h2 := hk9 2 _ h2 (by decide) (Or.inr (va_rf_cat _))
        have h3 := hn9
        refine lv_goto (tgt := 19) C.1 C.2.1 dX8_isHopeless_69 (by decide) ?_
        exact ih S23 (l3 + 1) H locs ls hW hS hL h0 h1 h2 h3 hw
      · have hw := hw.2 (fun z => hc25 ((q_le _ _).mpr z))
        refine lv_iconst (v := 1) C.1 C.2.1 dX8_isHopeless_64 (by decide) ?_
        exact m_zret C hW hS (by decide) hw dX8_isHopeless_65
set_option maxRecDepth 100000 in
set_option maxHeartbeats 4000000 in
theorem c_X8_isHopeless {l : Launch} {G : GX} {S : Hp} {a0 : Nat} {a1 : Option Nat} {Q : Int32 → Hp → Prop} (hw : wp_X8_isHopeless S a0 a1 Q) : Met l yX8_isHopeless (Cond.code yX8_isHopeless cX8_isHopeless 5 (some .boolean) :: TS) { frames := 2, cells := 0, slots := 0, locals := 44 } (Pk G S [va_rf (some a0), va_rf a1]) (QI G Q) 0 0 G.2.2.1 := by
  refine m_met (by decide) ?_
  intro p e s m below meth c H locs C hW hS
  have C : Cx p s m ([va_rf (some a0), va_rf a1] : List Value).toArray meth c cX8_isHopeless 5 RX8 (some .boolean) "isHopeless" G := C
  obtain ⟨ls, hent, hL, hla⟩ := m_entry m (vs := [va_rf (some a0), va_rf a1]) (nn := 5) [1, 1] (by simp only [List.map_cons, List.map_nil, va_rf_cat] <;> rfl) (by decide)
  rw [hent]
  have h0 : ls[0]? = some (.val (va_rf (some a0))) := hla (0, va_rf (some a0)) (List.mem_of_getElem? (i := 0) rfl)
  have h1 : ls[1]? = some (.val (va_rf a1)) := hla (1, va_rf a1) (List.mem_of_getElem? (i := 1) rfl)
  clear hla
  generalize ([va_rf (some a0), va_rf a1] : List Value).toArray = args at C ⊢
  unfold wp_X8_isHopeless at hw
  refine m_aldN C dX8_isHopeless_0 rfl h1 ?_
  obtain ⟨b1, ho1, hw⟩ := hw
  obtain ⟨hk2, hw⟩ := hw
  refine m_getR C hW ho1 hk2 f_X8_101 rfl dX8_isHopeless_1 ?_
  obtain ⟨b3, ho3, hw⟩ := hw
  obtain ⟨hk4, hw⟩ := hw
  refine m_getI C hW ho3 hk4 f_X8_93 rfl dX8_isHopeless_4 ?_
  refine lv_if_ne (tgt := 12) C.1 C.2.1 dX8_isHopeless_7 (by decide) (fun hc5 => ?_) (fun hc5 => ?_)
  · have hw := hw.2 hc5
    refine m_aldN C dX8_isHopeless_12 rfl h1 ?_
    refine m_getR C hW ho1 hk2 f_X8_201 rfl dX8_isHopeless_13 ?_
    refine m_astN C hL dX8_isHopeless_16 rfl (by decide) (fun ls hL hn9 hk9 => ?_)
    have h0 := hk9 0 _ h0 (by decide) (Or.inl (by decide))
    have h1 := hk9 1 _ h1 (by decide) (Or.inr (va_rf_cat _))
    have h2 := hn9
    refine lv_iconst (v := 0) C.1 C.2.1 dX8_isHopeless_17 (by decide) ?_
    refine m_istN C hL dX8_isHopeless_18 rfl (by decide) (fun ls hL hn9 hk9 => ?_)
    have h0 := hk9 0 _ h0 (by decide) (Or.inl (by decide))
    have h1 := hk9 1 _ h1 (by decide) (Or.inl (by decide))
    have h2 := hk9 2 _ h2 (by decide) (Or.inr (va_rf_cat _))
    have h3 := hn9
    rw [ho1] at h1
    exact w_X8_isHopeless_L19 C  FU S 0 H locs ls hW hS hL h0 h1 h2 h3 hw
  · have hw := hw.1 hc5
    refine lv_iconst (v := 1) C.1 C.2.1 dX8_isHopeless_10 (by decide) ?_
    exact m_zret C hW hS (by decide) hw dX8_isHopeless_11
def wp_X8_turnAway (S : Hp) (a0 : Nat) (a1 : Option Nat) (Q : Hp → Prop) : Prop := ∃ b1 : Nat, a1 = some b1 ∧ hK S b1 = 6 ∧ ∃ b3 : Nat, (hR S b1 15) = some b3 ∧ hK S b3 = 12 ∧ hK (sI S b3 0 5) a0 = 10 ∧ ∃ b6 : Nat, (hR (sI S b3 0 5) a0 7) = some b6 ∧ hK (sI S b3 0 5) b6 = 5 ∧ wp_X3_put (sI S b3 0 5) b6 (hI (sI S b3 0 5) a0 10) 6 (hI (sI S b3 0 5) b1 0) (fun S8 => Q S8)
set_option maxRecDepth 100000 in
set_option maxHeartbeats 4000000 in
theorem c_X8_turnAway {l : Launch} {G : GX} {S : Hp} {a0 : Nat} {a1 : Option Nat} {Q : Hp → Prop} (hw : wp_X8_turnAway S a0 a1 Q) : Met l yX8_turnAway (Cond.code yX8_turnAway cX8_turnAway 2 none :: TS) { frames := 1, cells := 0, slots := 0, locals := 26 } (Pk G S [va_rf (some a0), va_rf a1]) (QV G Q) 0 0 G.2.2.1 := by
  refine m_met (by decide) ?_
  intro p e s m below meth c H locs C hW hS
  have C : Cx p s m ([va_rf (some a0), va_rf a1] : List Value).toArray meth c cX8_turnAway 2 RX8 none "turnAway" G := C
  obtain ⟨ls, hent, hL, hla⟩ := m_entry m (vs := [va_rf (some a0), va_rf a1]) (nn := 2) [1, 1] (by simp only [List.map_cons, List.map_nil, va_rf_cat] <;> rfl) (by decide)
  rw [hent]
  have h0 : ls[0]? = some (.val (va_rf (some a0))) := hla (0, va_rf (some a0)) (List.mem_of_getElem? (i := 0) rfl)
  have h1 : ls[1]? = some (.val (va_rf a1)) := hla (1, va_rf a1) (List.mem_of_getElem? (i := 1) rfl)
  clear hla
  generalize ([va_rf (some a0), va_rf a1] : List Value).toArray = args at C ⊢
  unfold wp_X8_turnAway at hw
  refine m_aldN C dX8_turnAway_0 rfl h1 ?_
  obtain ⟨b1, ho1, hw⟩ := hw
  obtain ⟨hk2, hw⟩ := hw
  refine m_getR C hW ho1 hk2 f_X8_70 rfl dX8_turnAway_1 ?_
  refine lv_iconst (v := 5) C.1 C.2.1 dX8_turnAway_4 (by decide) ?_
  obtain ⟨b3, ho3, hw⟩ := hw
  obtain ⟨hk4, hw⟩ := hw
  refine m_putI C hW hS ho3 hk4 p_X8_74 (fun z => by cases z) rfl dX8_turnAway_5 (fun H locs hW hS => ?_)
  refine m_aldN C dX8_turnAway_8 rfl h0 ?_
  obtain ⟨hk5, hw⟩ := hw
  refine m_getR C hW rfl hk5 f_X8_41 rfl dX8_turnAway_9 ?_
  refine m_aldN C dX8_turnAway_12 rfl h0 ?_
  refine m_getI C hW rfl hk5 f_X8_112 rfl dX8_turnAway_13 ?_
  refine lv_bipush (v := 6) C.1 C.2.1 dX8_turnAway_16 (by decide) ?_
  refine m_aldN C dX8_turnAway_18 rfl h1 ?_
  refine m_getI C hW ho1 hk2 f_X8_208 rfl dX8_turnAway_19 ?_
  obtain ⟨b6, ho6, hw⟩ := hw
  obtain ⟨hk7, hw⟩ := hw
  refine m_rV (m_runV (As := [.int (hI (sI S b3 0 5) a0 10), .int 6, .int (hI (sI S b3 0 5) b1 0)]) (rest := []) C hW hS hL (c_X3_put hw) v_X8_211 ⟨rfl, rfl⟩ ⟨Nat.le_of_ble_eq_true rfl, Nat.le_of_ble_eq_true rfl⟩ ho6 hk7 rfl rfl (Nat.le_of_ble_eq_true rfl) dX8_turnAway_22 ⟨Nat.le_of_ble_eq_true rfl, Nat.le_of_ble_eq_true rfl⟩) hS (fun S8 H locs hw hW hS => ?_)
  exact m_vret C hW hS hw dX8_turnAway_25
def wp_X8_turnAwayHopeless_L2 (l0 : Nat) (K43 : Hp → Prop) (Q : Hp → Prop) : Nat → Hp → Int32 → Prop
  | 0, _, _ => False
  | n + 1, S, l1 => hK S l0 = 10 ∧ ∃ b2 : Nat, (hR S l0 0) = some b2 ∧ hK S b2 = 11 ∧ ((hI S b2 7) ≤ l1 → K43 S) ∧ (¬ ((hI S b2 7) ≤ l1) → ∃ b5 : Nat, (hR S b2 5) = some b5 ∧ hK S b5 = 19 ∧ vp_in l1 (hN S b5) ∧ wp_X8_isHopeless S l0 (hR S b5 (l1 : Int32).toNatClampNeg) (fun r9 S8 => (r9 = 0 → wp_X8_turnAwayHopeless_L2 l0 K43 Q n S8 (l1 + 1)) ∧ (¬ (r9 = 0) → hK S8 l0 = 10 ∧ ∃ b12 : Nat, (hR S8 l0 6) = some b12 ∧ hK S8 b12 = 7 ∧ wp_X5_add S8 b12 l1 (fun S14 => wp_X8_turnAwayHopeless_L2 l0 K43 Q n S14 (l1 + 1)))))
def wp_X8_turnAwayHopeless_L45 (l0 : Nat) (Q : Hp → Prop) : Nat → Hp → Int32 → Prop
  | 0, _, _ => False
  | n + 1, S, l1 => hK S l0 = 10 ∧ ∃ b17 : Nat, (hR S l0 0) = some b17 ∧ hK S b17 = 11 ∧ ((hI S b17 7) ≤ l1 → wp_X8_forgetMarks S l0 (fun S20 => Q S20)) ∧ (¬ ((hI S b17 7) ≤ l1) → ∃ b21 : Nat, (hR S b17 5) = some b21 ∧ hK S b21 = 19 ∧ vp_in l1 (hN S b21) ∧ ∃ b24 : Nat, (hR S l0 6) = some b24 ∧ hK S b24 = 7 ∧ wp_X5_has S b24 l1 (fun r27 S26 => (r27 = 0 → ∃ b31 : Nat, (hR S b21 (l1 : Int32).toNatClampNeg) = some b31 ∧ hK S26 b31 = 6 ∧ hK S26 l0 = 10 ∧ ∃ b34 : Nat, (hR S26 b31 6) = some b34 ∧ hK S26 b34 = 7 ∧ wp_X5_meets S26 b34 (hR S26 l0 6) (fun r37 S36 => (r37 = 0 → wp_X8_turnAwayHopeless_L45 l0 Q n S36 (l1 + 1)) ∧ (¬ (r37 = 0) → hK S36 l0 = 10 ∧ wp_X8_turnAway S36 l0 (hR S b21 (l1 : Int32).toNatClampNeg) (fun S40 => wp_X8_turnAwayHopeless_L45 l0 Q n S40 (l1 + 1))))) ∧ (¬ (r27 = 0) → hK S26 l0 = 10 ∧ wp_X8_turnAway S26 l0 (hR S b21 (l1 : Int32).toNatClampNeg) (fun S30 => wp_X8_turnAwayHopeless_L45 l0 Q n S30 (l1 + 1)))))
def wp_X8_turnAwayHopeless (S : Hp) (a0 : Nat) (Q : Hp → Prop) : Prop := wp_X8_turnAwayHopeless_L2 a0 (fun (S15 : Hp) => wp_X8_turnAwayHopeless_L45 a0 Q FU S15 0) Q FU S 0
set_option maxRecDepth 100000 in
set_option maxHeartbeats 4000000 in
theorem w_X8_turnAwayHopeless_L2 {p : Program} {l : Launch} {e : Env} {s : State} {m : MethodId} {args : Array Value} {below : List Frame} {meth : Method} {c : Code} {G : GX} {Q : Hp → Prop} {K43 : Hp → Prop} {l0 : Nat} (C : Cx p s m args meth c cX8_turnAwayHopeless 3 RX8 none "turnAwayHopeless" G)
    (k43 : ∀ (S : Hp) (H : Heap) (locs : List Loc) (ls : Array Slot), wd G S H → va_S G.2.2.1 s.heap H locs → LV ls 3 → ls[0]? = some (.val (va_rf (some l0))) → K43 S → W p l e ({ frames := 3, cells := 0, slots := 0, locals := 68 } : Room) s m args below meth c H locs 0 0 (MQ below (QV G Q) args s 0 0 G.2.2.1) (F0 m 43 ls [])) :
    ∀ (n : Nat) (S : Hp) (l1 : Int32) (H : Heap) (locs : List Loc) (ls : Array Slot), wd G S H → va_S G.2.2.1 s.heap H locs → LV ls 3 → ls[0]? = some (.val (va_rf (some l0))) → ls[1]? = some (.val (.int l1)) → wp_X8_turnAwayHopeless_L2 l0 K43 Q n S l1 → W p l e ({ frames := 3, cells := 0, slots := 0, locals := 68 } : Room) s m args below meth c H locs 0 0 (MQ below (QV G Q) args s 0 0 G.2.2.1) (F0 m 2 ls []) := by
  intro n
  induction n with
  | zero =>
    intro S l1 H locs ls hW hS hL h0 h1 hw
    exact False.elim hw
  | succ n ih =>
    intro S l1 H locs ls hW hS hL h0 h1 hw
    unfold wp_X8_turnAwayHopeless_L2 at hw
    refine lv_iload_n C.1 C.2.1 dX8_turnAwayHopeless_2 rfl h1 ?_
    refine m_aldN C dX8_turnAwayHopeless_3 rfl h0 ?_
    obtain ⟨hk1, hw⟩ := hw
    refine m_getR C hW rfl hk1 f_X8_45 rfl dX8_turnAwayHopeless_4 ?_
    obtain ⟨b2, ho2, hw⟩ := hw
    obtain ⟨hk3, hw⟩ := hw
    refine m_getI C hW ho2 hk3 f_X8_79 rfl dX8_turnAwayHopeless_7 ?_
    refine lv_icmp_ge (tgt := 43) C.1 C.2.1 dX8_turnAwayHopeless_10 (by decide) (fun hc4 => ?_) (fun hc4 => ?_)
    · have hw := hw.1 hc4
      exact k43 S H locs ls hW hS hL h0 hw
    · have hw := hw.2 hc4
      refine m_aldN C dX8_turnAwayHopeless_13 rfl h0 ?_
      refine m_aldN C dX8_turnAwayHopeless_14 rfl h0 ?_
      refine m_getR C hW rfl hk1 f_X8_45 rfl dX8_turnAwayHopeless_15 ?_
      refine m_getR C hW ho2 hk3 f_X8_84 rfl dX8_turnAwayHopeless_18 ?_
      refine lv_iload_n C.1 C.2.1 dX8_turnAwayHopeless_21 rfl h1 ?_
      obtain ⟨b5, ho5, hw⟩ := hw
      obtain ⟨hk6, hw⟩ := hw
      obtain ⟨hi7, hw⟩ := hw
      refine m_aald C hW ho5 hk6 (by decide) (by decide) hi7 dX8_turnAwayHopeless_22 ?_
      refine m_rI (m_runV (As := [va_rf (hR S b5 (l1 : Int32).toNatClampNeg)]) (rest := []) C hW hS hL (c_X8_isHopeless hw) v_X8_185 ⟨rfl, rfl⟩ ⟨Nat.le_of_ble_eq_true rfl, Nat.le_of_ble_eq_true rfl⟩ rfl hk1 rfl rfl (Nat.le_of_ble_eq_true rfl) dX8_turnAwayHopeless_23 ⟨Nat.le_of_ble_eq_true rfl, Nat.le_of_ble_eq_true rfl⟩) hS (fun r9 S8 H locs hw hW hS => ?_)
      refine lv_if_eq (tgt := 37) C.1 C.2.1 dX8_turnAwayHopeless_26 (by decide) (fun hc10 => ?_) (fun hc10 => ?_)
      · have hw := hw.1 hc10
        refine m_iinc (v := (l1 + 1)) C hL dX8_turnAwayHopeless_37 h1 rfl (by decide) (fun ls hL hn9 hk9 => ?_)
        have h0 := hk9 0 _ h0 (by decide) (Or.inr (va_rf_cat _))
        have h1 := hn9
        refine lv_goto (tgt := 2) C.1 C.2.1 dX8_turnAwayHopeless_40 (by decide) ?_
        exact ih S8 (l1 + 1) H locs ls hW hS hL h0 h1 hw
      · have hw := hw.2 hc10
        refine m_aldN C dX8_turnAwayHopeless_29 rfl h0 ?_
        obtain ⟨hk11, hw⟩ := hw
        refine m_getR C hW rfl hk11 f_X8_34 rfl dX8_turnAwayHopeless_30 ?_
        refine lv_iload_n C.1 C.2.1 dX8_turnAwayHopeless_33 rfl h1 ?_
        obtain ⟨b12, ho12, hw⟩ := hw
        obtain ⟨hk13, hw⟩ := hw
        refine m_rV (m_runV (As := [.int l1]) (rest := []) C hW hS hL (c_X5_add hw) v_X8_189 ⟨rfl, rfl⟩ ⟨Nat.le_of_ble_eq_true rfl, Nat.le_of_ble_eq_true rfl⟩ ho12 hk13 rfl rfl (Nat.le_of_ble_eq_true rfl) dX8_turnAwayHopeless_34 ⟨Nat.le_of_ble_eq_true rfl, Nat.le_of_ble_eq_true rfl⟩) hS (fun S14 H locs hw hW hS => ?_)
        refine m_iinc (v := (l1 + 1)) C hL dX8_turnAwayHopeless_37 h1 rfl (by decide) (fun ls hL hn9 hk9 => ?_)
        have h0 := hk9 0 _ h0 (by decide) (Or.inr (va_rf_cat _))
        have h1 := hn9
        refine lv_goto (tgt := 2) C.1 C.2.1 dX8_turnAwayHopeless_40 (by decide) ?_
        exact ih S14 (l1 + 1) H locs ls hW hS hL h0 h1 hw
set_option maxRecDepth 100000 in
set_option maxHeartbeats 4000000 in
theorem w_X8_turnAwayHopeless_L45 {p : Program} {l : Launch} {e : Env} {s : State} {m : MethodId} {args : Array Value} {below : List Frame} {meth : Method} {c : Code} {G : GX} {Q : Hp → Prop} {l0 : Nat} (C : Cx p s m args meth c cX8_turnAwayHopeless 3 RX8 none "turnAwayHopeless" G) :
    ∀ (n : Nat) (S : Hp) (l1 : Int32) (H : Heap) (locs : List Loc) (ls : Array Slot), wd G S H → va_S G.2.2.1 s.heap H locs → LV ls 3 → ls[0]? = some (.val (va_rf (some l0))) → ls[1]? = some (.val (.int l1)) → wp_X8_turnAwayHopeless_L45 l0 Q n S l1 → W p l e ({ frames := 3, cells := 0, slots := 0, locals := 68 } : Room) s m args below meth c H locs 0 0 (MQ below (QV G Q) args s 0 0 G.2.2.1) (F0 m 45 ls []) := by
  intro n
  induction n with
  | zero =>
    intro S l1 H locs ls hW hS hL h0 h1 hw
    exact False.elim hw
  | succ n ih =>
    intro S l1 H locs ls hW hS hL h0 h1 hw
    unfold wp_X8_turnAwayHopeless_L45 at hw
    refine lv_iload_n C.1 C.2.1 dX8_turnAwayHopeless_45 rfl h1 ?_
    refine m_aldN C dX8_turnAwayHopeless_46 rfl h0 ?_
    obtain ⟨hk16, hw⟩ := hw
    refine m_getR C hW rfl hk16 f_X8_45 rfl dX8_turnAwayHopeless_47 ?_
    obtain ⟨b17, ho17, hw⟩ := hw
    obtain ⟨hk18, hw⟩ := hw
    refine m_getI C hW ho17 hk18 f_X8_79 rfl dX8_turnAwayHopeless_50 ?_
    refine lv_icmp_ge (tgt := 102) C.1 C.2.1 dX8_turnAwayHopeless_53 (by decide) (fun hc19 => ?_) (fun hc19 => ?_)
    · have hw := hw.1 hc19
      refine m_aldN C dX8_turnAwayHopeless_102 rfl h0 ?_
      refine m_rV (m_runV (As := []) (rest := []) C hW hS hL (c_X8_forgetMarks hw) v_X8_131 ⟨rfl, rfl⟩ ⟨Nat.le_of_ble_eq_true rfl, Nat.le_of_ble_eq_true rfl⟩ rfl hk16 rfl rfl (Nat.le_of_ble_eq_true rfl) dX8_turnAwayHopeless_103 ⟨Nat.le_of_ble_eq_true rfl, Nat.le_of_ble_eq_true rfl⟩) hS (fun S20 H locs hw hW hS => ?_)
      exact m_vret C hW hS hw dX8_turnAwayHopeless_106
    · have hw := hw.2 hc19
      refine m_aldN C dX8_turnAwayHopeless_56 rfl h0 ?_
      refine m_getR C hW rfl hk16 f_X8_45 rfl dX8_turnAwayHopeless_57 ?_
      refine m_getR C hW ho17 hk18 f_X8_84 rfl dX8_turnAwayHopeless_60 ?_
      refine lv_iload_n C.1 C.2.1 dX8_turnAwayHopeless_63 rfl h1 ?_
      obtain ⟨b21, ho21, hw⟩ := hw
      obtain ⟨hk22, hw⟩ := hw
      obtain ⟨hi23, hw⟩ := hw
      refine m_aald C hW ho21 hk22 (by decide) (by decide) hi23 dX8_turnAwayHopeless_64 ?_
      refine m_astN C hL dX8_turnAwayHopeless_65 rfl (by decide) (fun ls hL hn9 hk9 => ?_)
      have h0 := hk9 0 _ h0 (by decide) (Or.inl (by decide))
      have h1 := hk9 1 _ h1 (by decide) (Or.inr (rfl))
      have h2 := hn9
      refine m_aldN C dX8_turnAwayHopeless_66 rfl h0 ?_
      refine m_getR C hW rfl hk16 f_X8_34 rfl dX8_turnAwayHopeless_67 ?_
      refine lv_iload_n C.1 C.2.1 dX8_turnAwayHopeless_70 rfl h1 ?_
      obtain ⟨b24, ho24, hw⟩ := hw
      obtain ⟨hk25, hw⟩ := hw
      refine m_rI (m_runV (As := [.int l1]) (rest := []) C hW hS hL (c_X5_has hw) v_X8_90 ⟨rfl, rfl⟩ ⟨Nat.le_of_ble_eq_true rfl, Nat.le_of_ble_eq_true rfl⟩ ho24 hk25 rfl rfl (Nat.le_of_ble_eq_true rfl) dX8_turnAwayHopeless_71 ⟨Nat.le_of_ble_eq_true rfl, Nat.le_of_ble_eq_true rfl⟩) hS (fun r27 S26 H locs hw hW hS => ?_)
      refine lv_if_ne (tgt := 91) C.1 C.2.1 dX8_turnAwayHopeless_74 (by decide) (fun hc28 => ?_) (fun hc28 => ?_)
      · have hw := hw.2 hc28
        refine m_aldN C dX8_turnAwayHopeless_91 rfl h0 ?_
        refine m_aldN C dX8_turnAwayHopeless_92 rfl h2 ?_
        obtain ⟨hk29, hw⟩ := hw
        refine m_rV (m_runV (As := [va_rf (hR S b21 (l1 : Int32).toNatClampNeg)]) (rest := []) C hW hS hL (c_X8_turnAway hw) v_X8_197 ⟨rfl, rfl⟩ ⟨Nat.le_of_ble_eq_true rfl, Nat.le_of_ble_eq_true rfl⟩ rfl hk29 rfl rfl (Nat.le_of_ble_eq_true rfl) dX8_turnAwayHopeless_93 ⟨Nat.le_of_ble_eq_true rfl, Nat.le_of_ble_eq_true rfl⟩) hS (fun S30 H locs hw hW hS => ?_)
        refine m_iinc (v := (l1 + 1)) C hL dX8_turnAwayHopeless_96 h1 rfl (by decide) (fun ls hL hn9 hk9 => ?_)
        have h0 := hk9 0 _ h0 (by decide) (Or.inr (va_rf_cat _))
        have h1 := hn9
        refine lv_goto (tgt := 45) C.1 C.2.1 dX8_turnAwayHopeless_99 (by decide) ?_
        exact ih S30 (l1 + 1) H locs ls hW hS hL h0 h1 hw
      · have hw := hw.1 hc28
        refine m_aldN C dX8_turnAwayHopeless_77 rfl h2 ?_
        obtain ⟨b31, ho31, hw⟩ := hw
        obtain ⟨hk32, hw⟩ := hw
        refine m_getR C hW ho31 hk32 f_X8_87 rfl dX8_turnAwayHopeless_78 ?_
        refine m_aldN C dX8_turnAwayHopeless_81 rfl h0 ?_
        obtain ⟨hk33, hw⟩ := hw
        refine m_getR C hW rfl hk33 f_X8_34 rfl dX8_turnAwayHopeless_82 ?_
        obtain ⟨b34, ho34, hw⟩ := hw
        obtain ⟨hk35, hw⟩ := hw
        refine m_rI (m_runV (As := [va_rf (hR S26 l0 6)]) (rest := []) C hW hS hL (c_X5_meets hw) v_X8_193 ⟨rfl, rfl⟩ ⟨Nat.le_of_ble_eq_true rfl, Nat.le_of_ble_eq_true rfl⟩ ho34 hk35 rfl rfl (Nat.le_of_ble_eq_true rfl) dX8_turnAwayHopeless_85 ⟨Nat.le_of_ble_eq_true rfl, Nat.le_of_ble_eq_true rfl⟩) hS (fun r37 S36 H locs hw hW hS => ?_)
        refine lv_if_eq (tgt := 96) C.1 C.2.1 dX8_turnAwayHopeless_88 (by decide) (fun hc38 => ?_) (fun hc38 => ?_)
        · have hw := hw.1 hc38
          refine m_iinc (v := (l1 + 1)) C hL dX8_turnAwayHopeless_96 h1 rfl (by decide) (fun ls hL hn9 hk9 => ?_)
          have h0 := hk9 0 _ h0 (by decide) (Or.inr (va_rf_cat _))
          have h1 := hn9
          refine lv_goto (tgt := 45) C.1 C.2.1 dX8_turnAwayHopeless_99 (by decide) ?_
          exact ih S36 (l1 + 1) H locs ls hW hS hL h0 h1 hw
        · have hw := hw.2 hc38
          refine m_aldN C dX8_turnAwayHopeless_91 rfl h0 ?_
          refine m_aldN C dX8_turnAwayHopeless_92 rfl h2 ?_
          obtain ⟨hk39, hw⟩ := hw
          refine m_rV (m_runV (As := [va_rf (hR S b21 (l1 : Int32).toNatClampNeg)]) (rest := []) C hW hS hL (c_X8_turnAway hw) v_X8_197 ⟨rfl, rfl⟩ ⟨Nat.le_of_ble_eq_true rfl, Nat.le_of_ble_eq_true rfl⟩ rfl hk39 rfl rfl (Nat.le_of_ble_eq_true rfl) dX8_turnAwayHopeless_93 ⟨Nat.le_of_ble_eq_true rfl, Nat.le_of_ble_eq_true rfl⟩) hS (fun S40 H locs hw hW hS => ?_)
          refine m_iinc (v := (l1 + 1)) C hL dX8_turnAwayHopeless_96 h1 rfl (by decide) (fun ls hL hn9 hk9 => ?_)
          have h0 := hk9 0 _ h0 (by decide) (Or.inr (va_rf_cat _))
          have h1 := hn9
          refine lv_goto (tgt := 45) C.1 C.2.1 dX8_turnAwayHopeless_99 (by decide) ?_
          exact ih S40 (l1 + 1) H locs ls hW hS hL h0 h1 hw
set_option maxRecDepth 100000 in
set_option maxHeartbeats 4000000 in
theorem c_X8_turnAwayHopeless {l : Launch} {G : GX} {S : Hp} {a0 : Nat} {Q : Hp → Prop} (hw : wp_X8_turnAwayHopeless S a0 Q) : Met l yX8_turnAwayHopeless (Cond.code yX8_turnAwayHopeless cX8_turnAwayHopeless 3 none :: TS) { frames := 3, cells := 0, slots := 0, locals := 68 } (Pk G S [va_rf (some a0)]) (QV G Q) 0 0 G.2.2.1 := by
  refine m_met (by decide) ?_
  intro p e s m below meth c H locs C hW hS
  have C : Cx p s m ([va_rf (some a0)] : List Value).toArray meth c cX8_turnAwayHopeless 3 RX8 none "turnAwayHopeless" G := C
  obtain ⟨ls, hent, hL, hla⟩ := m_entry m (vs := [va_rf (some a0)]) (nn := 3) [1] rfl (by decide)
  rw [hent]
  have h0 : ls[0]? = some (.val (va_rf (some a0))) := hla (0, va_rf (some a0)) (List.mem_of_getElem? (i := 0) rfl)
  clear hla
  generalize ([va_rf (some a0)] : List Value).toArray = args at C ⊢
  unfold wp_X8_turnAwayHopeless at hw
  refine lv_iconst (v := 0) C.1 C.2.1 dX8_turnAwayHopeless_0 (by decide) ?_
  refine m_istN C hL dX8_turnAwayHopeless_1 rfl (by decide) (fun ls hL hn9 hk9 => ?_)
  have h0 := hk9 0 _ h0 (by decide) (Or.inr (va_rf_cat _))
  have h1 := hn9
  refine w_X8_turnAwayHopeless_L2 C ?_ FU S 0 H locs ls hW hS hL h0 h1 hw
  · intro S15 H locs ls hW hS hL h0 hw
    refine lv_iconst (v := 0) C.1 C.2.1 dX8_turnAwayHopeless_43 (by decide) ?_
    refine m_istN C hL dX8_turnAwayHopeless_44 rfl (by decide) (fun ls hL hn9 hk9 => ?_)
    have h0 := hk9 0 _ h0 (by decide) (Or.inr (va_rf_cat _))
    have h1 := hn9
    exact w_X8_turnAwayHopeless_L45 C  FU S15 0 H locs ls hW hS hL h0 h1 hw
def wp_X8_leave (S : Hp) (a0 : Nat) (a1 : Option Nat) (a2 : Int32) (a3 : Int32) (Q : Hp → Prop) : Prop := ∃ b1 : Nat, a1 = some b1 ∧ hK S b1 = 6 ∧ ∃ b3 : Nat, (hR S b1 15) = some b3 ∧ hK S b3 = 12 ∧ hK (sI S b3 0 a2) a0 = 10 ∧ ∃ J7 : Hp → Prop, J7 = (fun (S12 : Hp) => hK S12 b1 = 6 ∧ ∃ b14 : Nat, (hR S12 b1 1) = some b14 ∧ hK S12 b14 = 4 ∧ hK (sI S12 b14 3 ((hI S12 b14 3) + 1)) a0 = 10 ∧ ∃ b17 : Nat, (hR (sI (sI (sJ (sI S12 b14 3 ((hI S12 b14 3) + 1)) a0 17 ((hJ (sI S12 b14 3 ((hI S12 b14 3) + 1)) a0 17) &&& ((hJ (sI S12 b14 3 ((hI S12 b14 3) + 1)) b1 7) ^^^ (-1)))) a0 15 ((hI (sJ (sI S12 b14 3 ((hI S12 b14 3) + 1)) a0 17 ((hJ (sI S12 b14 3 ((hI S12 b14 3) + 1)) a0 17) &&& ((hJ (sI S12 b14 3 ((hI S12 b14 3) + 1)) b1 7) ^^^ (-1)))) a0 15) - 1)) a0 13 (hI (sI (sJ (sI S12 b14 3 ((hI S12 b14 3) + 1)) a0 17 ((hJ (sI S12 b14 3 ((hI S12 b14 3) + 1)) a0 17) &&& ((hJ (sI S12 b14 3 ((hI S12 b14 3) + 1)) b1 7) ^^^ (-1)))) a0 15 ((hI (sJ (sI S12 b14 3 ((hI S12 b14 3) + 1)) a0 17 ((hJ (sI S12 b14 3 ((hI S12 b14 3) + 1)) a0 17) &&& ((hJ (sI S12 b14 3 ((hI S12 b14 3) + 1)) b1 7) ^^^ (-1)))) a0 15) - 1)) a0 10)) a0 7) = some b17 ∧ hK (sI (sI (sJ (sI S12 b14 3 ((hI S12 b14 3) + 1)) a0 17 ((hJ (sI S12 b14 3 ((hI S12 b14 3) + 1)) a0 17) &&& ((hJ (sI S12 b14 3 ((hI S12 b14 3) + 1)) b1 7) ^^^ (-1)))) a0 15 ((hI (sJ (sI S12 b14 3 ((hI S12 b14 3) + 1)) a0 17 ((hJ (sI S12 b14 3 ((hI S12 b14 3) + 1)) a0 17) &&& ((hJ (sI S12 b14 3 ((hI S12 b14 3) + 1)) b1 7) ^^^ (-1)))) a0 15) - 1)) a0 13 (hI (sI (sJ (sI S12 b14 3 ((hI S12 b14 3) + 1)) a0 17 ((hJ (sI S12 b14 3 ((hI S12 b14 3) + 1)) a0 17) &&& ((hJ (sI S12 b14 3 ((hI S12 b14 3) + 1)) b1 7) ^^^ (-1)))) a0 15 ((hI (sJ (sI S12 b14 3 ((hI S12 b14 3) + 1)) a0 17 ((hJ (sI S12 b14 3 ((hI S12 b14 3) + 1)) a0 17) &&& ((hJ (sI S12 b14 3 ((hI S12 b14 3) + 1)) b1 7) ^^^ (-1)))) a0 15) - 1)) a0 10)) b17 = 5 ∧ wp_X3_put (sI (sI (sJ (sI S12 b14 3 ((hI S12 b14 3) + 1)) a0 17 ((hJ (sI S12 b14 3 ((hI S12 b14 3) + 1)) a0 17) &&& ((hJ (sI S12 b14 3 ((hI S12 b14 3) + 1)) b1 7) ^^^ (-1)))) a0 15 ((hI (sJ (sI S12 b14 3 ((hI S12 b14 3) + 1)) a0 17 ((hJ (sI S12 b14 3 ((hI S12 b14 3) + 1)) a0 17) &&& ((hJ (sI S12 b14 3 ((hI S12 b14 3) + 1)) b1 7) ^^^ (-1)))) a0 15) - 1)) a0 13 (hI (sI (sJ (sI S12 b14 3 ((hI S12 b14 3) + 1)) a0 17 ((hJ (sI S12 b14 3 ((hI S12 b14 3) + 1)) a0 17) &&& ((hJ (sI S12 b14 3 ((hI S12 b14 3) + 1)) b1 7) ^^^ (-1)))) a0 15 ((hI (sJ (sI S12 b14 3 ((hI S12 b14 3) + 1)) a0 17 ((hJ (sI S12 b14 3 ((hI S12 b14 3) + 1)) a0 17) &&& ((hJ (sI S12 b14 3 ((hI S12 b14 3) + 1)) b1 7) ^^^ (-1)))) a0 15) - 1)) a0 10)) b17 (hI (sI (sI (sJ (sI S12 b14 3 ((hI S12 b14 3) + 1)) a0 17 ((hJ (sI S12 b14 3 ((hI S12 b14 3) + 1)) a0 17) &&& ((hJ (sI S12 b14 3 ((hI S12 b14 3) + 1)) b1 7) ^^^ (-1)))) a0 15 ((hI (sJ (sI S12 b14 3 ((hI S12 b14 3) + 1)) a0 17 ((hJ (sI S12 b14 3 ((hI S12 b14 3) + 1)) a0 17) &&& ((hJ (sI S12 b14 3 ((hI S12 b14 3) + 1)) b1 7) ^^^ (-1)))) a0 15) - 1)) a0 13 (hI (sI (sJ (sI S12 b14 3 ((hI S12 b14 3) + 1)) a0 17 ((hJ (sI S12 b14 3 ((hI S12 b14 3) + 1)) a0 17) &&& ((hJ (sI S12 b14 3 ((hI S12 b14 3) + 1)) b1 7) ^^^ (-1)))) a0 15 ((hI (sJ (sI S12 b14 3 ((hI S12 b14 3) + 1)) a0 17 ((hJ (sI S12 b14 3 ((hI S12 b14 3) + 1)) a0 17) &&& ((hJ (sI S12 b14 3 ((hI S12 b14 3) + 1)) b1 7) ^^^ (-1)))) a0 15) - 1)) a0 10)) a0 10) a3 (hI (sI (sI (sJ (sI S12 b14 3 ((hI S12 b14 3) + 1)) a0 17 ((hJ (sI S12 b14 3 ((hI S12 b14 3) + 1)) a0 17) &&& ((hJ (sI S12 b14 3 ((hI S12 b14 3) + 1)) b1 7) ^^^ (-1)))) a0 15 ((hI (sJ (sI S12 b14 3 ((hI S12 b14 3) + 1)) a0 17 ((hJ (sI S12 b14 3 ((hI S12 b14 3) + 1)) a0 17) &&& ((hJ (sI S12 b14 3 ((hI S12 b14 3) + 1)) b1 7) ^^^ (-1)))) a0 15) - 1)) a0 13 (hI (sI (sJ (sI S12 b14 3 ((hI S12 b14 3) + 1)) a0 17 ((hJ (sI S12 b14 3 ((hI S12 b14 3) + 1)) a0 17) &&& ((hJ (sI S12 b14 3 ((hI S12 b14 3) + 1)) b1 7) ^^^ (-1)))) a0 15 ((hI (sJ (sI S12 b14 3 ((hI S12 b14 3) + 1)) a0 17 ((hJ (sI S12 b14 3 ((hI S12 b14 3) + 1)) a0 17) &&& ((hJ (sI S12 b14 3 ((hI S12 b14 3) + 1)) b1 7) ^^^ (-1)))) a0 15) - 1)) a0 10)) b1 0) (fun S19 => Q S19)) ∧ ((hI (sI (sI (sI S b3 0 a2) b3 2 (hI (sI S b3 0 a2) a0 10)) b3 4 ((hI (sI (sI S b3 0 a2) b3 2 (hI (sI S b3 0 a2) a0 10)) a0 10) - (hI (sI (sI S b3 0 a2) b3 2 (hI (sI S b3 0 a2) a0 10)) b3 1))) b3 3) < 0 → J7 (sI (sI (sI S b3 0 a2) b3 2 (hI (sI S b3 0 a2) a0 10)) b3 4 ((hI (sI (sI S b3 0 a2) b3 2 (hI (sI S b3 0 a2) a0 10)) a0 10) - (hI (sI (sI S b3 0 a2) b3 2 (hI (sI S b3 0 a2) a0 10)) b3 1)))) ∧ (¬ ((hI (sI (sI (sI S b3 0 a2) b3 2 (hI (sI S b3 0 a2) a0 10)) b3 4 ((hI (sI (sI S b3 0 a2) b3 2 (hI (sI S b3 0 a2) a0 10)) a0 10) - (hI (sI (sI S b3 0 a2) b3 2 (hI (sI S b3 0 a2) a0 10)) b3 1))) b3 3) < 0) → (32 ≤ (hI (sI (sI (sI S b3 0 a2) b3 2 (hI (sI S b3 0 a2) a0 10)) b3 4 ((hI (sI (sI S b3 0 a2) b3 2 (hI (sI S b3 0 a2) a0 10)) a0 10) - (hI (sI (sI S b3 0 a2) b3 2 (hI (sI S b3 0 a2) a0 10)) b3 1))) b3 3) → J7 (sI (sI (sI S b3 0 a2) b3 2 (hI (sI S b3 0 a2) a0 10)) b3 4 ((hI (sI (sI S b3 0 a2) b3 2 (hI (sI S b3 0 a2) a0 10)) a0 10) - (hI (sI (sI S b3 0 a2) b3 2 (hI (sI S b3 0 a2) a0 10)) b3 1)))) ∧ (¬ (32 ≤ (hI (sI (sI (sI S b3 0 a2) b3 2 (hI (sI S b3 0 a2) a0 10)) b3 4 ((hI (sI (sI S b3 0 a2) b3 2 (hI (sI S b3 0 a2) a0 10)) a0 10) - (hI (sI (sI S b3 0 a2) b3 2 (hI (sI S b3 0 a2) a0 10)) b3 1))) b3 3)) → ∃ b9 : Nat, (hR (sI (sI (sI S b3 0 a2) b3 2 (hI (sI S b3 0 a2) a0 10)) b3 4 ((hI (sI (sI S b3 0 a2) b3 2 (hI (sI S b3 0 a2) a0 10)) a0 10) - (hI (sI (sI S b3 0 a2) b3 2 (hI (sI S b3 0 a2) a0 10)) b3 1))) a0 4) = some b9 ∧ hK (sI (sI (sI S b3 0 a2) b3 2 (hI (sI S b3 0 a2) a0 10)) b3 4 ((hI (sI (sI S b3 0 a2) b3 2 (hI (sI S b3 0 a2) a0 10)) a0 10) - (hI (sI (sI S b3 0 a2) b3 2 (hI (sI S b3 0 a2) a0 10)) b3 1))) b9 = 19 ∧ vp_in (hI (sI (sI (sI S b3 0 a2) b3 2 (hI (sI S b3 0 a2) a0 10)) b3 4 ((hI (sI (sI S b3 0 a2) b3 2 (hI (sI S b3 0 a2) a0 10)) a0 10) - (hI (sI (sI S b3 0 a2) b3 2 (hI (sI S b3 0 a2) a0 10)) b3 1))) b3 3) (hN (sI (sI (sI S b3 0 a2) b3 2 (hI (sI S b3 0 a2) a0 10)) b3 4 ((hI (sI (sI S b3 0 a2) b3 2 (hI (sI S b3 0 a2) a0 10)) a0 10) - (hI (sI (sI S b3 0 a2) b3 2 (hI (sI S b3 0 a2) a0 10)) b3 1))) b9) ∧ J7 (sR (sI (sI (sI S b3 0 a2) b3 2 (hI (sI S b3 0 a2) a0 10)) b3 4 ((hI (sI (sI S b3 0 a2) b3 2 (hI (sI S b3 0 a2) a0 10)) a0 10) - (hI (sI (sI S b3 0 a2) b3 2 (hI (sI S b3 0 a2) a0 10)) b3 1))) b9 ((hI (sI (sI (sI S b3 0 a2) b3 2 (hI (sI S b3 0 a2) a0 10)) b3 4 ((hI (sI (sI S b3 0 a2) b3 2 (hI (sI S b3 0 a2) a0 10)) a0 10) - (hI (sI (sI S b3 0 a2) b3 2 (hI (sI S b3 0 a2) a0 10)) b3 1))) b3 3) : Int32).toNatClampNeg none)))
set_option maxRecDepth 100000 in
set_option maxHeartbeats 4000000 in
theorem c_X8_leave {l : Launch} {G : GX} {S : Hp} {a0 : Nat} {a1 : Option Nat} {a2 : Int32} {a3 : Int32} {Q : Hp → Prop} (hw : wp_X8_leave S a0 a1 a2 a3 Q) : Met l yX8_leave (Cond.code yX8_leave cX8_leave 5 none :: TS) { frames := 1, cells := 0, slots := 0, locals := 26 } (Pk G S [va_rf (some a0), va_rf a1, .int a2, .int a3]) (QV G Q) 0 0 G.2.2.1 := by
  refine m_met (by decide) ?_
  intro p e s m below meth c H locs C hW hS
  have C : Cx p s m ([va_rf (some a0), va_rf a1, .int a2, .int a3] : List Value).toArray meth c cX8_leave 5 RX8 none "leave" G := C
  obtain ⟨ls, hent, hL, hla⟩ := m_entry m (vs := [va_rf (some a0), va_rf a1, .int a2, .int a3]) (nn := 5) [1, 1, 1, 1] (by simp only [List.map_cons, List.map_nil, va_rf_cat] <;> rfl) (by decide)
  rw [hent]
  have h0 : ls[0]? = some (.val (va_rf (some a0))) := hla (0, va_rf (some a0)) (List.mem_of_getElem? (i := 0) rfl)
  have h1 : ls[1]? = some (.val (va_rf a1)) := hla (1, va_rf a1) (List.mem_of_getElem? (i := 1) rfl)
  have h2 : ls[2]? = some (.val (.int a2)) := hla (2, .int a2) (List.mem_of_getElem? (i := 2) rfl)
  have h3 : ls[3]? = some (.val (.int a3)) := hla (3, .int a3) (List.mem_of_getElem? (i := 3) rfl)
  clear hla
  generalize ([va_rf (some a0), va_rf a1, .int a2, .int a3] : List Value).toArray = args at C ⊢
  unfold wp_X8_leave at hw
  refine m_aldN C dX8_leave_0 rfl h1 ?_
  obtain ⟨b1, ho1, hw⟩ := hw
  obtain ⟨hk2, hw⟩ := hw
  refine m_getR C hW ho1 hk2 f_X8_70 rfl dX8_leave_1 ?_
  refine m_ast_ C hL dX8_leave_4 (by decide) (fun ls hL hn9 hk9 => ?_)
  have h0 := hk9 0 _ h0 (by decide) (Or.inl (by decide))
  have h1 := hk9 1 _ h1 (by decide) (Or.inl (by decide))
  have h2 := hk9 2 _ h2 (by decide) (Or.inl (by decide))
  have h3 := hk9 3 _ h3 (by decide) (Or.inr (rfl))
  have h4 := hn9
  refine m_ald C dX8_leave_6 h4 ?_
  refine lv_iload_n C.1 C.2.1 dX8_leave_8 rfl h2 ?_
  obtain ⟨b3, ho3, hw⟩ := hw
  obtain ⟨hk4, hw⟩ := hw
  refine m_putI C hW hS ho3 hk4 p_X8_74 (fun z => by cases z) rfl dX8_leave_9 (fun H locs hW hS => ?_)
  refine m_ald C dX8_leave_12 h4 ?_
  refine m_aldN C dX8_leave_14 rfl h0 ?_
  obtain ⟨hk5, hw⟩ := hw
  refine m_getI C hW rfl hk5 f_X8_112 rfl dX8_leave_15 ?_
  refine m_putI C hW hS ho3 hk4 p_X8_279 (fun z => by cases z) rfl dX8_leave_18 (fun H locs hW hS => ?_)
  refine m_ald C dX8_leave_21 h4 ?_
  refine m_aldN C dX8_leave_23 rfl h0 ?_
  refine m_getI C hW rfl hk5 f_X8_112 rfl dX8_leave_24 ?_
  refine m_ald C dX8_leave_27 h4 ?_
  refine m_getI C hW ho3 hk4 f_X8_282 rfl dX8_leave_29 ?_
  refine lv_isub C.1 C.2.1 dX8_leave_32 ?_
  refine m_putI C hW hS ho3 hk4 p_X8_105 (fun z => by cases z) rfl dX8_leave_33 (fun H locs hW hS => ?_)
  refine m_ald C dX8_leave_36 h4 ?_
  refine m_getI C hW ho3 hk4 f_X8_285 rfl dX8_leave_38 ?_
  obtain ⟨J7, eJ7, hw⟩ := hw
  have wJ7 : ∀ (S12 : Hp) (H : Heap) (locs : List Loc) (ls : Array Slot), wd G S12 H → va_S G.2.2.1 s.heap H locs → LV ls 5 → ls[0]? = some (.val (va_rf (some a0))) → ls[1]? = some (.val (va_rf a1)) → ls[3]? = some (.val (.int a3)) → J7 S12 → W p l e ({ frames := 1, cells := 0, slots := 0, locals := 26 } : Room) s m args below meth c H locs 0 0 (MQ below (QV G Q) args s 0 0 G.2.2.1) (F0 m 65 ls []) := by
    intro S12 H locs ls hW hS hL h0 h1 h3 hw
    rw [eJ7] at hw
    refine m_aldN C dX8_leave_65 rfl h1 ?_
    obtain ⟨hk13, hw⟩ := hw
    refine m_getR C hW ho1 hk13 f_X8_101 rfl dX8_leave_66 ?_
    refine lv_dup C.1 C.2.1 dX8_leave_69 (va_rf_cat _) ?_
    obtain ⟨b14, ho14, hw⟩ := hw
    obtain ⟨hk15, hw⟩ := hw
    refine m_getI C hW ho14 hk15 f_X8_150 rfl dX8_leave_70 ?_
    refine lv_iconst (v := 1) C.1 C.2.1 dX8_leave_73 (by decide) ?_
    refine lv_iadd C.1 C.2.1 dX8_leave_74 ?_
    refine m_putI C hW hS ho14 hk15 p_X8_150 (fun z => by cases z) rfl dX8_leave_75 (fun H locs hW hS => ?_)
    refine m_aldN C dX8_leave_78 rfl h0 ?_
    refine lv_dup C.1 C.2.1 dX8_leave_79 (va_rf_cat _) ?_
    obtain ⟨hk16, hw⟩ := hw
    refine m_getJ C hW rfl hk16 f_X8_127 rfl dX8_leave_80 ?_
    refine m_aldN C dX8_leave_83 rfl h1 ?_
    refine m_getJ C hW ho1 hk13 f_X8_288 rfl dX8_leave_84 ?_
    refine lv_ldc2 (v := (-1)) C.1 C.2.1 C.2.2.2.1 (C.2.2.2.2.1 _ tw_792) dX8_leave_87 ?_
    refine lv_lxor C.1 C.2.1 dX8_leave_90 ?_
    refine lv_land C.1 C.2.1 dX8_leave_91 ?_
    refine m_putJ C hW hS rfl hk16 p_X8_127 (fun z => by cases z) rfl dX8_leave_92 (fun H locs hW hS => ?_)
    refine m_aldN C dX8_leave_95 rfl h0 ?_
    refine lv_dup C.1 C.2.1 dX8_leave_96 (va_rf_cat _) ?_
    refine m_getI C hW rfl hk16 f_X8_124 rfl dX8_leave_97 ?_
    refine lv_iconst (v := 1) C.1 C.2.1 dX8_leave_100 (by decide) ?_
    refine lv_isub C.1 C.2.1 dX8_leave_101 ?_
    refine m_putI C hW hS rfl hk16 p_X8_124 (fun z => by cases z) rfl dX8_leave_102 (fun H locs hW hS => ?_)
    refine m_aldN C dX8_leave_105 rfl h0 ?_
    refine m_aldN C dX8_leave_106 rfl h0 ?_
    refine m_getI C hW rfl hk16 f_X8_112 rfl dX8_leave_107 ?_
    refine m_putI C hW hS rfl hk16 p_X8_98 (fun z => by cases z) rfl dX8_leave_110 (fun H locs hW hS => ?_)
    refine m_aldN C dX8_leave_113 rfl h0 ?_
    refine m_getR C hW rfl hk16 f_X8_41 rfl dX8_leave_114 ?_
    refine m_aldN C dX8_leave_117 rfl h0 ?_
    refine m_getI C hW rfl hk16 f_X8_112 rfl dX8_leave_118 ?_
    refine lv_iload_n C.1 C.2.1 dX8_leave_121 rfl h3 ?_
    refine m_aldN C dX8_leave_122 rfl h1 ?_
    refine m_getI C hW ho1 hk13 f_X8_208 rfl dX8_leave_123 ?_
    obtain ⟨b17, ho17, hw⟩ := hw
    obtain ⟨hk18, hw⟩ := hw
    refine m_rV (m_runV (As := [.int (hI (sI (sI (sJ (sI S12 b14 3 ((hI S12 b14 3) + 1)) a0 17 ((hJ (sI S12 b14 3 ((hI S12 b14 3) + 1)) a0 17) &&& ((hJ (sI S12 b14 3 ((hI S12 b14 3) + 1)) b1 7) ^^^ (-1)))) a0 15 ((hI (sJ (sI S12 b14 3 ((hI S12 b14 3) + 1)) a0 17 ((hJ (sI S12 b14 3 ((hI S12 b14 3) + 1)) a0 17) &&& ((hJ (sI S12 b14 3 ((hI S12 b14 3) + 1)) b1 7) ^^^ (-1)))) a0 15) - 1)) a0 13 (hI (sI (sJ (sI S12 b14 3 ((hI S12 b14 3) + 1)) a0 17 ((hJ (sI S12 b14 3 ((hI S12 b14 3) + 1)) a0 17) &&& ((hJ (sI S12 b14 3 ((hI S12 b14 3) + 1)) b1 7) ^^^ (-1)))) a0 15 ((hI (sJ (sI S12 b14 3 ((hI S12 b14 3) + 1)) a0 17 ((hJ (sI S12 b14 3 ((hI S12 b14 3) + 1)) a0 17) &&& ((hJ (sI S12 b14 3 ((hI S12 b14 3) + 1)) b1 7) ^^^ (-1)))) a0 15) - 1)) a0 10)) a0 10), .int a3, .int (hI (sI (sI (sJ (sI S12 b14 3 ((hI S12 b14 3) + 1)) a0 17 ((hJ (sI S12 b14 3 ((hI S12 b14 3) + 1)) a0 17) &&& ((hJ (sI S12 b14 3 ((hI S12 b14 3) + 1)) b1 7) ^^^ (-1)))) a0 15 ((hI (sJ (sI S12 b14 3 ((hI S12 b14 3) + 1)) a0 17 ((hJ (sI S12 b14 3 ((hI S12 b14 3) + 1)) a0 17) &&& ((hJ (sI S12 b14 3 ((hI S12 b14 3) + 1)) b1 7) ^^^ (-1)))) a0 15) - 1)) a0 13 (hI (sI (sJ (sI S12 b14 3 ((hI S12 b14 3) + 1)) a0 17 ((hJ (sI S12 b14 3 ((hI S12 b14 3) + 1)) a0 17) &&& ((hJ (sI S12 b14 3 ((hI S12 b14 3) + 1)) b1 7) ^^^ (-1)))) a0 15 ((hI (sJ (sI S12 b14 3 ((hI S12 b14 3) + 1)) a0 17 ((hJ (sI S12 b14 3 ((hI S12 b14 3) + 1)) a0 17) &&& ((hJ (sI S12 b14 3 ((hI S12 b14 3) + 1)) b1 7) ^^^ (-1)))) a0 15) - 1)) a0 10)) b1 0)]) (rest := []) C hW hS hL (c_X3_put hw) v_X8_211 ⟨rfl, rfl⟩ ⟨Nat.le_of_ble_eq_true rfl, Nat.le_of_ble_eq_true rfl⟩ ho17 hk18 rfl rfl (Nat.le_of_ble_eq_true rfl) dX8_leave_126 ⟨Nat.le_of_ble_eq_true rfl, Nat.le_of_ble_eq_true rfl⟩) hS (fun S19 H locs hw hW hS => ?_)
    exact m_vret C hW hS hw dX8_leave_129
  refine lv_if_lt (tgt := 65) C.1 C.2.1 dX8_leave_41 (by decide) (fun hc6 => ?_) (fun hc6 => ?_)
  · have hw := hw.1 hc6
    exact wJ7 (sI (sI (sI S b3 0 a2) b3 2 (hI (sI S b3 0 a2) a0 10)) b3 4 ((hI (sI (sI S b3 0 a2) b3 2 (hI (sI S b3 0 a2) a0 10)) a0 10) - (hI (sI (sI S b3 0 a2) b3 2 (hI (sI S b3 0 a2) a0 10)) b3 1))) H locs ls hW hS hL h0 h1 h3 hw
  · have hw := hw.2 hc6
    refine m_ald C dX8_leave_44 h4 ?_
    refine m_getI C hW ho3 hk4 f_X8_285 rfl dX8_leave_46 ?_
    refine lv_bipush (v := 32) C.1 C.2.1 dX8_leave_49 (by decide) ?_
    refine lv_icmp_ge (tgt := 65) C.1 C.2.1 dX8_leave_51 (by decide) (fun hc8 => ?_) (fun hc8 => ?_)
    · have hw := hw.1 hc8
      exact wJ7 (sI (sI (sI S b3 0 a2) b3 2 (hI (sI S b3 0 a2) a0 10)) b3 4 ((hI (sI (sI S b3 0 a2) b3 2 (hI (sI S b3 0 a2) a0 10)) a0 10) - (hI (sI (sI S b3 0 a2) b3 2 (hI (sI S b3 0 a2) a0 10)) b3 1))) H locs ls hW hS hL h0 h1 h3 hw
    · have hw := hw.2 hc8
      refine m_aldN C dX8_leave_54 rfl h0 ?_
      refine m_getR C hW rfl hk5 f_X8_24 rfl dX8_leave_55 ?_
      refine m_ald C dX8_leave_58 h4 ?_
      refine m_getI C hW ho3 hk4 f_X8_285 rfl dX8_leave_60 ?_
      refine lv_null C.1 C.2.1 dX8_leave_63 ?_
      refine W.eq (g2 := F0 m 64 ls ([va_rf none, .int (hI (sI (sI (sI S b3 0 a2) b3 2 (hI (sI S b3 0 a2) a0 10)) b3 4 ((hI (sI (sI S b3 0 a2) b3 2 (hI (sI S b3 0 a2) a0 10)) a0 10) - (hI (sI (sI S b3 0 a2) b3 2 (hI (sI S b3 0 a2) a0 10)) b3 1))) b3 3), va_rf (hR (sI (sI (sI S b3 0 a2) b3 2 (hI (sI S b3 0 a2) a0 10)) b3 4 ((hI (sI (sI S b3 0 a2) b3 2 (hI (sI S b3 0 a2) a0 10)) a0 10) - (hI (sI (sI S b3 0 a2) b3 2 (hI (sI S b3 0 a2) a0 10)) b3 1))) a0 4)])) rfl ?_
      obtain ⟨b9, ho9, hw⟩ := hw
      obtain ⟨hk10, hw⟩ := hw
      obtain ⟨hi11, hw⟩ := hw
      refine m_aast C hW hS ho9 hk10 (by decide) (by decide) hi11 (fun _ z => by cases z) dX8_leave_64 (fun H locs hW hS => ?_)
      exact wJ7 (sR (sI (sI (sI S b3 0 a2) b3 2 (hI (sI S b3 0 a2) a0 10)) b3 4 ((hI (sI (sI S b3 0 a2) b3 2 (hI (sI S b3 0 a2) a0 10)) a0 10) - (hI (sI (sI S b3 0 a2) b3 2 (hI (sI S b3 0 a2) a0 10)) b3 1))) b9 ((hI (sI (sI (sI S b3 0 a2) b3 2 (hI (sI S b3 0 a2) a0 10)) b3 4 ((hI (sI (sI S b3 0 a2) b3 2 (hI (sI S b3 0 a2) a0 10)) a0 10) - (hI (sI (sI S b3 0 a2) b3 2 (hI (sI S b3 0 a2) a0 10)) b3 1))) b3 3) : Int32).toNatClampNeg none) H locs ls hW hS hL h0 h1 h3 hw
def wp_X8_bringBackRest_L15 (l0 : Nat) (l1 : Nat) (l2 : Option Nat) (Q : Hp → Prop) : Nat → Hp → Int32 → Prop
  | 0, _, _ => False
  | n + 1, S, l3 => ∃ b4 : Nat, l2 = some b4 ∧ hK S b4 = 2 ∧ ((hI S b4 2) ≤ l3 → Q S) ∧ (¬ ((hI S b4 2) ≤ l3) → ∃ b7 : Nat, (hR S b4 1) = some b7 ∧ hK S b7 = 15 ∧ vp_in l3 (hN S b7) ∧ ∀ z10 : Int64, z10 = (((hI S b7 (l3 : Int32).toNatClampNeg) : Int32).toInt64) → hK S l0 = 10 ∧ ∃ b12 : Nat, (hR S b4 0) = some b12 ∧ hK S b12 = 15 ∧ vp_in l3 (hN S b12) ∧ ∃ b15 : Nat, (hR S l0 1) = some b15 ∧ hK S b15 = 16 ∧ vp_in (hI S b12 (l3 : Int32).toNatClampNeg) (hN S b15) ∧ hK S l1 = 6 ∧ ∃ b19 : Nat, (hR S l1 15) = some b19 ∧ hK S b19 = 12 ∧ ¬ (((hI S l1 2) : Int32).toInt64) = 0 ∧ vp_in (hI S b12 (l3 : Int32).toNatClampNeg) (hN S b15) ∧ wp_X8_bringBackRest_L15 l0 l1 l2 Q n (sJ S b15 ((hI S b12 (l3 : Int32).toNatClampNeg) : Int32).toNatClampNeg ((hJ S b15 ((hI S b12 (l3 : Int32).toNatClampNeg) : Int32).toNatClampNeg) + (z10 - ((z10 * (((hI S b19 4) : Int32).toInt64)) / (((hI S l1 2) : Int32).toInt64))))) (l3 + 1))
def wp_X8_bringBackRest (S : Hp) (a0 : Nat) (a1 : Option Nat) (Q : Hp → Prop) : Prop := ∃ b1 : Nat, a1 = some b1 ∧ hK S b1 = 6 ∧ (0 < (hI S b1 2) → wp_X8_bringBackRest_L15 a0 b1 (hR S b1 8) Q FU S 0) ∧ (¬ (0 < (hI S b1 2)) → Q S)
set_option maxRecDepth 100000 in
set_option maxHeartbeats 4000000 in
theorem w_X8_bringBackRest_L15 {p : Program} {l : Launch} {e : Env} {s : State} {m : MethodId} {args : Array Value} {below : List Frame} {meth : Method} {c : Code} {G : GX} {Q : Hp → Prop} {l0 : Nat} {l1 : Nat} {l2 : Option Nat} (C : Cx p s m args meth c cX8_bringBackRest 6 RX8 none "bringBackRest" G) :
    ∀ (n : Nat) (S : Hp) (l3 : Int32) (H : Heap) (locs : List Loc) (ls : Array Slot), wd G S H → va_S G.2.2.1 s.heap H locs → LV ls 6 → ls[0]? = some (.val (va_rf (some l0))) → ls[1]? = some (.val (va_rf (some l1))) → ls[2]? = some (.val (va_rf l2)) → ls[3]? = some (.val (.int l3)) → wp_X8_bringBackRest_L15 l0 l1 l2 Q n S l3 → W p l e ({ frames := 0, cells := 0, slots := 0, locals := 0 } : Room) s m args below meth c H locs 0 0 (MQ below (QV G Q) args s 0 0 G.2.2.1) (F0 m 15 ls []) := by
  intro n
  induction n with
  | zero =>
    intro S l3 H locs ls hW hS hL h0 h1 h2 h3 hw
    exact False.elim hw
  | succ n ih =>
    intro S l3 H locs ls hW hS hL h0 h1 h2 h3 hw
    unfold wp_X8_bringBackRest_L15 at hw
    refine lv_iload_n C.1 C.2.1 dX8_bringBackRest_15 rfl h3 ?_
    refine m_aldN C dX8_bringBackRest_16 rfl h2 ?_
    obtain ⟨b4, ho4, hw⟩ := hw
    obtain ⟨hk5, hw⟩ := hw
    refine m_getI C hW ho4 hk5 f_X8_176 rfl dX8_bringBackRest_17 ?_
    refine lv_icmp_ge (tgt := 72) C.1 C.2.1 dX8_bringBackRest_20 (by decide) (fun hc6 => ?_) (fun hc6 => ?_)
    · have hw := hw.1 hc6
      exact m_vret C hW hS hw dX8_bringBackRest_72
    · have hw := hw.2 hc6
      refine m_aldN C dX8_bringBackRest_23 rfl h2 ?_
      refine m_getR C hW ho4 hk5 f_X8_182 rfl dX8_bringBackRest_24 ?_
      refine lv_iload_n C.1 C.2.1 dX8_bringBackRest_27 rfl h3 ?_
      obtain ⟨b7, ho7, hw⟩ := hw
      obtain ⟨hk8, hw⟩ := hw
      obtain ⟨hi9, hw⟩ := hw
      refine m_iald C hW ho7 hk8 hi9 dX8_bringBackRest_28 ?_
      refine lv_i2l (v := (((hI S b7 (l3 : Int32).toNatClampNeg) : Int32).toInt64)) C.1 C.2.1 dX8_bringBackRest_29 rfl ?_
      refine lv_topl (fun z10 ez10 => ?_)
      have hw := hw z10 ez10
      refine m_lst C hL dX8_bringBackRest_30 (by decide) (fun ls hL hn9 hk9 => ?_)
      have h0 := hk9 0 _ h0 (by decide) (by decide) (Or.inl (by decide))
      have h1 := hk9 1 _ h1 (by decide) (by decide) (Or.inl (by decide))
      have h2 := hk9 2 _ h2 (by decide) (by decide) (Or.inl (by decide))
      have h3 := hk9 3 _ h3 (by decide) (by decide) (Or.inr (rfl))
      have h4 := hn9
      refine m_aldN C dX8_bringBackRest_32 rfl h0 ?_
      obtain ⟨hk11, hw⟩ := hw
      refine m_getR C hW rfl hk11 f_X8_9 rfl dX8_bringBackRest_33 ?_
      refine m_aldN C dX8_bringBackRest_36 rfl h2 ?_
      refine m_getR C hW ho4 hk5 f_X8_179 rfl dX8_bringBackRest_37 ?_
      refine lv_iload_n C.1 C.2.1 dX8_bringBackRest_40 rfl h3 ?_
      obtain ⟨b12, ho12, hw⟩ := hw
      obtain ⟨hk13, hw⟩ := hw
      obtain ⟨hi14, hw⟩ := hw
      refine m_iald C hW ho12 hk13 hi14 dX8_bringBackRest_41 ?_
      refine lv_dup2_11 C.1 C.2.1 dX8_bringBackRest_42 (rfl) (va_rf_cat _) ?_
      obtain ⟨b15, ho15, hw⟩ := hw
      obtain ⟨hk16, hw⟩ := hw
      obtain ⟨hi17, hw⟩ := hw
      refine m_lald C hW ho15 hk16 hi17 dX8_bringBackRest_43 ?_
      refine lv_lload C.1 C.2.1 dX8_bringBackRest_44 h4 ?_
      refine lv_lload C.1 C.2.1 dX8_bringBackRest_46 h4 ?_
      refine m_aldN C dX8_bringBackRest_48 rfl h1 ?_
      obtain ⟨hk18, hw⟩ := hw
      refine m_getR C hW rfl hk18 f_X8_70 rfl dX8_bringBackRest_49 ?_
      obtain ⟨b19, ho19, hw⟩ := hw
      obtain ⟨hk20, hw⟩ := hw
      refine m_getI C hW ho19 hk20 f_X8_105 rfl dX8_bringBackRest_52 ?_
      refine lv_i2l (v := (((hI S b19 4) : Int32).toInt64)) C.1 C.2.1 dX8_bringBackRest_55 rfl ?_
      refine lv_lmul C.1 C.2.1 dX8_bringBackRest_56 ?_
      refine m_aldN C dX8_bringBackRest_57 rfl h1 ?_
      refine m_getI C hW rfl hk18 f_X8_293 rfl dX8_bringBackRest_58 ?_
      refine lv_i2l (v := (((hI S l1 2) : Int32).toInt64)) C.1 C.2.1 dX8_bringBackRest_61 rfl ?_
      obtain ⟨hz21, hw⟩ := hw
      refine lv_ldiv C.1 C.2.1 dX8_bringBackRest_62 hz21 ?_
      refine lv_lsub C.1 C.2.1 dX8_bringBackRest_63 ?_
      refine lv_ladd C.1 C.2.1 dX8_bringBackRest_64 ?_
      obtain ⟨hi22, hw⟩ := hw
      refine m_last C hW hS ho15 hk16 hi22 dX8_bringBackRest_65 (fun H locs hW hS => ?_)
      refine m_iinc (v := (l3 + 1)) C hL dX8_bringBackRest_66 h3 rfl (by decide) (fun ls hL hn9 hk9 => ?_)
      have h0 := hk9 0 _ h0 (by decide) (Or.inl (by decide))
      have h1 := hk9 1 _ h1 (by decide) (Or.inl (by decide))
      have h2 := hk9 2 _ h2 (by decide) (Or.inr (va_rf_cat _))
      have h3 := hn9
      refine lv_goto (tgt := 15) C.1 C.2.1 dX8_bringBackRest_69 (by decide) ?_
      exact ih (sJ S b15 ((hI S b12 (l3 : Int32).toNatClampNeg) : Int32).toNatClampNeg ((hJ S b15 ((hI S b12 (l3 : Int32).toNatClampNeg) : Int32).toNatClampNeg) + (z10 - ((z10 * (((hI S b19 4) : Int32).toInt64)) / (((hI S l1 2) : Int32).toInt64))))) (l3 + 1) H locs ls hW hS hL h0 h1 h2 h3 hw
set_option maxRecDepth 100000 in
set_option maxHeartbeats 4000000 in
theorem c_X8_bringBackRest {l : Launch} {G : GX} {S : Hp} {a0 : Nat} {a1 : Option Nat} {Q : Hp → Prop} (hw : wp_X8_bringBackRest S a0 a1 Q) : Met l yX8_bringBackRest (Cond.code yX8_bringBackRest cX8_bringBackRest 6 none :: TS) { frames := 0, cells := 0, slots := 0, locals := 0 } (Pk G S [va_rf (some a0), va_rf a1]) (QV G Q) 0 0 G.2.2.1 := by
  refine m_met (by decide) ?_
  intro p e s m below meth c H locs C hW hS
  have C : Cx p s m ([va_rf (some a0), va_rf a1] : List Value).toArray meth c cX8_bringBackRest 6 RX8 none "bringBackRest" G := C
  obtain ⟨ls, hent, hL, hla⟩ := m_entry m (vs := [va_rf (some a0), va_rf a1]) (nn := 6) [1, 1] (by simp only [List.map_cons, List.map_nil, va_rf_cat] <;> rfl) (by decide)
  rw [hent]
  have h0 : ls[0]? = some (.val (va_rf (some a0))) := hla (0, va_rf (some a0)) (List.mem_of_getElem? (i := 0) rfl)
  have h1 : ls[1]? = some (.val (va_rf a1)) := hla (1, va_rf a1) (List.mem_of_getElem? (i := 1) rfl)
  clear hla
  generalize ([va_rf (some a0), va_rf a1] : List Value).toArray = args at C ⊢
  unfold wp_X8_bringBackRest at hw
  refine m_aldN C dX8_bringBackRest_0 rfl h1 ?_
  obtain ⟨b1, ho1, hw⟩ := hw
  obtain ⟨hk2, hw⟩ := hw
  refine m_getR C hW ho1 hk2 f_X8_201 rfl dX8_bringBackRest_1 ?_
  refine m_astN C hL dX8_bringBackRest_4 rfl (by decide) (fun ls hL hn9 hk9 => ?_)
  have h0 := hk9 0 _ h0 (by decide) (Or.inl (by decide))
  have h1 := hk9 1 _ h1 (by decide) (Or.inr (va_rf_cat _))
  have h2 := hn9
  refine m_aldN C dX8_bringBackRest_5 rfl h1 ?_
  refine m_getI C hW ho1 hk2 f_X8_293 rfl dX8_bringBackRest_6 ?_
  refine lv_if_gt (tgt := 13) C.1 C.2.1 dX8_bringBackRest_9 (by decide) (fun hc3 => ?_) (fun hc3 => ?_)
  · have hw := hw.1 hc3
    refine lv_iconst (v := 0) C.1 C.2.1 dX8_bringBackRest_13 (by decide) ?_
    refine m_istN C hL dX8_bringBackRest_14 rfl (by decide) (fun ls hL hn9 hk9 => ?_)
    have h0 := hk9 0 _ h0 (by decide) (Or.inl (by decide))
    have h1 := hk9 1 _ h1 (by decide) (Or.inl (by decide))
    have h2 := hk9 2 _ h2 (by decide) (Or.inr (va_rf_cat _))
    have h3 := hn9
    rw [ho1] at h1
    exact w_X8_bringBackRest_L15 C  FU S 0 H locs ls hW hS hL h0 h1 h2 h3 hw
  · have hw := hw.2 hc3
    exact m_vret C hW hS hw dX8_bringBackRest_12
def wp_X8_fail (S : Hp) (a0 : Nat) (a1 : Option Nat) (a2 : Int32) (Q : Hp → Prop) : Prop := hK S a0 = 10 ∧ wp_X8_leave S a0 a1 2 2 (fun S2 => hK S2 a0 = 10 ∧ ∃ b4 : Nat, a1 = some b4 ∧ hK (sI S2 a0 11 ((hI S2 a0 11) + 1)) b4 = 6 ∧ ∃ b6 : Nat, (hR (sI S2 a0 11 ((hI S2 a0 11) + 1)) b4 15) = some b6 ∧ hK (sI S2 a0 11 ((hI S2 a0 11) + 1)) b6 = 12 ∧ wp_X8_bringBackRest (sI (sI S2 a0 11 ((hI S2 a0 11) + 1)) b6 6 a2) a0 a1 (fun S8 => hK S8 a0 = 10 ∧ hK S8 b4 = 6 ∧ ∃ b11 : Nat, (hR S8 a0 6) = some b11 ∧ hK S8 b11 = 7 ∧ wp_X5_add S8 b11 (hI S8 b4 0) (fun S13 => hK S13 a0 = 10 ∧ Q (sI S13 a0 16 1))))
set_option maxRecDepth 100000 in
set_option maxHeartbeats 4000000 in
theorem c_X8_fail {l : Launch} {G : GX} {S : Hp} {a0 : Nat} {a1 : Option Nat} {a2 : Int32} {Q : Hp → Prop} (hw : wp_X8_fail S a0 a1 a2 Q) : Met l yX8_fail (Cond.code yX8_fail cX8_fail 3 none :: TS) { frames := 2, cells := 0, slots := 0, locals := 50 } (Pk G S [va_rf (some a0), va_rf a1, .int a2]) (QV G Q) 0 0 G.2.2.1 := by
  refine m_met (by decide) ?_
  intro p e s m below meth c H locs C hW hS
  have C : Cx p s m ([va_rf (some a0), va_rf a1, .int a2] : List Value).toArray meth c cX8_fail 3 RX8 none "fail" G := C
  obtain ⟨ls, hent, hL, hla⟩ := m_entry m (vs := [va_rf (some a0), va_rf a1, .int a2]) (nn := 3) [1, 1, 1] (by simp only [List.map_cons, List.map_nil, va_rf_cat] <;> rfl) (by decide)
  rw [hent]
  have h0 : ls[0]? = some (.val (va_rf (some a0))) := hla (0, va_rf (some a0)) (List.mem_of_getElem? (i := 0) rfl)
  have h1 : ls[1]? = some (.val (va_rf a1)) := hla (1, va_rf a1) (List.mem_of_getElem? (i := 1) rfl)
  have h2 : ls[2]? = some (.val (.int a2)) := hla (2, .int a2) (List.mem_of_getElem? (i := 2) rfl)
  clear hla
  generalize ([va_rf (some a0), va_rf a1, .int a2] : List Value).toArray = args at C ⊢
  unfold wp_X8_fail at hw
  refine m_aldN C dX8_fail_0 rfl h0 ?_
  refine m_aldN C dX8_fail_1 rfl h1 ?_
  refine lv_iconst (v := 2) C.1 C.2.1 dX8_fail_2 (by decide) ?_
  refine lv_iconst (v := 2) C.1 C.2.1 dX8_fail_3 (by decide) ?_
  obtain ⟨hk1, hw⟩ := hw
  refine m_rV (m_runV (As := [va_rf a1, .int 2, .int 2]) (rest := []) C hW hS hL (c_X8_leave hw) v_X8_262 ⟨rfl, rfl⟩ ⟨Nat.le_of_ble_eq_true rfl, Nat.le_of_ble_eq_true rfl⟩ rfl hk1 rfl rfl (Nat.le_of_ble_eq_true rfl) dX8_fail_4 ⟨Nat.le_of_ble_eq_true rfl, Nat.le_of_ble_eq_true rfl⟩) hS (fun S2 H locs hw hW hS => ?_)
  refine m_aldN C dX8_fail_7 rfl h0 ?_
  refine lv_dup C.1 C.2.1 dX8_fail_8 (va_rf_cat _) ?_
  obtain ⟨hk3, hw⟩ := hw
  refine m_getI C hW rfl hk3 f_X8_115 rfl dX8_fail_9 ?_
  refine lv_iconst (v := 1) C.1 C.2.1 dX8_fail_12 (by decide) ?_
  refine lv_iadd C.1 C.2.1 dX8_fail_13 ?_
  refine m_putI C hW hS rfl hk3 p_X8_115 (fun z => by cases z) rfl dX8_fail_14 (fun H locs hW hS => ?_)
  refine m_aldN C dX8_fail_17 rfl h1 ?_
  obtain ⟨b4, ho4, hw⟩ := hw
  obtain ⟨hk5, hw⟩ := hw
  refine m_getR C hW ho4 hk5 f_X8_70 rfl dX8_fail_18 ?_
  refine lv_iload_n C.1 C.2.1 dX8_fail_21 rfl h2 ?_
  obtain ⟨b6, ho6, hw⟩ := hw
  obtain ⟨hk7, hw⟩ := hw
  refine m_putI C hW hS ho6 hk7 p_X8_273 (fun z => by cases z) rfl dX8_fail_22 (fun H locs hW hS => ?_)
  refine m_aldN C dX8_fail_25 rfl h0 ?_
  refine m_aldN C dX8_fail_26 rfl h1 ?_
  refine m_rV (m_runV (As := [va_rf a1]) (rest := []) C hW hS hL (c_X8_bringBackRest hw) v_X8_276 ⟨rfl, rfl⟩ ⟨Nat.le_of_ble_eq_true rfl, Nat.le_of_ble_eq_true rfl⟩ rfl hk3 rfl rfl (Nat.le_of_ble_eq_true rfl) dX8_fail_27 ⟨Nat.le_of_ble_eq_true rfl, Nat.le_of_ble_eq_true rfl⟩) hS (fun S8 H locs hw hW hS => ?_)
  refine m_aldN C dX8_fail_30 rfl h0 ?_
  obtain ⟨hk9, hw⟩ := hw
  refine m_getR C hW rfl hk9 f_X8_34 rfl dX8_fail_31 ?_
  refine m_aldN C dX8_fail_34 rfl h1 ?_
  obtain ⟨hk10, hw⟩ := hw
  refine m_getI C hW ho4 hk10 f_X8_208 rfl dX8_fail_35 ?_
  obtain ⟨b11, ho11, hw⟩ := hw
  obtain ⟨hk12, hw⟩ := hw
  refine m_rV (m_runV (As := [.int (hI S8 b4 0)]) (rest := []) C hW hS hL (c_X5_add hw) v_X8_189 ⟨rfl, rfl⟩ ⟨Nat.le_of_ble_eq_true rfl, Nat.le_of_ble_eq_true rfl⟩ ho11 hk12 rfl rfl (Nat.le_of_ble_eq_true rfl) dX8_fail_38 ⟨Nat.le_of_ble_eq_true rfl, Nat.le_of_ble_eq_true rfl⟩) hS (fun S13 H locs hw hW hS => ?_)
  refine m_aldN C dX8_fail_41 rfl h0 ?_
  refine lv_iconst (v := 1) C.1 C.2.1 dX8_fail_42 (by decide) ?_
  obtain ⟨hk14, hw⟩ := hw
  refine m_putZ C hW hS rfl hk14 p_X8_137 (fun z => by cases z) (by decide) rfl dX8_fail_43 (fun H locs hW hS => ?_)
  exact m_vret C hW hS hw dX8_fail_46
def wp_X8_finish_L27 (l1 : Option Nat) (Q : Hp → Prop) : Nat → Hp → Int32 → Prop
  | 0, _, _ => False
  | n + 1, S, l2 => ∃ b5 : Nat, l1 = some b5 ∧ hK S b5 = 6 ∧ ∃ b7 : Nat, (hR S b5 5) = some b7 ∧ hK S b7 = 1 ∧ wp_Jx4a65c_size_8abf5 S b7 (fun r10 S9 => (r10 ≤ l2 → Q S9) ∧ (¬ (r10 ≤ l2) → hK S9 b5 = 6 ∧ ∃ b13 : Nat, (hR S9 b5 5) = some b13 ∧ hK S9 b13 = 1 ∧ wp_Jx4a65c_get_915e3 S9 b13 l2 (fun r16 S15 => ∃ b17 : Nat, r16 = some b17 ∧ hK S15 b17 = 6 ∧ ∃ b19 : Nat, (hR S15 b17 15) = some b19 ∧ hK S15 b19 = 12 ∧ wp_X8_finish_L27 l1 Q n (sI S15 b19 7 ((hI S15 b19 7) - 1)) (l2 + 1))))
def wp_X8_finish (S : Hp) (a0 : Nat) (a1 : Option Nat) (Q : Hp → Prop) : Prop := hK S a0 = 10 ∧ wp_X8_leave S a0 a1 1 1 (fun S2 => hK S2 a0 = 10 ∧ wp_X8_addGiven (sI S2 a0 12 ((hI S2 a0 12) + 1)) a1 (hR (sI S2 a0 12 ((hI S2 a0 12) + 1)) a0 1) (fun S4 => wp_X8_finish_L27 a1 Q FU S4 0))
set_option maxRecDepth 100000 in
set_option maxHeartbeats 4000000 in
theorem w_X8_finish_L27 {p : Program} {l : Launch} {e : Env} {s : State} {m : MethodId} {args : Array Value} {below : List Frame} {meth : Method} {c : Code} {G : GX} {Q : Hp → Prop} {l1 : Option Nat} (C : Cx p s m args meth c cX8_finish 3 RX8 none "finish" G) :
    ∀ (n : Nat) (S : Hp) (l2 : Int32) (H : Heap) (locs : List Loc) (ls : Array Slot), wd G S H → va_S G.2.2.1 s.heap H locs → LV ls 3 → ls[1]? = some (.val (va_rf l1)) → ls[2]? = some (.val (.int l2)) → wp_X8_finish_L27 l1 Q n S l2 → W p l e ({ frames := 3, cells := 0, slots := 0, locals := 64 } : Room) s m args below meth c H locs 0 0 (MQ below (QV G Q) args s 0 0 G.2.2.1) (F0 m 27 ls []) := by
  intro n
  induction n with
  | zero =>
    intro S l2 H locs ls hW hS hL h1 h2 hw
    exact False.elim hw
  | succ n ih =>
    intro S l2 H locs ls hW hS hL h1 h2 hw
    unfold wp_X8_finish_L27 at hw
    refine lv_iload_n C.1 C.2.1 dX8_finish_27 rfl h2 ?_
    refine m_aldN C dX8_finish_28 rfl h1 ?_
    obtain ⟨b5, ho5, hw⟩ := hw
    obtain ⟨hk6, hw⟩ := hw
    refine m_getR C hW ho5 hk6 f_X8_266 rfl dX8_finish_29 ?_
    obtain ⟨b7, ho7, hw⟩ := hw
    obtain ⟨hk8, hw⟩ := hw
    refine m_rI (m_runV (As := []) (rest := [.int l2]) C hW hS hL (c_Jx4a65c_size_8abf5 hw) v_X8_157 ⟨rfl, rfl⟩ ⟨Nat.le_of_ble_eq_true rfl, Nat.le_of_ble_eq_true rfl⟩ ho7 hk8 rfl rfl (Nat.le_of_ble_eq_true rfl) dX8_finish_32 ⟨Nat.le_of_ble_eq_true rfl, Nat.le_of_ble_eq_true rfl⟩) hS (fun r10 S9 H locs hw hW hS => ?_)
    refine lv_icmp_ge (tgt := 67) C.1 C.2.1 dX8_finish_35 (by decide) (fun hc11 => ?_) (fun hc11 => ?_)
    · have hw := hw.1 hc11
      exact m_vret C hW hS hw dX8_finish_67
    · have hw := hw.2 hc11
      refine m_aldN C dX8_finish_38 rfl h1 ?_
      obtain ⟨hk12, hw⟩ := hw
      refine m_getR C hW ho5 hk12 f_X8_266 rfl dX8_finish_39 ?_
      refine lv_iload_n C.1 C.2.1 dX8_finish_42 rfl h2 ?_
      obtain ⟨b13, ho13, hw⟩ := hw
      obtain ⟨hk14, hw⟩ := hw
      refine m_rR (m_runV (As := [.int l2]) (rest := []) C hW hS hL (c_Jx4a65c_get_915e3 hw) v_X8_269 ⟨rfl, rfl⟩ ⟨Nat.le_of_ble_eq_true rfl, Nat.le_of_ble_eq_true rfl⟩ ho13 hk14 rfl rfl (Nat.le_of_ble_eq_true rfl) dX8_finish_43 ⟨Nat.le_of_ble_eq_true rfl, Nat.le_of_ble_eq_true rfl⟩) hS (fun r16 S15 H locs hw hW hS => ?_)
      obtain ⟨b17, ho17, hw⟩ := hw
      obtain ⟨hk18, hw⟩ := hw
      refine m_castJ C hW ho17 hk18 tw_147 dX8_finish_46 ?_
      refine m_getR C hW ho17 hk18 f_X8_70 rfl dX8_finish_49 ?_
      refine lv_dup C.1 C.2.1 dX8_finish_52 (va_rf_cat _) ?_
      obtain ⟨b19, ho19, hw⟩ := hw
      obtain ⟨hk20, hw⟩ := hw
      refine m_getI C hW ho19 hk20 f_X8_162 rfl dX8_finish_53 ?_
      refine lv_iconst (v := 1) C.1 C.2.1 dX8_finish_56 (by decide) ?_
      refine lv_isub C.1 C.2.1 dX8_finish_57 ?_
      refine m_putI C hW hS ho19 hk20 p_X8_162 (fun z => by cases z) rfl dX8_finish_58 (fun H locs hW hS => ?_)
      refine m_iinc (v := (l2 + 1)) C hL dX8_finish_61 h2 rfl (by decide) (fun ls hL hn9 hk9 => ?_)
      have h1 := hk9 1 _ h1 (by decide) (Or.inr (va_rf_cat _))
      have h2 := hn9
      refine lv_goto (tgt := 27) C.1 C.2.1 dX8_finish_64 (by decide) ?_
      exact ih (sI S15 b19 7 ((hI S15 b19 7) - 1)) (l2 + 1) H locs ls hW hS hL h1 h2 hw
set_option maxRecDepth 100000 in
set_option maxHeartbeats 4000000 in
theorem c_X8_finish {l : Launch} {G : GX} {S : Hp} {a0 : Nat} {a1 : Option Nat} {Q : Hp → Prop} (hw : wp_X8_finish S a0 a1 Q) : Met l yX8_finish (Cond.code yX8_finish cX8_finish 3 none :: TS) { frames := 3, cells := 0, slots := 0, locals := 64 } (Pk G S [va_rf (some a0), va_rf a1]) (QV G Q) 0 0 G.2.2.1 := by
  refine m_met (by decide) ?_
  intro p e s m below meth c H locs C hW hS
  have C : Cx p s m ([va_rf (some a0), va_rf a1] : List Value).toArray meth c cX8_finish 3 RX8 none "finish" G := C
  obtain ⟨ls, hent, hL, hla⟩ := m_entry m (vs := [va_rf (some a0), va_rf a1]) (nn := 3) [1, 1] (by simp only [List.map_cons, List.map_nil, va_rf_cat] <;> rfl) (by decide)
  rw [hent]
  have h0 : ls[0]? = some (.val (va_rf (some a0))) := hla (0, va_rf (some a0)) (List.mem_of_getElem? (i := 0) rfl)
  have h1 : ls[1]? = some (.val (va_rf a1)) := hla (1, va_rf a1) (List.mem_of_getElem? (i := 1) rfl)
  clear hla
  generalize ([va_rf (some a0), va_rf a1] : List Value).toArray = args at C ⊢
  unfold wp_X8_finish at hw
  refine m_aldN C dX8_finish_0 rfl h0 ?_
  refine m_aldN C dX8_finish_1 rfl h1 ?_
  refine lv_iconst (v := 1) C.1 C.2.1 dX8_finish_2 (by decide) ?_
  refine lv_iconst (v := 1) C.1 C.2.1 dX8_finish_3 (by decide) ?_
  obtain ⟨hk1, hw⟩ := hw
  refine m_rV (m_runV (As := [va_rf a1, .int 1, .int 1]) (rest := []) C hW hS hL (c_X8_leave hw) v_X8_262 ⟨rfl, rfl⟩ ⟨Nat.le_of_ble_eq_true rfl, Nat.le_of_ble_eq_true rfl⟩ rfl hk1 rfl rfl (Nat.le_of_ble_eq_true rfl) dX8_finish_4 ⟨Nat.le_of_ble_eq_true rfl, Nat.le_of_ble_eq_true rfl⟩) hS (fun S2 H locs hw hW hS => ?_)
  refine m_aldN C dX8_finish_7 rfl h0 ?_
  refine lv_dup C.1 C.2.1 dX8_finish_8 (va_rf_cat _) ?_
  obtain ⟨hk3, hw⟩ := hw
  refine m_getI C hW rfl hk3 f_X8_118 rfl dX8_finish_9 ?_
  refine lv_iconst (v := 1) C.1 C.2.1 dX8_finish_12 (by decide) ?_
  refine lv_iadd C.1 C.2.1 dX8_finish_13 ?_
  refine m_putI C hW hS rfl hk3 p_X8_118 (fun z => by cases z) rfl dX8_finish_14 (fun H locs hW hS => ?_)
  refine m_aldN C dX8_finish_17 rfl h1 ?_
  refine m_aldN C dX8_finish_18 rfl h0 ?_
  refine m_getR C hW rfl hk3 f_X8_9 rfl dX8_finish_19 ?_
  refine m_rV (m_runS (As := [va_rf a1, va_rf (hR (sI S2 a0 12 ((hI S2 a0 12) + 1)) a0 1)]) (rest := []) C hW hS hL (c_X8_addGiven hw) s_X8_165 ⟨rfl, rfl⟩ ⟨Nat.le_of_ble_eq_true rfl, Nat.le_of_ble_eq_true rfl⟩ rfl rfl (Nat.le_of_ble_eq_true rfl) dX8_finish_22 ⟨Nat.le_of_ble_eq_true rfl, Nat.le_of_ble_eq_true rfl⟩) hS (fun S4 H locs hw hW hS => ?_)
  refine lv_iconst (v := 0) C.1 C.2.1 dX8_finish_25 (by decide) ?_
  refine m_istN C hL dX8_finish_26 rfl (by decide) (fun ls hL hn9 hk9 => ?_)
  have h1 := hk9 1 _ h1 (by decide) (Or.inr (va_rf_cat _))
  have h2 := hn9
  exact w_X8_finish_L27 C  FU S4 0 H locs ls hW hS hL h1 h2 hw
def wp_X8_endJobs_L2 (l0 : Nat) (Q : Hp → Prop) : Nat → Hp → Int32 → Prop
  | 0, _, _ => False
  | n + 1, S, l1 => hK S l0 = 10 ∧ ∃ b2 : Nat, (hR S l0 0) = some b2 ∧ hK S b2 = 11 ∧ ((hI S b2 2) ≤ l1 → Q S) ∧ (¬ ((hI S b2 2) ≤ l1) → ∃ b5 : Nat, (hR S l0 4) = some b5 ∧ hK S b5 = 19 ∧ vp_in l1 (hN S b5) ∧ ((hR S b5 (l1 : Int32).toNatClampNeg) = none → wp_X8_endJobs_L2 l0 Q n S (l1 + 1)) ∧ (¬ ((hR S b5 (l1 : Int32).toNatClampNeg) = none) → ∃ b9 : Nat, (hR S b5 (l1 : Int32).toNatClampNeg) = some b9 ∧ hK S b9 = 6 ∧ wp_X4_endMinute S b9 (fun r12 S11 => hK S11 l0 = 10 ∧ (r12 = (hI S11 l0 10) → hK S11 b9 = 6 ∧ wp_X4_hasPlan S11 b9 (fun r17 S16 => ∃ J19 : Hp → Int32 → Prop, J19 = (fun (S26 : Hp) (x27 : Int32) => (x27 = 0 → hK S26 l0 = 10 ∧ wp_X8_finish S26 l0 (hR S b5 (l1 : Int32).toNatClampNeg) (fun S32 => wp_X8_endJobs_L2 l0 Q n S32 (l1 + 1))) ∧ (¬ (x27 = 0) → hK S26 l0 = 10 ∧ wp_X8_fail S26 l0 (hR S b5 (l1 : Int32).toNatClampNeg) x27 (fun S30 => wp_X8_endJobs_L2 l0 Q n S30 (l1 + 1)))) ∧ (r17 = 0 → hK S16 b9 = 6 ∧ ∃ b21 : Nat, (hR S16 b9 10) = some b21 ∧ hK S16 b21 = 9 ∧ wp_X7_fault S16 b21 (fun r24 S23 => J19 S23 r24)) ∧ (¬ (r17 = 0) → hK S16 b9 = 6 ∧ J19 S16 (hI S16 b9 12)))) ∧ (¬ (r12 = (hI S11 l0 10)) → wp_X8_endJobs_L2 l0 Q n S11 (l1 + 1)))))
def wp_X8_endJobs (S : Hp) (a0 : Nat) (Q : Hp → Prop) : Prop := wp_X8_endJobs_L2 a0 Q FU S 0
set_option maxRecDepth 100000 in
set_option maxHeartbeats 4000000 in
theorem w_X8_endJobs_L2 {p : Program} {l : Launch} {e : Env} {s : State} {m : MethodId} {args : Array Value} {below : List Frame} {meth : Method} {c : Code} {G : GX} {Q : Hp → Prop} {l0 : Nat} (C : Cx p s m args meth c cX8_endJobs 4 RX8 none "endJobs" G) :
    ∀ (n : Nat) (S : Hp) (l1 : Int32) (H : Heap) (locs : List Loc) (ls : Array Slot), wd G S H → va_S G.2.2.1 s.heap H locs → LV ls 4 → ls[0]? = some (.val (va_rf (some l0))) → ls[1]? = some (.val (.int l1)) → wp_X8_endJobs_L2 l0 Q n S l1 → W p l e ({ frames := 4, cells := 0, slots := 0, locals := 86 } : Room) s m args below meth c H locs 0 0 (MQ below (QV G Q) args s 0 0 G.2.2.1) (F0 m 2 ls []) := by
  intro n
  induction n with
  | zero =>
    intro S l1 H locs ls hW hS hL h0 h1 hw
    exact False.elim hw
  | succ n ih =>
    intro S l1 H locs ls hW hS hL h0 h1 hw
    unfold wp_X8_endJobs_L2 at hw
    refine lv_iload_n C.1 C.2.1 dX8_endJobs_2 rfl h1 ?_
    refine m_aldN C dX8_endJobs_3 rfl h0 ?_
    obtain ⟨hk1, hw⟩ := hw
    refine m_getR C hW rfl hk1 f_X8_45 rfl dX8_endJobs_4 ?_
    obtain ⟨b2, ho2, hw⟩ := hw
    obtain ⟨hk3, hw⟩ := hw
    refine m_getI C hW ho2 hk3 f_X8_233 rfl dX8_endJobs_7 ?_
    refine lv_icmp_ge (tgt := 81) C.1 C.2.1 dX8_endJobs_10 (by decide) (fun hc4 => ?_) (fun hc4 => ?_)
    · have hw := hw.1 hc4
      exact m_vret C hW hS hw dX8_endJobs_81
    · have hw := hw.2 hc4
      refine m_aldN C dX8_endJobs_13 rfl h0 ?_
      refine m_getR C hW rfl hk1 f_X8_24 rfl dX8_endJobs_14 ?_
      refine lv_iload_n C.1 C.2.1 dX8_endJobs_17 rfl h1 ?_
      obtain ⟨b5, ho5, hw⟩ := hw
      obtain ⟨hk6, hw⟩ := hw
      obtain ⟨hi7, hw⟩ := hw
      refine m_aald C hW ho5 hk6 (by decide) (by decide) hi7 dX8_endJobs_18 ?_
      refine m_astN C hL dX8_endJobs_19 rfl (by decide) (fun ls hL hn9 hk9 => ?_)
      have h0 := hk9 0 _ h0 (by decide) (Or.inl (by decide))
      have h1 := hk9 1 _ h1 (by decide) (Or.inr (rfl))
      have h2 := hn9
      refine m_aldN C dX8_endJobs_20 rfl h2 ?_
      refine m_ifnull (tgt := 75) C dX8_endJobs_21 (by decide) (fun hc8 => ?_) (fun hc8 => ?_)
      · have hw := hw.1 hc8
        refine m_iinc (v := (l1 + 1)) C hL dX8_endJobs_75 h1 rfl (by decide) (fun ls hL hn9 hk9 => ?_)
        have h0 := hk9 0 _ h0 (by decide) (Or.inr (va_rf_cat _))
        have h1 := hn9
        refine lv_goto (tgt := 2) C.1 C.2.1 dX8_endJobs_78 (by decide) ?_
        exact ih S (l1 + 1) H locs ls hW hS hL h0 h1 hw
      · have hw := hw.2 hc8
        refine m_aldN C dX8_endJobs_24 rfl h2 ?_
        obtain ⟨b9, ho9, hw⟩ := hw
        obtain ⟨hk10, hw⟩ := hw
        refine m_rI (m_runV (As := []) (rest := []) C hW hS hL (c_X4_endMinute hw) v_X8_236 ⟨rfl, rfl⟩ ⟨Nat.le_of_ble_eq_true rfl, Nat.le_of_ble_eq_true rfl⟩ ho9 hk10 rfl rfl (Nat.le_of_ble_eq_true rfl) dX8_endJobs_25 ⟨Nat.le_of_ble_eq_true rfl, Nat.le_of_ble_eq_true rfl⟩) hS (fun r12 S11 H locs hw hW hS => ?_)
        refine m_aldN C dX8_endJobs_28 rfl h0 ?_
        obtain ⟨hk13, hw⟩ := hw
        refine m_getI C hW rfl hk13 f_X8_112 rfl dX8_endJobs_29 ?_
        refine lv_icmp_ne (tgt := 75) C.1 C.2.1 dX8_endJobs_32 (by decide) (fun hc14 => ?_) (fun hc14 => ?_)
        · have hw := hw.2 hc14
          refine m_iinc (v := (l1 + 1)) C hL dX8_endJobs_75 h1 rfl (by decide) (fun ls hL hn9 hk9 => ?_)
          have h0 := hk9 0 _ h0 (by decide) (Or.inr (va_rf_cat _))
          have h1 := hn9
          refine lv_goto (tgt := 2) C.1 C.2.1 dX8_endJobs_78 (by decide) ?_
          exact ih S11 (l1 + 1) H locs ls hW hS hL h0 h1 hw
        · have hw := hw.1 hc14
          refine m_aldN C dX8_endJobs_35 rfl h2 ?_
          obtain ⟨hk15, hw⟩ := hw
          refine m_rI (m_runV (As := []) (rest := []) C hW hS hL (c_X4_hasPlan hw) v_X8_239 ⟨rfl, rfl⟩ ⟨Nat.le_of_ble_eq_true rfl, Nat.le_of_ble_eq_true rfl⟩ ho9 hk15 rfl rfl (Nat.le_of_ble_eq_true rfl) dX8_endJobs_36 ⟨Nat.le_of_ble_eq_true rfl, Nat.le_of_ble_eq_true rfl⟩) hS (fun r17 S16 H locs hw hW hS => ?_)
          obtain ⟨J19, eJ19, hw⟩ := hw
          have wJ19 : ∀ (S26 : Hp) (x27 : Int32) (H : Heap) (locs : List Loc) (ls : Array Slot), wd G S26 H → va_S G.2.2.1 s.heap H locs → LV ls 4 → ls[0]? = some (.val (va_rf (some l0))) → ls[1]? = some (.val (.int l1)) → ls[2]? = some (.val (va_rf (hR S b5 (l1 : Int32).toNatClampNeg))) → J19 S26 x27 → W p l e ({ frames := 4, cells := 0, slots := 0, locals := 86 } : Room) s m args below meth c H locs 0 0 (MQ below (QV G Q) args s 0 0 G.2.2.1) (F0 m 56 ls [.int x27]) := by
            intro S26 x27 H locs ls hW hS hL h0 h1 h2 hw
            rw [eJ19] at hw
            refine m_istN C hL dX8_endJobs_56 rfl (by decide) (fun ls hL hn9 hk9 => ?_)
            have h0 := hk9 0 _ h0 (by decide) (Or.inl (by decide))
            have h1 := hk9 1 _ h1 (by decide) (Or.inl (by decide))
            have h2 := hk9 2 _ h2 (by decide) (Or.inr (va_rf_cat _))
            have h3 := hn9
            refine lv_iload_n C.1 C.2.1 dX8_endJobs_57 rfl h3 ?_
            refine lv_if_ne (tgt := 69) C.1 C.2.1 dX8_endJobs_58 (by decide) (fun hc28 => ?_) (fun hc28 => ?_)
            · have hw := hw.2 hc28
              refine m_aldN C dX8_endJobs_69 rfl h0 ?_
              refine m_aldN C dX8_endJobs_70 rfl h2 ?_
              refine lv_iload_n C.1 C.2.1 dX8_endJobs_71 rfl h3 ?_
              obtain ⟨hk29, hw⟩ := hw
              refine m_rV (m_runV (As := [va_rf (hR S b5 (l1 : Int32).toNatClampNeg), .int x27]) (rest := []) C hW hS hL (c_X8_fail hw) v_X8_258 ⟨rfl, rfl⟩ ⟨Nat.le_of_ble_eq_true rfl, Nat.le_of_ble_eq_true rfl⟩ rfl hk29 rfl rfl (Nat.le_of_ble_eq_true rfl) dX8_endJobs_72 ⟨Nat.le_of_ble_eq_true rfl, Nat.le_of_ble_eq_true rfl⟩) hS (fun S30 H locs hw hW hS => ?_)
              refine m_iinc (v := (l1 + 1)) C hL dX8_endJobs_75 h1 rfl (by decide) (fun ls hL hn9 hk9 => ?_)
              have h0 := hk9 0 _ h0 (by decide) (Or.inr (va_rf_cat _))
              have h1 := hn9
              refine lv_goto (tgt := 2) C.1 C.2.1 dX8_endJobs_78 (by decide) ?_
              exact ih S30 (l1 + 1) H locs ls hW hS hL h0 h1 hw
            · have hw := hw.1 hc28
              refine m_aldN C dX8_endJobs_61 rfl h0 ?_
              refine m_aldN C dX8_endJobs_62 rfl h2 ?_
              obtain ⟨hk31, hw⟩ := hw
              refine m_rV (m_runV (As := [va_rf (hR S b5 (l1 : Int32).toNatClampNeg)]) (rest := []) C hW hS hL (c_X8_finish hw) v_X8_255 ⟨rfl, rfl⟩ ⟨Nat.le_of_ble_eq_true rfl, Nat.le_of_ble_eq_true rfl⟩ rfl hk31 rfl rfl (Nat.le_of_ble_eq_true rfl) dX8_endJobs_63 ⟨Nat.le_of_ble_eq_true rfl, Nat.le_of_ble_eq_true rfl⟩) hS (fun S32 H locs hw hW hS => ?_)
              refine lv_goto (tgt := 75) C.1 C.2.1 dX8_endJobs_66 (by decide) ?_
              refine m_iinc (v := (l1 + 1)) C hL dX8_endJobs_75 h1 rfl (by decide) (fun ls hL hn9 hk9 => ?_)
              have h0 := hk9 0 _ h0 (by decide) (Or.inr (va_rf_cat _))
              have h1 := hn9
              refine lv_goto (tgt := 2) C.1 C.2.1 dX8_endJobs_78 (by decide) ?_
              exact ih S32 (l1 + 1) H locs ls hW hS hL h0 h1 hw
          refine lv_if_eq (tgt := 49) C.1 C.2.1 dX8_endJobs_39 (by decide) (fun hc18 => ?_) (fun hc18 => ?_)
          · have hw := hw.1 hc18
            refine m_aldN C dX8_endJobs_49 rfl h2 ?_
            obtain ⟨hk20, hw⟩ := hw
            refine m_getR C hW ho9 hk20 f_X8_246 rfl dX8_endJobs_50 ?_
            obtain ⟨b21, ho21, hw⟩ := hw
            obtain ⟨hk22, hw⟩ := hw
            refine m_rI (m_runV (As := []) (rest := []) C hW hS hL (c_X7_fault hw) v_X8_250 ⟨rfl, rfl⟩ ⟨Nat.le_of_ble_eq_true rfl, Nat.le_of_ble_eq_true rfl⟩ ho21 hk22 rfl rfl (Nat.le_of_ble_eq_true rfl) dX8_endJobs_53 ⟨Nat.le_of_ble_eq_true rfl, Nat.le_of_ble_eq_true rfl⟩) hS (fun r24 S23 H locs hw hW hS => ?_)
            exact wJ19 S23 r24 H locs ls hW hS hL h0 h1 h2 hw
          · have hw := hw.2 hc18
            refine m_aldN C dX8_endJobs_42 rfl h2 ?_
            obtain ⟨hk25, hw⟩ := hw
            refine m_getI C hW ho9 hk25 f_X8_243 rfl dX8_endJobs_43 ?_
            refine lv_goto (tgt := 56) C.1 C.2.1 dX8_endJobs_46 (by decide) ?_
            exact wJ19 S16 (hI S16 b9 12) H locs ls hW hS hL h0 h1 h2 hw
set_option maxRecDepth 100000 in
set_option maxHeartbeats 4000000 in
theorem c_X8_endJobs {l : Launch} {G : GX} {S : Hp} {a0 : Nat} {Q : Hp → Prop} (hw : wp_X8_endJobs S a0 Q) : Met l yX8_endJobs (Cond.code yX8_endJobs cX8_endJobs 4 none :: TS) { frames := 4, cells := 0, slots := 0, locals := 86 } (Pk G S [va_rf (some a0)]) (QV G Q) 0 0 G.2.2.1 := by
  refine m_met (by decide) ?_
  intro p e s m below meth c H locs C hW hS
  have C : Cx p s m ([va_rf (some a0)] : List Value).toArray meth c cX8_endJobs 4 RX8 none "endJobs" G := C
  obtain ⟨ls, hent, hL, hla⟩ := m_entry m (vs := [va_rf (some a0)]) (nn := 4) [1] rfl (by decide)
  rw [hent]
  have h0 : ls[0]? = some (.val (va_rf (some a0))) := hla (0, va_rf (some a0)) (List.mem_of_getElem? (i := 0) rfl)
  clear hla
  generalize ([va_rf (some a0)] : List Value).toArray = args at C ⊢
  unfold wp_X8_endJobs at hw
  refine lv_iconst (v := 0) C.1 C.2.1 dX8_endJobs_0 (by decide) ?_
  refine m_istN C hL dX8_endJobs_1 rfl (by decide) (fun ls hL hn9 hk9 => ?_)
  have h0 := hk9 0 _ h0 (by decide) (Or.inr (va_rf_cat _))
  have h1 := hn9
  exact w_X8_endJobs_L2 C  FU S 0 H locs ls hW hS hL h0 h1 hw
def wp_X8_cancelLeaning_L10 (l0 : Nat) (Q : Hp → Prop) : Nat → Hp → Int32 → Prop
  | 0, _, _ => False
  | n + 1, S, l1 => hK S l0 = 10 ∧ ((hI S l0 14) ≤ l1 → wp_X8_forgetMarks S l0 (fun S5 => Q S5)) ∧ (¬ ((hI S l0 14) ≤ l1) → ∃ b6 : Nat, (hR S l0 5) = some b6 ∧ hK S b6 = 19 ∧ vp_in l1 (hN S b6) ∧ ∃ b9 : Nat, (hR S b6 (l1 : Int32).toNatClampNeg) = some b9 ∧ hK S b9 = 6 ∧ ∃ b11 : Nat, (hR S b9 15) = some b11 ∧ hK S b11 = 12 ∧ ((hI S b11 0) = 0 → ∃ b14 : Nat, (hR S b9 6) = some b14 ∧ hK S b14 = 7 ∧ wp_X5_meets S b14 (hR S l0 6) (fun r17 S16 => (r17 = 0 → wp_X8_cancelLeaning_L10 l0 Q n S16 (l1 + 1)) ∧ (¬ (r17 = 0) → hK S16 b9 = 6 ∧ ∃ b20 : Nat, (hR S16 b9 15) = some b20 ∧ hK S16 b20 = 12 ∧ hK (sI S16 b20 0 3) l0 = 10 ∧ ∃ b23 : Nat, (hR (sI S16 b20 0 3) l0 7) = some b23 ∧ hK (sI S16 b20 0 3) b23 = 5 ∧ wp_X3_put (sI S16 b20 0 3) b23 (hI (sI S16 b20 0 3) l0 10) 3 (hI (sI S16 b20 0 3) b9 0) (fun S25 => wp_X8_cancelLeaning_L10 l0 Q n S25 (l1 + 1))))) ∧ (¬ ((hI S b11 0) = 0) → wp_X8_cancelLeaning_L10 l0 Q n S (l1 + 1)))
def wp_X8_cancelLeaning (S : Hp) (a0 : Nat) (Q : Hp → Prop) : Prop := hK S a0 = 10 ∧ ((hI S a0 16) = 0 → Q S) ∧ (¬ ((hI S a0 16) = 0) → wp_X8_cancelLeaning_L10 a0 Q FU S 0)
set_option maxRecDepth 100000 in
set_option maxHeartbeats 4000000 in
theorem w_X8_cancelLeaning_L10 {p : Program} {l : Launch} {e : Env} {s : State} {m : MethodId} {args : Array Value} {below : List Frame} {meth : Method} {c : Code} {G : GX} {Q : Hp → Prop} {l0 : Nat} (C : Cx p s m args meth c cX8_cancelLeaning 3 RX8 none "cancelLeaning" G) :
    ∀ (n : Nat) (S : Hp) (l1 : Int32) (H : Heap) (locs : List Loc) (ls : Array Slot), wd G S H → va_S G.2.2.1 s.heap H locs → LV ls 3 → ls[0]? = some (.val (va_rf (some l0))) → ls[1]? = some (.val (.int l1)) → wp_X8_cancelLeaning_L10 l0 Q n S l1 → W p l e ({ frames := 2, cells := 0, slots := 0, locals := 41 } : Room) s m args below meth c H locs 0 0 (MQ below (QV G Q) args s 0 0 G.2.2.1) (F0 m 10 ls []) := by
  intro n
  induction n with
  | zero =>
    intro S l1 H locs ls hW hS hL h0 h1 hw
    exact False.elim hw
  | succ n ih =>
    intro S l1 H locs ls hW hS hL h0 h1 hw
    unfold wp_X8_cancelLeaning_L10 at hw
    refine lv_iload_n C.1 C.2.1 dX8_cancelLeaning_10 rfl h1 ?_
    refine m_aldN C dX8_cancelLeaning_11 rfl h0 ?_
    obtain ⟨hk3, hw⟩ := hw
    refine m_getI C hW rfl hk3 f_X8_121 rfl dX8_cancelLeaning_12 ?_
    refine lv_icmp_ge (tgt := 79) C.1 C.2.1 dX8_cancelLeaning_15 (by decide) (fun hc4 => ?_) (fun hc4 => ?_)
    · have hw := hw.1 hc4
      refine m_aldN C dX8_cancelLeaning_79 rfl h0 ?_
      refine m_rV (m_runV (As := []) (rest := []) C hW hS hL (c_X8_forgetMarks hw) v_X8_131 ⟨rfl, rfl⟩ ⟨Nat.le_of_ble_eq_true rfl, Nat.le_of_ble_eq_true rfl⟩ rfl hk3 rfl rfl (Nat.le_of_ble_eq_true rfl) dX8_cancelLeaning_80 ⟨Nat.le_of_ble_eq_true rfl, Nat.le_of_ble_eq_true rfl⟩) hS (fun S5 H locs hw hW hS => ?_)
      exact m_vret C hW hS hw dX8_cancelLeaning_83
    · have hw := hw.2 hc4
      refine m_aldN C dX8_cancelLeaning_18 rfl h0 ?_
      refine m_getR C hW rfl hk3 f_X8_28 rfl dX8_cancelLeaning_19 ?_
      refine lv_iload_n C.1 C.2.1 dX8_cancelLeaning_22 rfl h1 ?_
      obtain ⟨b6, ho6, hw⟩ := hw
      obtain ⟨hk7, hw⟩ := hw
      obtain ⟨hi8, hw⟩ := hw
      refine m_aald C hW ho6 hk7 (by decide) (by decide) hi8 dX8_cancelLeaning_23 ?_
      refine m_astN C hL dX8_cancelLeaning_24 rfl (by decide) (fun ls hL hn9 hk9 => ?_)
      have h0 := hk9 0 _ h0 (by decide) (Or.inl (by decide))
      have h1 := hk9 1 _ h1 (by decide) (Or.inr (rfl))
      have h2 := hn9
      refine m_aldN C dX8_cancelLeaning_25 rfl h2 ?_
      obtain ⟨b9, ho9, hw⟩ := hw
      obtain ⟨hk10, hw⟩ := hw
      refine m_getR C hW ho9 hk10 f_X8_70 rfl dX8_cancelLeaning_26 ?_
      obtain ⟨b11, ho11, hw⟩ := hw
      obtain ⟨hk12, hw⟩ := hw
      refine m_getI C hW ho11 hk12 f_X8_74 rfl dX8_cancelLeaning_29 ?_
      refine lv_if_ne (tgt := 73) C.1 C.2.1 dX8_cancelLeaning_32 (by decide) (fun hc13 => ?_) (fun hc13 => ?_)
      · have hw := hw.2 hc13
        refine m_iinc (v := (l1 + 1)) C hL dX8_cancelLeaning_73 h1 rfl (by decide) (fun ls hL hn9 hk9 => ?_)
        have h0 := hk9 0 _ h0 (by decide) (Or.inr (va_rf_cat _))
        have h1 := hn9
        refine lv_goto (tgt := 10) C.1 C.2.1 dX8_cancelLeaning_76 (by decide) ?_
        exact ih S (l1 + 1) H locs ls hW hS hL h0 h1 hw
      · have hw := hw.1 hc13
        refine m_aldN C dX8_cancelLeaning_35 rfl h2 ?_
        refine m_getR C hW ho9 hk10 f_X8_87 rfl dX8_cancelLeaning_36 ?_
        refine m_aldN C dX8_cancelLeaning_39 rfl h0 ?_
        refine m_getR C hW rfl hk3 f_X8_34 rfl dX8_cancelLeaning_40 ?_
        obtain ⟨b14, ho14, hw⟩ := hw
        obtain ⟨hk15, hw⟩ := hw
        refine m_rI (m_runV (As := [va_rf (hR S l0 6)]) (rest := []) C hW hS hL (c_X5_meets hw) v_X8_193 ⟨rfl, rfl⟩ ⟨Nat.le_of_ble_eq_true rfl, Nat.le_of_ble_eq_true rfl⟩ ho14 hk15 rfl rfl (Nat.le_of_ble_eq_true rfl) dX8_cancelLeaning_43 ⟨Nat.le_of_ble_eq_true rfl, Nat.le_of_ble_eq_true rfl⟩) hS (fun r17 S16 H locs hw hW hS => ?_)
        refine lv_if_eq (tgt := 73) C.1 C.2.1 dX8_cancelLeaning_46 (by decide) (fun hc18 => ?_) (fun hc18 => ?_)
        · have hw := hw.1 hc18
          refine m_iinc (v := (l1 + 1)) C hL dX8_cancelLeaning_73 h1 rfl (by decide) (fun ls hL hn9 hk9 => ?_)
          have h0 := hk9 0 _ h0 (by decide) (Or.inr (va_rf_cat _))
          have h1 := hn9
          refine lv_goto (tgt := 10) C.1 C.2.1 dX8_cancelLeaning_76 (by decide) ?_
          exact ih S16 (l1 + 1) H locs ls hW hS hL h0 h1 hw
        · have hw := hw.2 hc18
          refine m_aldN C dX8_cancelLeaning_49 rfl h2 ?_
          obtain ⟨hk19, hw⟩ := hw
          refine m_getR C hW ho9 hk19 f_X8_70 rfl dX8_cancelLeaning_50 ?_
          refine lv_iconst (v := 3) C.1 C.2.1 dX8_cancelLeaning_53 (by decide) ?_
          obtain ⟨b20, ho20, hw⟩ := hw
          obtain ⟨hk21, hw⟩ := hw
          refine m_putI C hW hS ho20 hk21 p_X8_74 (fun z => by cases z) rfl dX8_cancelLeaning_54 (fun H locs hW hS => ?_)
          refine m_aldN C dX8_cancelLeaning_57 rfl h0 ?_
          obtain ⟨hk22, hw⟩ := hw
          refine m_getR C hW rfl hk22 f_X8_41 rfl dX8_cancelLeaning_58 ?_
          refine m_aldN C dX8_cancelLeaning_61 rfl h0 ?_
          refine m_getI C hW rfl hk22 f_X8_112 rfl dX8_cancelLeaning_62 ?_
          refine lv_iconst (v := 3) C.1 C.2.1 dX8_cancelLeaning_65 (by decide) ?_
          refine m_aldN C dX8_cancelLeaning_66 rfl h2 ?_
          refine m_getI C hW ho9 hk19 f_X8_208 rfl dX8_cancelLeaning_67 ?_
          obtain ⟨b23, ho23, hw⟩ := hw
          obtain ⟨hk24, hw⟩ := hw
          refine m_rV (m_runV (As := [.int (hI (sI S16 b20 0 3) l0 10), .int 3, .int (hI (sI S16 b20 0 3) b9 0)]) (rest := []) C hW hS hL (c_X3_put hw) v_X8_211 ⟨rfl, rfl⟩ ⟨Nat.le_of_ble_eq_true rfl, Nat.le_of_ble_eq_true rfl⟩ ho23 hk24 rfl rfl (Nat.le_of_ble_eq_true rfl) dX8_cancelLeaning_70 ⟨Nat.le_of_ble_eq_true rfl, Nat.le_of_ble_eq_true rfl⟩) hS (fun S25 H locs hw hW hS => ?_)
          refine m_iinc (v := (l1 + 1)) C hL dX8_cancelLeaning_73 h1 rfl (by decide) (fun ls hL hn9 hk9 => ?_)
          have h0 := hk9 0 _ h0 (by decide) (Or.inr (va_rf_cat _))
          have h1 := hn9
          refine lv_goto (tgt := 10) C.1 C.2.1 dX8_cancelLeaning_76 (by decide) ?_
          exact ih S25 (l1 + 1) H locs ls hW hS hL h0 h1 hw
set_option maxRecDepth 100000 in
set_option maxHeartbeats 4000000 in
theorem c_X8_cancelLeaning {l : Launch} {G : GX} {S : Hp} {a0 : Nat} {Q : Hp → Prop} (hw : wp_X8_cancelLeaning S a0 Q) : Met l yX8_cancelLeaning (Cond.code yX8_cancelLeaning cX8_cancelLeaning 3 none :: TS) { frames := 2, cells := 0, slots := 0, locals := 41 } (Pk G S [va_rf (some a0)]) (QV G Q) 0 0 G.2.2.1 := by
  refine m_met (by decide) ?_
  intro p e s m below meth c H locs C hW hS
  have C : Cx p s m ([va_rf (some a0)] : List Value).toArray meth c cX8_cancelLeaning 3 RX8 none "cancelLeaning" G := C
  obtain ⟨ls, hent, hL, hla⟩ := m_entry m (vs := [va_rf (some a0)]) (nn := 3) [1] rfl (by decide)
  rw [hent]
  have h0 : ls[0]? = some (.val (va_rf (some a0))) := hla (0, va_rf (some a0)) (List.mem_of_getElem? (i := 0) rfl)
  clear hla
  generalize ([va_rf (some a0)] : List Value).toArray = args at C ⊢
  unfold wp_X8_cancelLeaning at hw
  refine m_aldN C dX8_cancelLeaning_0 rfl h0 ?_
  obtain ⟨hk1, hw⟩ := hw
  refine m_getI C hW rfl hk1 f_X8_137 rfl dX8_cancelLeaning_1 ?_
  refine lv_if_ne (tgt := 8) C.1 C.2.1 dX8_cancelLeaning_4 (by decide) (fun hc2 => ?_) (fun hc2 => ?_)
  · have hw := hw.2 hc2
    refine lv_iconst (v := 0) C.1 C.2.1 dX8_cancelLeaning_8 (by decide) ?_
    refine m_istN C hL dX8_cancelLeaning_9 rfl (by decide) (fun ls hL hn9 hk9 => ?_)
    have h0 := hk9 0 _ h0 (by decide) (Or.inr (va_rf_cat _))
    have h1 := hn9
    exact w_X8_cancelLeaning_L10 C  FU S 0 H locs ls hW hS hL h0 h1 hw
  · have hw := hw.1 hc2
    exact m_vret C hW hS hw dX8_cancelLeaning_7
def wp_X8_isThere_L2 (S : Hp) (l0 : Nat) (l1 : Option Nat) (Q : Int32 → Hp → Prop) : Nat → Int32 → Prop
  | 0, _ => False
  | n + 1, l2 => ∃ b1 : Nat, l1 = some b1 ∧ hK S b1 = 2 ∧ ((hI S b1 2) ≤ l2 → Q 1 S) ∧ (¬ ((hI S b1 2) ≤ l2) → hK S l0 = 10 ∧ ∃ b5 : Nat, (hR S b1 0) = some b5 ∧ hK S b5 = 15 ∧ vp_in l2 (hN S b5) ∧ ∃ b8 : Nat, (hR S l0 1) = some b8 ∧ hK S b8 = 16 ∧ vp_in (hI S b5 (l2 : Int32).toNatClampNeg) (hN S b8) ∧ ∃ b11 : Nat, (hR S b1 1) = some b11 ∧ hK S b11 = 15 ∧ vp_in l2 (hN S b11) ∧ ((((hI S b11 (l2 : Int32).toNatClampNeg) : Int32).toInt64) ≤ (hJ S b8 ((hI S b5 (l2 : Int32).toNatClampNeg) : Int32).toNatClampNeg) → wp_X8_isThere_L2 S l0 l1 Q n (l2 + 1)) ∧ (¬ ((((hI S b11 (l2 : Int32).toNatClampNeg) : Int32).toInt64) ≤ (hJ S b8 ((hI S b5 (l2 : Int32).toNatClampNeg) : Int32).toNatClampNeg)) → Q 0 S))
def wp_X8_isThere (S : Hp) (a0 : Nat) (a1 : Option Nat) (Q : Int32 → Hp → Prop) : Prop := wp_X8_isThere_L2 S a0 a1 Q FU 0
set_option maxRecDepth 100000 in
set_option maxHeartbeats 4000000 in
theorem w_X8_isThere_L2 {p : Program} {l : Launch} {e : Env} {s : State} {m : MethodId} {args : Array Value} {below : List Frame} {meth : Method} {c : Code} {G : GX} {Q : Int32 → Hp → Prop} {l0 : Nat} {l1 : Option Nat} {S : Hp} {H : Heap} {locs : List Loc} (C : Cx p s m args meth c cX8_isThere 3 RX8 (some .boolean) "isThere" G) (hW : wd G S H) (hS : va_S G.2.2.1 s.heap H locs) :
    ∀ (n : Nat) (l2 : Int32) (ls : Array Slot), LV ls 3 → ls[0]? = some (.val (va_rf (some l0))) → ls[1]? = some (.val (va_rf l1)) → ls[2]? = some (.val (.int l2)) → wp_X8_isThere_L2 S l0 l1 Q n l2 → W p l e ({ frames := 0, cells := 0, slots := 0, locals := 0 } : Room) s m args below meth c H locs 0 0 (MQ below (QI G Q) args s 0 0 G.2.2.1) (F0 m 2 ls []) := by
  intro n
  induction n with
  | zero =>
    intro l2 ls hL h0 h1 h2 hw
    exact False.elim hw
  | succ n ih =>
    intro l2 ls hL h0 h1 h2 hw
    unfold wp_X8_isThere_L2 at hw
    refine lv_iload_n C.1 C.2.1 dX8_isThere_2 rfl h2 ?_
    refine m_aldN C dX8_isThere_3 rfl h1 ?_
    obtain ⟨b1, ho1, hw⟩ := hw
    obtain ⟨hk2, hw⟩ := hw
    refine m_getI C hW ho1 hk2 f_X8_176 rfl dX8_isThere_4 ?_
    refine lv_icmp_ge (tgt := 40) C.1 C.2.1 dX8_isThere_7 (by decide) (fun hc3 => ?_) (fun hc3 => ?_)
    · have hw := hw.1 hc3
      refine lv_iconst (v := 1) C.1 C.2.1 dX8_isThere_40 (by decide) ?_
      exact m_zret C hW hS (by decide) hw dX8_isThere_41
    · have hw := hw.2 hc3
      refine m_aldN C dX8_isThere_10 rfl h0 ?_
      obtain ⟨hk4, hw⟩ := hw
      refine m_getR C hW rfl hk4 f_X8_9 rfl dX8_isThere_11 ?_
      refine m_aldN C dX8_isThere_14 rfl h1 ?_
      refine m_getR C hW ho1 hk2 f_X8_179 rfl dX8_isThere_15 ?_
      refine lv_iload_n C.1 C.2.1 dX8_isThere_18 rfl h2 ?_
      obtain ⟨b5, ho5, hw⟩ := hw
      obtain ⟨hk6, hw⟩ := hw
      obtain ⟨hi7, hw⟩ := hw
      refine m_iald C hW ho5 hk6 hi7 dX8_isThere_19 ?_
      obtain ⟨b8, ho8, hw⟩ := hw
      obtain ⟨hk9, hw⟩ := hw
      obtain ⟨hi10, hw⟩ := hw
      refine m_lald C hW ho8 hk9 hi10 dX8_isThere_20 ?_
      refine m_aldN C dX8_isThere_21 rfl h1 ?_
      refine m_getR C hW ho1 hk2 f_X8_182 rfl dX8_isThere_22 ?_
      refine lv_iload_n C.1 C.2.1 dX8_isThere_25 rfl h2 ?_
      obtain ⟨b11, ho11, hw⟩ := hw
      obtain ⟨hk12, hw⟩ := hw
      obtain ⟨hi13, hw⟩ := hw
      refine m_iald C hW ho11 hk12 hi13 dX8_isThere_26 ?_
      refine lv_i2l (v := (((hI S b11 (l2 : Int32).toNatClampNeg) : Int32).toInt64)) C.1 C.2.1 dX8_isThere_27 rfl ?_
      refine W.lcmp C.1 C.2.1 dX8_isThere_28 ?_
      refine lv_if_ge (tgt := 34) C.1 C.2.1 dX8_isThere_29 (by decide) (fun hc14 => ?_) (fun hc14 => ?_)
      · have hw := hw.1 ((q_ge _ _).mp hc14)
        refine m_iinc (v := (l2 + 1)) C hL dX8_isThere_34 h2 rfl (by decide) (fun ls hL hn9 hk9 => ?_)
        have h0 := hk9 0 _ h0 (by decide) (Or.inl (by decide))
        have h1 := hk9 1 _ h1 (by decide) (Or.inr (va_rf_cat _))
        have h2 := hn9
        refine lv_goto (tgt := 2) C.1 C.2.1 dX8_isThere_37 (by decide) ?_
        exact ih (l2 + 1) ls hL h0 h1 h2 hw
      · have hw := hw.2 (fun z => hc14 ((q_ge _ _).mpr z))
        refine lv_iconst (v := 0) C.1 C.2.1 dX8_isThere_32 (by decide) ?_
        exact m_zret C hW hS (by decide) hw dX8_isThere_33
set_option maxRecDepth 100000 in
set_option maxHeartbeats 4000000 in
theorem c_X8_isThere {l : Launch} {G : GX} {S : Hp} {a0 : Nat} {a1 : Option Nat} {Q : Int32 → Hp → Prop} (hw : wp_X8_isThere S a0 a1 Q) : Met l yX8_isThere (Cond.code yX8_isThere cX8_isThere 3 (some .boolean) :: TS) { frames := 0, cells := 0, slots := 0, locals := 0 } (Pk G S [va_rf (some a0), va_rf a1]) (QI G Q) 0 0 G.2.2.1 := by
  refine m_met (by decide) ?_
  intro p e s m below meth c H locs C hW hS
  have C : Cx p s m ([va_rf (some a0), va_rf a1] : List Value).toArray meth c cX8_isThere 3 RX8 (some .boolean) "isThere" G := C
  obtain ⟨ls, hent, hL, hla⟩ := m_entry m (vs := [va_rf (some a0), va_rf a1]) (nn := 3) [1, 1] (by simp only [List.map_cons, List.map_nil, va_rf_cat] <;> rfl) (by decide)
  rw [hent]
  have h0 : ls[0]? = some (.val (va_rf (some a0))) := hla (0, va_rf (some a0)) (List.mem_of_getElem? (i := 0) rfl)
  have h1 : ls[1]? = some (.val (va_rf a1)) := hla (1, va_rf a1) (List.mem_of_getElem? (i := 1) rfl)
  clear hla
  generalize ([va_rf (some a0), va_rf a1] : List Value).toArray = args at C ⊢
  unfold wp_X8_isThere at hw
  refine lv_iconst (v := 0) C.1 C.2.1 dX8_isThere_0 (by decide) ?_
  refine m_istN C hL dX8_isThere_1 rfl (by decide) (fun ls hL hn9 hk9 => ?_)
  have h0 := hk9 0 _ h0 (by decide) (Or.inl (by decide))
  have h1 := hk9 1 _ h1 (by decide) (Or.inr (va_rf_cat _))
  have h2 := hn9
  exact w_X8_isThere_L2 C hW hS  FU 0 ls hL h0 h1 h2 hw
def wp_X8_canBegin (S : Hp) (a0 : Nat) (a1 : Option Nat) (Q : Int32 → Hp → Prop) : Prop := ∃ b1 : Nat, a1 = some b1 ∧ hK S b1 = 6 ∧ ∃ b3 : Nat, (hR S b1 15) = some b3 ∧ hK S b3 = 12 ∧ ((hI S b3 0) = 0 → ∃ b6 : Nat, (hR S b1 1) = some b6 ∧ hK S b6 = 4 ∧ ((hI S b6 3) ≤ 0 → Q 0 S) ∧ (¬ ((hI S b6 3) ≤ 0) → ((hI S b3 7) = 0 → hK S a0 = 10 ∧ (((hJ S b1 7) &&& (hJ S a0 17)) = 0 → wp_X8_isThere S a0 (hR S b1 8) (fun r13 S12 => (r13 = 0 → Q 0 S12) ∧ (¬ (r13 = 0) → Q 1 S12))) ∧ (¬ (((hJ S b1 7) &&& (hJ S a0 17)) = 0) → Q 0 S)) ∧ (¬ ((hI S b3 7) = 0) → Q 0 S))) ∧ (¬ ((hI S b3 0) = 0) → Q 0 S)
set_option maxRecDepth 100000 in
set_option maxHeartbeats 4000000 in
theorem c_X8_canBegin {l : Launch} {G : GX} {S : Hp} {a0 : Nat} {a1 : Option Nat} {Q : Int32 → Hp → Prop} (hw : wp_X8_canBegin S a0 a1 Q) : Met l yX8_canBegin (Cond.code yX8_canBegin cX8_canBegin 2 (some .boolean) :: TS) { frames := 1, cells := 0, slots := 0, locals := 22 } (Pk G S [va_rf (some a0), va_rf a1]) (QI G Q) 0 0 G.2.2.1 := by
  refine m_met (by decide) ?_
  intro p e s m below meth c H locs C hW hS
  have C : Cx p s m ([va_rf (some a0), va_rf a1] : List Value).toArray meth c cX8_canBegin 2 RX8 (some .boolean) "canBegin" G := C
  obtain ⟨ls, hent, hL, hla⟩ := m_entry m (vs := [va_rf (some a0), va_rf a1]) (nn := 2) [1, 1] (by simp only [List.map_cons, List.map_nil, va_rf_cat] <;> rfl) (by decide)
  rw [hent]
  have h0 : ls[0]? = some (.val (va_rf (some a0))) := hla (0, va_rf (some a0)) (List.mem_of_getElem? (i := 0) rfl)
  have h1 : ls[1]? = some (.val (va_rf a1)) := hla (1, va_rf a1) (List.mem_of_getElem? (i := 1) rfl)
  clear hla
  generalize ([va_rf (some a0), va_rf a1] : List Value).toArray = args at C ⊢
  unfold wp_X8_canBegin at hw
  refine m_aldN C dX8_canBegin_0 rfl h1 ?_
  obtain ⟨b1, ho1, hw⟩ := hw
  obtain ⟨hk2, hw⟩ := hw
  refine m_getR C hW ho1 hk2 f_X8_70 rfl dX8_canBegin_1 ?_
  obtain ⟨b3, ho3, hw⟩ := hw
  obtain ⟨hk4, hw⟩ := hw
  refine m_getI C hW ho3 hk4 f_X8_74 rfl dX8_canBegin_4 ?_
  refine lv_if_ne (tgt := 59) C.1 C.2.1 dX8_canBegin_7 (by decide) (fun hc5 => ?_) (fun hc5 => ?_)
  · have hw := hw.2 hc5
    refine lv_iconst (v := 0) C.1 C.2.1 dX8_canBegin_59 (by decide) ?_
    exact m_zret C hW hS (by decide) hw dX8_canBegin_60
  · have hw := hw.1 hc5
    refine m_aldN C dX8_canBegin_10 rfl h1 ?_
    refine m_getR C hW ho1 hk2 f_X8_101 rfl dX8_canBegin_11 ?_
    obtain ⟨b6, ho6, hw⟩ := hw
    obtain ⟨hk7, hw⟩ := hw
    refine m_getI C hW ho6 hk7 f_X8_150 rfl dX8_canBegin_14 ?_
    refine lv_if_le (tgt := 59) C.1 C.2.1 dX8_canBegin_17 (by decide) (fun hc8 => ?_) (fun hc8 => ?_)
    · have hw := hw.1 hc8
      refine lv_iconst (v := 0) C.1 C.2.1 dX8_canBegin_59 (by decide) ?_
      exact m_zret C hW hS (by decide) hw dX8_canBegin_60
    · have hw := hw.2 hc8
      refine m_aldN C dX8_canBegin_20 rfl h1 ?_
      refine m_getR C hW ho1 hk2 f_X8_70 rfl dX8_canBegin_21 ?_
      refine m_getI C hW ho3 hk4 f_X8_162 rfl dX8_canBegin_24 ?_
      refine lv_if_ne (tgt := 59) C.1 C.2.1 dX8_canBegin_27 (by decide) (fun hc9 => ?_) (fun hc9 => ?_)
      · have hw := hw.2 hc9
        refine lv_iconst (v := 0) C.1 C.2.1 dX8_canBegin_59 (by decide) ?_
        exact m_zret C hW hS (by decide) hw dX8_canBegin_60
      · have hw := hw.1 hc9
        refine m_aldN C dX8_canBegin_30 rfl h1 ?_
        refine m_getJ C hW ho1 hk2 f_X8_288 rfl dX8_canBegin_31 ?_
        refine m_aldN C dX8_canBegin_34 rfl h0 ?_
        obtain ⟨hk10, hw⟩ := hw
        refine m_getJ C hW rfl hk10 f_X8_127 rfl dX8_canBegin_35 ?_
        refine lv_land C.1 C.2.1 dX8_canBegin_38 ?_
        refine lv_lconst (v := 0) C.1 C.2.1 dX8_canBegin_39 (by decide) ?_
        refine W.lcmp C.1 C.2.1 dX8_canBegin_40 ?_
        refine lv_if_ne (tgt := 59) C.1 C.2.1 dX8_canBegin_41 (by decide) (fun hc11 => ?_) (fun hc11 => ?_)
        · have hw := hw.2 (fun z => hc11 ((q_ne _ _).mpr z))
          refine lv_iconst (v := 0) C.1 C.2.1 dX8_canBegin_59 (by decide) ?_
          exact m_zret C hW hS (by decide) hw dX8_canBegin_60
        · have hw := hw.1 ((q_ne _ _).mp hc11)
          refine m_aldN C dX8_canBegin_44 rfl h0 ?_
          refine m_aldN C dX8_canBegin_45 rfl h1 ?_
          refine m_getR C hW ho1 hk2 f_X8_201 rfl dX8_canBegin_46 ?_
          refine m_rI (m_runV (As := [va_rf (hR S b1 8)]) (rest := []) C hW hS hL (c_X8_isThere hw) v_X8_312 ⟨rfl, rfl⟩ ⟨Nat.le_of_ble_eq_true rfl, Nat.le_of_ble_eq_true rfl⟩ rfl hk10 rfl rfl (Nat.le_of_ble_eq_true rfl) dX8_canBegin_49 ⟨Nat.le_of_ble_eq_true rfl, Nat.le_of_ble_eq_true rfl⟩) hS (fun r13 S12 H locs hw hW hS => ?_)
          refine lv_if_eq (tgt := 59) C.1 C.2.1 dX8_canBegin_52 (by decide) (fun hc14 => ?_) (fun hc14 => ?_)
          · have hw := hw.1 hc14
            refine lv_iconst (v := 0) C.1 C.2.1 dX8_canBegin_59 (by decide) ?_
            exact m_zret C hW hS (by decide) hw dX8_canBegin_60
          · have hw := hw.2 hc14
            refine lv_iconst (v := 1) C.1 C.2.1 dX8_canBegin_55 (by decide) ?_
            refine lv_goto (tgt := 60) C.1 C.2.1 dX8_canBegin_56 (by decide) ?_
            exact m_zret C hW hS (by decide) hw dX8_canBegin_60
def wp_X8_leastFreeWorker_L15 (S : Hp) (l0 : Nat) (l2 : Int32) (Q : Int32 → Hp → Prop) : Nat → Int32 → Prop
  | 0, _ => False
  | n + 1, l3 => (l2 ≤ l3 → Q (-1) S) ∧ (¬ (l2 ≤ l3) → (32 ≤ l3 → Q (-1) S) ∧ (¬ (32 ≤ l3) → hK S l0 = 10 ∧ ∃ b8 : Nat, (hR S l0 4) = some b8 ∧ hK S b8 = 19 ∧ vp_in l3 (hN S b8) ∧ ((hR S b8 (l3 : Int32).toNatClampNeg) = none → Q l3 S) ∧ (¬ ((hR S b8 (l3 : Int32).toNatClampNeg) = none) → wp_X8_leastFreeWorker_L15 S l0 l2 Q n (l3 + 1))))
def wp_X8_leastFreeWorker (S : Hp) (a0 : Nat) (a1 : Option Nat) (Q : Int32 → Hp → Prop) : Prop := ∃ b1 : Nat, a1 = some b1 ∧ hK S b1 = 4 ∧ ∀ x3 : Int32, x3 = ((hI S b1 1) + (hI S b1 2)) → ∀ x4 : Int32, x4 = (hI S b1 1) → wp_X8_leastFreeWorker_L15 S a0 x3 Q FU x4
set_option maxRecDepth 100000 in
set_option maxHeartbeats 4000000 in
theorem w_X8_leastFreeWorker_L15 {p : Program} {l : Launch} {e : Env} {s : State} {m : MethodId} {args : Array Value} {below : List Frame} {meth : Method} {c : Code} {G : GX} {Q : Int32 → Hp → Prop} {l0 : Nat} {l2 : Int32} {S : Hp} {H : Heap} {locs : List Loc} (C : Cx p s m args meth c cX8_leastFreeWorker 4 RX8 (some .int) "leastFreeWorker" G) (hW : wd G S H) (hS : va_S G.2.2.1 s.heap H locs) :
    ∀ (n : Nat) (l3 : Int32) (ls : Array Slot), LV ls 4 → ls[0]? = some (.val (va_rf (some l0))) → ls[2]? = some (.val (.int l2)) → ls[3]? = some (.val (.int l3)) → wp_X8_leastFreeWorker_L15 S l0 l2 Q n l3 → W p l e ({ frames := 0, cells := 0, slots := 0, locals := 0 } : Room) s m args below meth c H locs 0 0 (MQ below (QI G Q) args s 0 0 G.2.2.1) (F0 m 15 ls []) := by
  intro n
  induction n with
  | zero =>
    intro l3 ls hL h0 h2 h3 hw
    exact False.elim hw
  | succ n ih =>
    intro l3 ls hL h0 h2 h3 hw
    unfold wp_X8_leastFreeWorker_L15 at hw
    refine lv_iload_n C.1 C.2.1 dX8_leastFreeWorker_15 rfl h3 ?_
    refine lv_iload_n C.1 C.2.1 dX8_leastFreeWorker_16 rfl h2 ?_
    refine lv_icmp_ge (tgt := 43) C.1 C.2.1 dX8_leastFreeWorker_17 (by decide) (fun hc5 => ?_) (fun hc5 => ?_)
    · have hw := hw.1 hc5
      refine lv_iconst (v := (-1)) C.1 C.2.1 dX8_leastFreeWorker_43 (by decide) ?_
      exact m_iret C hW hS hw dX8_leastFreeWorker_44
    · have hw := hw.2 hc5
      refine lv_iload_n C.1 C.2.1 dX8_leastFreeWorker_20 rfl h3 ?_
      refine lv_bipush (v := 32) C.1 C.2.1 dX8_leastFreeWorker_21 (by decide) ?_
      refine lv_icmp_ge (tgt := 43) C.1 C.2.1 dX8_leastFreeWorker_23 (by decide) (fun hc6 => ?_) (fun hc6 => ?_)
      · have hw := hw.1 hc6
        refine lv_iconst (v := (-1)) C.1 C.2.1 dX8_leastFreeWorker_43 (by decide) ?_
        exact m_iret C hW hS hw dX8_leastFreeWorker_44
      · have hw := hw.2 hc6
        refine m_aldN C dX8_leastFreeWorker_26 rfl h0 ?_
        obtain ⟨hk7, hw⟩ := hw
        refine m_getR C hW rfl hk7 f_X8_24 rfl dX8_leastFreeWorker_27 ?_
        refine lv_iload_n C.1 C.2.1 dX8_leastFreeWorker_30 rfl h3 ?_
        obtain ⟨b8, ho8, hw⟩ := hw
        obtain ⟨hk9, hw⟩ := hw
        obtain ⟨hi10, hw⟩ := hw
        refine m_aald C hW ho8 hk9 (by decide) (by decide) hi10 dX8_leastFreeWorker_31 ?_
        refine m_ifnonnull (tgt := 37) C dX8_leastFreeWorker_32 (by decide) (fun hc11 => ?_) (fun hc11 => ?_)
        · have hw := hw.2 hc11
          refine m_iinc (v := (l3 + 1)) C hL dX8_leastFreeWorker_37 h3 rfl (by decide) (fun ls hL hn9 hk9 => ?_)
          have h0 := hk9 0 _ h0 (by decide) (Or.inl (by decide))
          have h2 := hk9 2 _ h2 (by decide) (Or.inr (rfl))
          have h3 := hn9
          refine lv_goto (tgt := 15) C.1 C.2.1 dX8_leastFreeWorker_40 (by decide) ?_
          exact ih (l3 + 1) ls hL h0 h2 h3 hw
        · have hw := hw.1 hc11
          refine lv_iload_n C.1 C.2.1 dX8_leastFreeWorker_35 rfl h3 ?_
          exact m_iret C hW hS hw dX8_leastFreeWorker_36
set_option maxRecDepth 100000 in
set_option maxHeartbeats 4000000 in
theorem c_X8_leastFreeWorker {l : Launch} {G : GX} {S : Hp} {a0 : Nat} {a1 : Option Nat} {Q : Int32 → Hp → Prop} (hw : wp_X8_leastFreeWorker S a0 a1 Q) : Met l yX8_leastFreeWorker (Cond.code yX8_leastFreeWorker cX8_leastFreeWorker 4 (some .int) :: TS) { frames := 0, cells := 0, slots := 0, locals := 0 } (Pk G S [va_rf (some a0), va_rf a1]) (QI G Q) 0 0 G.2.2.1 := by
  refine m_met (by decide) ?_
  intro p e s m below meth c H locs C hW hS
  have C : Cx p s m ([va_rf (some a0), va_rf a1] : List Value).toArray meth c cX8_leastFreeWorker 4 RX8 (some .int) "leastFreeWorker" G := C
  obtain ⟨ls, hent, hL, hla⟩ := m_entry m (vs := [va_rf (some a0), va_rf a1]) (nn := 4) [1, 1] (by simp only [List.map_cons, List.map_nil, va_rf_cat] <;> rfl) (by decide)
  rw [hent]
  have h0 : ls[0]? = some (.val (va_rf (some a0))) := hla (0, va_rf (some a0)) (List.mem_of_getElem? (i := 0) rfl)
  have h1 : ls[1]? = some (.val (va_rf a1)) := hla (1, va_rf a1) (List.mem_of_getElem? (i := 1) rfl)
  clear hla
  generalize ([va_rf (some a0), va_rf a1] : List Value).toArray = args at C ⊢
  unfold wp_X8_leastFreeWorker at hw
  refine m_aldN C dX8_leastFreeWorker_0 rfl h1 ?_
  obtain ⟨b1, ho1, hw⟩ := hw
  obtain ⟨hk2, hw⟩ := hw
  refine m_getI C hW ho1 hk2 f_X8_323 rfl dX8_leastFreeWorker_1 ?_
  refine m_aldN C dX8_leastFreeWorker_4 rfl h1 ?_
  refine m_getI C hW ho1 hk2 f_X8_93 rfl dX8_leastFreeWorker_5 ?_
  refine lv_iadd C.1 C.2.1 dX8_leastFreeWorker_8 ?_
  refine lv_topi (fun x3 ex3 => ?_)
  have hw := hw x3 ex3
  refine m_istN C hL dX8_leastFreeWorker_9 rfl (by decide) (fun ls hL hn9 hk9 => ?_)
  have h0 := hk9 0 _ h0 (by decide) (Or.inl (by decide))
  have h1 := hk9 1 _ h1 (by decide) (Or.inr (va_rf_cat _))
  have h2 := hn9
  refine m_aldN C dX8_leastFreeWorker_10 rfl h1 ?_
  refine m_getI C hW ho1 hk2 f_X8_323 rfl dX8_leastFreeWorker_11 ?_
  refine lv_topi (fun x4 ex4 => ?_)
  have hw := hw x4 ex4
  refine m_istN C hL dX8_leastFreeWorker_14 rfl (by decide) (fun ls hL hn9 hk9 => ?_)
  have h0 := hk9 0 _ h0 (by decide) (Or.inl (by decide))
  have h2 := hk9 2 _ h2 (by decide) (Or.inr (rfl))
  have h3 := hn9
  exact w_X8_leastFreeWorker_L15 C hW hS  FU x4 ls hL h0 h2 h3 hw
def wp_X8_takeMachines_L15 (l0 : Nat) (l1 : Nat) (Q : Hp → Prop) : Nat → Hp → Int32 → Prop
  | 0, _, _ => False
  | n + 1, S, l2 => hK S l0 = 10 ∧ ∃ b5 : Nat, (hR S l0 0) = some b5 ∧ hK S b5 = 11 ∧ ((hI S b5 3) ≤ l2 → Q S) ∧ (¬ ((hI S b5 3) ≤ l2) → hK S l1 = 6 ∧ ((hJ S l1 7) = 0 → Q S) ∧ (¬ ((hJ S l1 7) = 0) → ((((hJ S l1 7) >>> ((l2 : Int32).toInt64 &&& 63)) &&& 1) = 0 → wp_X8_takeMachines_L15 l0 l1 Q n S (l2 + 1)) ∧ (¬ ((((hJ S l1 7) >>> ((l2 : Int32).toInt64 &&& 63)) &&& 1) = 0) → ∃ b11 : Nat, (hR S l0 3) = some b11 ∧ hK S b11 = 15 ∧ vp_in l2 (hN S b11) ∧ wp_X8_takeMachines_L15 l0 l1 Q n (sI S b11 (l2 : Int32).toNatClampNeg (hI S l1 0)) (l2 + 1))))
def wp_X8_takeMachines (S : Hp) (a0 : Nat) (a1 : Option Nat) (Q : Hp → Prop) : Prop := hK S a0 = 10 ∧ ∃ b2 : Nat, a1 = some b2 ∧ hK S b2 = 6 ∧ wp_X8_takeMachines_L15 a0 b2 Q FU (sJ S a0 17 ((hJ S a0 17) ||| (hJ S b2 7))) 0
set_option maxRecDepth 100000 in
set_option maxHeartbeats 4000000 in
theorem w_X8_takeMachines_L15 {p : Program} {l : Launch} {e : Env} {s : State} {m : MethodId} {args : Array Value} {below : List Frame} {meth : Method} {c : Code} {G : GX} {Q : Hp → Prop} {l0 : Nat} {l1 : Nat} (C : Cx p s m args meth c cX8_takeMachines 3 RX8 none "takeMachines" G) :
    ∀ (n : Nat) (S : Hp) (l2 : Int32) (H : Heap) (locs : List Loc) (ls : Array Slot), wd G S H → va_S G.2.2.1 s.heap H locs → LV ls 3 → ls[0]? = some (.val (va_rf (some l0))) → ls[1]? = some (.val (va_rf (some l1))) → ls[2]? = some (.val (.int l2)) → wp_X8_takeMachines_L15 l0 l1 Q n S l2 → W p l e ({ frames := 0, cells := 0, slots := 0, locals := 0 } : Room) s m args below meth c H locs 0 0 (MQ below (QV G Q) args s 0 0 G.2.2.1) (F0 m 15 ls []) := by
  intro n
  induction n with
  | zero =>
    intro S l2 H locs ls hW hS hL h0 h1 h2 hw
    exact False.elim hw
  | succ n ih =>
    intro S l2 H locs ls hW hS hL h0 h1 h2 hw
    unfold wp_X8_takeMachines_L15 at hw
    refine lv_iload_n C.1 C.2.1 dX8_takeMachines_15 rfl h2 ?_
    refine m_aldN C dX8_takeMachines_16 rfl h0 ?_
    obtain ⟨hk4, hw⟩ := hw
    refine m_getR C hW rfl hk4 f_X8_45 rfl dX8_takeMachines_17 ?_
    obtain ⟨b5, ho5, hw⟩ := hw
    obtain ⟨hk6, hw⟩ := hw
    refine m_getI C hW ho5 hk6 f_X8_326 rfl dX8_takeMachines_20 ?_
    refine lv_icmp_ge (tgt := 64) C.1 C.2.1 dX8_takeMachines_23 (by decide) (fun hc7 => ?_) (fun hc7 => ?_)
    · have hw := hw.1 hc7
      exact m_vret C hW hS hw dX8_takeMachines_64
    · have hw := hw.2 hc7
      refine m_aldN C dX8_takeMachines_26 rfl h1 ?_
      obtain ⟨hk8, hw⟩ := hw
      refine m_getJ C hW rfl hk8 f_X8_288 rfl dX8_takeMachines_27 ?_
      refine lv_lconst (v := 0) C.1 C.2.1 dX8_takeMachines_30 (by decide) ?_
      refine W.lcmp C.1 C.2.1 dX8_takeMachines_31 ?_
      refine lv_if_eq (tgt := 64) C.1 C.2.1 dX8_takeMachines_32 (by decide) (fun hc9 => ?_) (fun hc9 => ?_)
      · have hw := hw.1 ((q_eq _ _).mp hc9)
        exact m_vret C hW hS hw dX8_takeMachines_64
      · have hw := hw.2 (fun z => hc9 ((q_eq _ _).mpr z))
        refine m_aldN C dX8_takeMachines_35 rfl h1 ?_
        refine m_getJ C hW rfl hk8 f_X8_288 rfl dX8_takeMachines_36 ?_
        refine lv_iload_n C.1 C.2.1 dX8_takeMachines_39 rfl h2 ?_
        refine lv_lshr (v := ((hJ S l1 7) >>> ((l2 : Int32).toInt64 &&& 63))) C.1 C.2.1 dX8_takeMachines_40 rfl ?_
        refine lv_lconst (v := 1) C.1 C.2.1 dX8_takeMachines_41 (by decide) ?_
        refine lv_land C.1 C.2.1 dX8_takeMachines_42 ?_
        refine lv_lconst (v := 0) C.1 C.2.1 dX8_takeMachines_43 (by decide) ?_
        refine W.lcmp C.1 C.2.1 dX8_takeMachines_44 ?_
        refine lv_if_eq (tgt := 58) C.1 C.2.1 dX8_takeMachines_45 (by decide) (fun hc10 => ?_) (fun hc10 => ?_)
        · have hw := hw.1 ((q_eq _ _).mp hc10)
          refine m_iinc (v := (l2 + 1)) C hL dX8_takeMachines_58 h2 rfl (by decide) (fun ls hL hn9 hk9 => ?_)
          have h0 := hk9 0 _ h0 (by decide) (Or.inl (by decide))
          have h1 := hk9 1 _ h1 (by decide) (Or.inr (va_rf_cat _))
          have h2 := hn9
          refine lv_goto (tgt := 15) C.1 C.2.1 dX8_takeMachines_61 (by decide) ?_
          exact ih S (l2 + 1) H locs ls hW hS hL h0 h1 h2 hw
        · have hw := hw.2 (fun z => hc10 ((q_eq _ _).mpr z))
          refine m_aldN C dX8_takeMachines_48 rfl h0 ?_
          refine m_getR C hW rfl hk4 f_X8_18 rfl dX8_takeMachines_49 ?_
          refine lv_iload_n C.1 C.2.1 dX8_takeMachines_52 rfl h2 ?_
          refine m_aldN C dX8_takeMachines_53 rfl h1 ?_
          refine m_getI C hW rfl hk8 f_X8_208 rfl dX8_takeMachines_54 ?_
          obtain ⟨b11, ho11, hw⟩ := hw
          obtain ⟨hk12, hw⟩ := hw
          obtain ⟨hi13, hw⟩ := hw
          refine m_iast C hW hS ho11 hk12 hi13 dX8_takeMachines_57 (fun H locs hW hS => ?_)
          refine m_iinc (v := (l2 + 1)) C hL dX8_takeMachines_58 h2 rfl (by decide) (fun ls hL hn9 hk9 => ?_)
          have h0 := hk9 0 _ h0 (by decide) (Or.inl (by decide))
          have h1 := hk9 1 _ h1 (by decide) (Or.inr (va_rf_cat _))
          have h2 := hn9
          refine lv_goto (tgt := 15) C.1 C.2.1 dX8_takeMachines_61 (by decide) ?_
          exact ih (sI S b11 (l2 : Int32).toNatClampNeg (hI S l1 0)) (l2 + 1) H locs ls hW hS hL h0 h1 h2 hw
set_option maxRecDepth 100000 in
set_option maxHeartbeats 4000000 in
theorem c_X8_takeMachines {l : Launch} {G : GX} {S : Hp} {a0 : Nat} {a1 : Option Nat} {Q : Hp → Prop} (hw : wp_X8_takeMachines S a0 a1 Q) : Met l yX8_takeMachines (Cond.code yX8_takeMachines cX8_takeMachines 3 none :: TS) { frames := 0, cells := 0, slots := 0, locals := 0 } (Pk G S [va_rf (some a0), va_rf a1]) (QV G Q) 0 0 G.2.2.1 := by
  refine m_met (by decide) ?_
  intro p e s m below meth c H locs C hW hS
  have C : Cx p s m ([va_rf (some a0), va_rf a1] : List Value).toArray meth c cX8_takeMachines 3 RX8 none "takeMachines" G := C
  obtain ⟨ls, hent, hL, hla⟩ := m_entry m (vs := [va_rf (some a0), va_rf a1]) (nn := 3) [1, 1] (by simp only [List.map_cons, List.map_nil, va_rf_cat] <;> rfl) (by decide)
  rw [hent]
  have h0 : ls[0]? = some (.val (va_rf (some a0))) := hla (0, va_rf (some a0)) (List.mem_of_getElem? (i := 0) rfl)
  have h1 : ls[1]? = some (.val (va_rf a1)) := hla (1, va_rf a1) (List.mem_of_getElem? (i := 1) rfl)
  clear hla
  generalize ([va_rf (some a0), va_rf a1] : List Value).toArray = args at C ⊢
  unfold wp_X8_takeMachines at hw
  refine m_aldN C dX8_takeMachines_0 rfl h0 ?_
  refine lv_dup C.1 C.2.1 dX8_takeMachines_1 (va_rf_cat _) ?_
  obtain ⟨hk1, hw⟩ := hw
  refine m_getJ C hW rfl hk1 f_X8_127 rfl dX8_takeMachines_2 ?_
  refine m_aldN C dX8_takeMachines_5 rfl h1 ?_
  obtain ⟨b2, ho2, hw⟩ := hw
  obtain ⟨hk3, hw⟩ := hw
  refine m_getJ C hW ho2 hk3 f_X8_288 rfl dX8_takeMachines_6 ?_
  refine lv_lor C.1 C.2.1 dX8_takeMachines_9 ?_
  refine m_putJ C hW hS rfl hk1 p_X8_127 (fun z => by cases z) rfl dX8_takeMachines_10 (fun H locs hW hS => ?_)
  refine lv_iconst (v := 0) C.1 C.2.1 dX8_takeMachines_13 (by decide) ?_
  refine m_istN C hL dX8_takeMachines_14 rfl (by decide) (fun ls hL hn9 hk9 => ?_)
  have h0 := hk9 0 _ h0 (by decide) (Or.inl (by decide))
  have h1 := hk9 1 _ h1 (by decide) (Or.inr (va_rf_cat _))
  have h2 := hn9
  rw [ho2] at h1
  exact w_X8_takeMachines_L15 C  FU (sJ S a0 17 ((hJ S a0 17) ||| (hJ S b2 7))) 0 H locs ls hW hS hL h0 h1 h2 hw
