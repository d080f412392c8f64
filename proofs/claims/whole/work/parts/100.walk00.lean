def wp_X0_init (S : Hp) (a0 : Nat) (Q : Hp → Prop) : Prop := ∀ q1 : Nat, hK S q1 = 0 → hK (sN S q1 15 60) a0 = 2 ∧ ∀ q3 : Nat, hK (sR (sN S q1 15 60) a0 0 (some q1)) q3 = 0 → hK (sN (sR (sN S q1 15 60) a0 0 (some q1)) q3 15 60) a0 = 2 ∧ Q (sR (sN (sR (sN S q1 15 60) a0 0 (some q1)) q3 15 60) a0 1 (some q3))
set_option maxRecDepth 100000 in
set_option maxHeartbeats 4000000 in
theorem c_X0_init {l : Launch} {G : GX} {S : Hp} {a0 : Nat} {Q : Hp → Prop} (hw : wp_X0_init S a0 Q) : Met l yX0_init (Cond.code yX0_init cX0_init 1 none :: TS) { frames := 1, cells := 2, slots := 120, locals := 20 } (Pk G S [va_rf (some a0)]) (QV G Q) 2 120 G.2.2.1 := by
  refine m_met (by decide) ?_
  intro p e s m below meth c H locs C hW hS
  have C : Cx p s m ([va_rf (some a0)] : List Value).toArray meth c cX0_init 1 RX0 none "<init>" G := C
  obtain ⟨ls, hent, hL, hla⟩ := m_entry m (vs := [va_rf (some a0)]) (nn := 1) [1] rfl (by decide)
  rw [hent]
  have h0 : ls[0]? = some (.val (va_rf (some a0))) := hla (0, va_rf (some a0)) (List.mem_of_getElem? (i := 0) rfl)
  clear hla
  generalize ([va_rf (some a0)] : List Value).toArray = args at C ⊢
  unfold wp_X0_init at hw
  refine m_aldN C dX0_init_0 rfl h0 ?_
  refine m_obj C tw_365 tw_33 tw_34 hL.1 ⟨Nat.le_of_ble_eq_true rfl, Nat.le_of_ble_eq_true rfl⟩ (Nat.le_of_ble_eq_true rfl) rfl dX0_init_1 ?_
  refine m_aldN C dX0_init_4 rfl h0 ?_
  refine lv_bipush (v := 60) C.1 C.2.1 dX0_init_5 (by decide) ?_
  refine m_newa (N := 60) C hW hS (Or.inl ⟨rfl, rfl⟩) tw_122 (by decide) (by decide) (by decide) (Nat.le_of_ble_eq_true rfl) (Nat.le_of_ble_eq_true rfl) dX0_init_7 (fun q1 H hq1 hW hS => ?_)
  have hw := hw q1 hq1
  obtain ⟨hk2, hw⟩ := hw
  refine m_putR C hW hS rfl hk2 p_X0_9 (fun _ => rfl) rfl dX0_init_9 (fun H locs hW hS => ?_)
  refine m_aldN C dX0_init_12 rfl h0 ?_
  refine lv_bipush (v := 60) C.1 C.2.1 dX0_init_13 (by decide) ?_
  refine m_newa (N := 60) C hW hS (Or.inl ⟨rfl, rfl⟩) tw_122 (by decide) (by decide) (by decide) (Nat.le_of_ble_eq_true rfl) (Nat.le_of_ble_eq_true rfl) dX0_init_15 (fun q3 H hq3 hW hS => ?_)
  have hw := hw q3 hq3
  obtain ⟨hk4, hw⟩ := hw
  refine m_putR C hW hS rfl hk4 p_X0_15 (fun _ => rfl) rfl dX0_init_17 (fun H locs hW hS => ?_)
  exact m_vret C hW hS hw dX0_init_20
def wp_X0_placeOf_L2 (S : Hp) (l0 : Nat) (l1 : Int32) (Q : Int32 → Hp → Prop) : Nat → Int32 → Prop
  | 0, _ => False
  | n + 1, l2 => hK S l0 = 2 ∧ ((hI S l0 2) ≤ l2 → Q (-1) S) ∧ (¬ ((hI S l0 2) ≤ l2) → ∃ b3 : Nat, (hR S l0 0) = some b3 ∧ hK S b3 = 15 ∧ vp_in l2 (hN S b3) ∧ ((hI S b3 (l2 : Int32).toNatClampNeg) = l1 → Q l2 S) ∧ (¬ ((hI S b3 (l2 : Int32).toNatClampNeg) = l1) → wp_X0_placeOf_L2 S l0 l1 Q n (l2 + 1)))
def wp_X0_placeOf (S : Hp) (a0 : Nat) (a1 : Int32) (Q : Int32 → Hp → Prop) : Prop := wp_X0_placeOf_L2 S a0 a1 Q FU 0
set_option maxRecDepth 100000 in
set_option maxHeartbeats 4000000 in
theorem w_X0_placeOf_L2 {p : Program} {l : Launch} {e : Env} {s : State} {m : MethodId} {args : Array Value} {below : List Frame} {meth : Method} {c : Code} {G : GX} {Q : Int32 → Hp → Prop} {l0 : Nat} {l1 : Int32} {S : Hp} {H : Heap} {locs : List Loc} (C : Cx p s m args meth c cX0_placeOf 3 RX0 (some .int) "placeOf" G) (hW : wd G S H) (hS : va_S G.2.2.1 s.heap H locs) :
    ∀ (n : Nat) (l2 : Int32) (ls : Array Slot), LV ls 3 → ls[0]? = some (.val (va_rf (some l0))) → ls[1]? = some (.val (.int l1)) → ls[2]? = some (.val (.int l2)) → wp_X0_placeOf_L2 S l0 l1 Q n l2 → W p l e ({ frames := 0, cells := 0, slots := 0, locals := 0 } : Room) s m args below meth c H locs 0 0 (MQ below (QI G Q) args s 0 0 G.2.2.1) (F0 m 2 ls []) := by
  intro n
  induction n with
  | zero =>
    intro l2 ls hL h0 h1 h2 hw
    exact False.elim hw
  | succ n ih =>
    intro l2 ls hL h0 h1 h2 hw
    unfold wp_X0_placeOf_L2 at hw
    refine lv_iload_n C.1 C.2.1 dX0_placeOf_2 rfl h2 ?_
    refine m_aldN C dX0_placeOf_3 rfl h0 ?_
    obtain ⟨hk1, hw⟩ := hw
    refine m_getI C hW rfl hk1 f_X0_22 rfl dX0_placeOf_4 ?_
    refine lv_icmp_ge (tgt := 28) C.1 C.2.1 dX0_placeOf_7 (by decide) (fun hc2 => ?_) (fun hc2 => ?_)
    · have hw := hw.1 hc2
      refine lv_iconst (v := (-1)) C.1 C.2.1 dX0_placeOf_28 (by decide) ?_
      exact m_iret C hW hS hw dX0_placeOf_29
    · have hw := hw.2 hc2
      refine m_aldN C dX0_placeOf_10 rfl h0 ?_
      refine m_getR C hW rfl hk1 f_X0_9 rfl dX0_placeOf_11 ?_
      refine lv_iload_n C.1 C.2.1 dX0_placeOf_14 rfl h2 ?_
      obtain ⟨b3, ho3, hw⟩ := hw
      obtain ⟨hk4, hw⟩ := hw
      obtain ⟨hi5, hw⟩ := hw
      refine m_iald C hW ho3 hk4 hi5 dX0_placeOf_15 ?_
      refine lv_iload_n C.1 C.2.1 dX0_placeOf_16 rfl h1 ?_
      refine lv_icmp_ne (tgt := 22) C.1 C.2.1 dX0_placeOf_17 (by decide) (fun hc6 => ?_) (fun hc6 => ?_)
      · have hw := hw.2 hc6
        refine m_iinc (v := (l2 + 1)) C hL dX0_placeOf_22 h2 rfl (by decide) (fun ls hL hn9 hk9 => ?_)
        have h0 := hk9 0 _ h0 (by decide) (Or.inl (by decide))
        have h1 := hk9 1 _ h1 (by decide) (Or.inr (rfl))
        have h2 := hn9
        refine lv_goto (tgt := 2) C.1 C.2.1 dX0_placeOf_25 (by decide) ?_
        exact ih (l2 + 1) ls hL h0 h1 h2 hw
      · have hw := hw.1 hc6
        refine lv_iload_n C.1 C.2.1 dX0_placeOf_20 rfl h2 ?_
        exact m_iret C hW hS hw dX0_placeOf_21
set_option maxRecDepth 100000 in
set_option maxHeartbeats 4000000 in
theorem c_X0_placeOf {l : Launch} {G : GX} {S : Hp} {a0 : Nat} {a1 : Int32} {Q : Int32 → Hp → Prop} (hw : wp_X0_placeOf S a0 a1 Q) : Met l yX0_placeOf (Cond.code yX0_placeOf cX0_placeOf 3 (some .int) :: TS) { frames := 0, cells := 0, slots := 0, locals := 0 } (Pk G S [va_rf (some a0), .int a1]) (QI G Q) 0 0 G.2.2.1 := by
  refine m_met (by decide) ?_
  intro p e s m below meth c H locs C hW hS
  have C : Cx p s m ([va_rf (some a0), .int a1] : List Value).toArray meth c cX0_placeOf 3 RX0 (some .int) "placeOf" G := C
  obtain ⟨ls, hent, hL, hla⟩ := m_entry m (vs := [va_rf (some a0), .int a1]) (nn := 3) [1, 1] rfl (by decide)
  rw [hent]
  have h0 : ls[0]? = some (.val (va_rf (some a0))) := hla (0, va_rf (some a0)) (List.mem_of_getElem? (i := 0) rfl)
  have h1 : ls[1]? = some (.val (.int a1)) := hla (1, .int a1) (List.mem_of_getElem? (i := 1) rfl)
  clear hla
  generalize ([va_rf (some a0), .int a1] : List Value).toArray = args at C ⊢
  unfold wp_X0_placeOf at hw
  refine lv_iconst (v := 0) C.1 C.2.1 dX0_placeOf_0 (by decide) ?_
  refine m_istN C hL dX0_placeOf_1 rfl (by decide) (fun ls hL hn9 hk9 => ?_)
  have h0 := hk9 0 _ h0 (by decide) (Or.inl (by decide))
  have h1 := hk9 1 _ h1 (by decide) (Or.inr (rfl))
  have h2 := hn9
  exact w_X0_placeOf_L2 C hW hS  FU 0 ls hL h0 h1 h2 hw
def wp_X0_put (S : Hp) (a0 : Nat) (a1 : Int32) (a2 : Int32) (Q : Hp → Prop) : Prop := hK S a0 = 2 ∧ wp_X0_placeOf S a0 a1 (fun r3 S2 => ∃ J5 : Hp → Int32 → Prop, J5 = (fun (S9 : Hp) (x10 : Int32) => (x10 = (-1) → Q S9) ∧ (¬ (x10 = (-1)) → hK S9 a0 = 2 ∧ ∃ b13 : Nat, (hR S9 a0 0) = some b13 ∧ hK S9 b13 = 15 ∧ vp_in x10 (hN S9 b13) ∧ ∃ b16 : Nat, (hR (sI S9 b13 (x10 : Int32).toNatClampNeg a1) a0 1) = some b16 ∧ hK (sI S9 b13 (x10 : Int32).toNatClampNeg a1) b16 = 15 ∧ vp_in x10 (hN (sI S9 b13 (x10 : Int32).toNatClampNeg a1) b16) ∧ Q (sI (sI S9 b13 (x10 : Int32).toNatClampNeg a1) b16 (x10 : Int32).toNatClampNeg a2))) ∧ (r3 = (-1) → hK S2 a0 = 2 ∧ (60 ≤ (hI S2 a0 2) → J5 S2 r3) ∧ (¬ (60 ≤ (hI S2 a0 2)) → ∀ x8 : Int32, x8 = (hI S2 a0 2) → J5 (sI S2 a0 2 ((hI S2 a0 2) + 1)) x8)) ∧ (¬ (r3 = (-1)) → J5 S2 r3))
set_option maxRecDepth 100000 in
set_option maxHeartbeats 4000000 in
theorem c_X0_put {l : Launch} {G : GX} {S : Hp} {a0 : Nat} {a1 : Int32} {a2 : Int32} {Q : Hp → Prop} (hw : wp_X0_put S a0 a1 a2 Q) : Met l yX0_put (Cond.code yX0_put cX0_put 4 none :: TS) { frames := 1, cells := 0, slots := 0, locals := 22 } (Pk G S [va_rf (some a0), .int a1, .int a2]) (QV G Q) 0 0 G.2.2.1 := by
  refine m_met (by decide) ?_
  intro p e s m below meth c H locs C hW hS
  have C : Cx p s m ([va_rf (some a0), .int a1, .int a2] : List Value).toArray meth c cX0_put 4 RX0 none "put" G := C
  obtain ⟨ls, hent, hL, hla⟩ := m_entry m (vs := [va_rf (some a0), .int a1, .int a2]) (nn := 4) [1, 1, 1] rfl (by decide)
  rw [hent]
  have h0 : ls[0]? = some (.val (va_rf (some a0))) := hla (0, va_rf (some a0)) (List.mem_of_getElem? (i := 0) rfl)
  have h1 : ls[1]? = some (.val (.int a1)) := hla (1, .int a1) (List.mem_of_getElem? (i := 1) rfl)
  have h2 : ls[2]? = some (.val (.int a2)) := hla (2, .int a2) (List.mem_of_getElem? (i := 2) rfl)
  clear hla
  generalize ([va_rf (some a0), .int a1, .int a2] : List Value).toArray = args at C ⊢
  unfold wp_X0_put at hw
  refine m_aldN C dX0_put_0 rfl h0 ?_
  refine lv_iload_n C.1 C.2.1 dX0_put_1 rfl h1 ?_
  obtain ⟨hk1, hw⟩ := hw
  refine m_rI (m_runV (As := [.int a1]) (rest := []) C hW hS hL (c_X0_placeOf hw) v_X0_18 ⟨rfl, rfl⟩ ⟨Nat.le_of_ble_eq_true rfl, Nat.le_of_ble_eq_true rfl⟩ rfl hk1 rfl rfl (Nat.le_of_ble_eq_true rfl) dX0_put_2 ⟨Nat.le_of_ble_eq_true rfl, Nat.le_of_ble_eq_true rfl⟩) hS (fun r3 S2 H locs hw hW hS => ?_)
  refine m_istN C hL dX0_put_5 rfl (by decide) (fun ls hL hn9 hk9 => ?_)
  have h0 := hk9 0 _ h0 (by decide) (Or.inl (by decide))
  have h1 := hk9 1 _ h1 (by decide) (Or.inl (by decide))
  have h2 := hk9 2 _ h2 (by decide) (Or.inr (rfl))
  have h3 := hn9
  refine lv_iload_n C.1 C.2.1 dX0_put_6 rfl h3 ?_
  refine lv_iconst (v := (-1)) C.1 C.2.1 dX0_put_7 (by decide) ?_
  obtain ⟨J5, eJ5, hw⟩ := hw
  have wJ5 : ∀ (S9 : Hp) (x10 : Int32) (H : Heap) (locs : List Loc) (ls : Array Slot), wd G S9 H → va_S G.2.2.1 s.heap H locs → LV ls 4 → ls[0]? = some (.val (va_rf (some a0))) → ls[1]? = some (.val (.int a1)) → ls[2]? = some (.val (.int a2)) → ls[3]? = some (.val (.int x10)) → J5 S9 x10 → W p l e ({ frames := 1, cells := 0, slots := 0, locals := 22 } : Room) s m args below meth c H locs 0 0 (MQ below (QV G Q) args s 0 0 G.2.2.1) (F0 m 35 ls []) := by
    intro S9 x10 H locs ls hW hS hL h0 h1 h2 h3 hw
    rw [eJ5] at hw
    refine lv_iload_n C.1 C.2.1 dX0_put_35 rfl h3 ?_
    refine lv_iconst (v := (-1)) C.1 C.2.1 dX0_put_36 (by decide) ?_
    refine lv_icmp_eq (tgt := 54) C.1 C.2.1 dX0_put_37 (by decide) (fun hc11 => ?_) (fun hc11 => ?_)
    · have hw := hw.1 hc11
      exact m_vret C hW hS hw dX0_put_54
    · have hw := hw.2 hc11
      refine m_aldN C dX0_put_40 rfl h0 ?_
      obtain ⟨hk12, hw⟩ := hw
      refine m_getR C hW rfl hk12 f_X0_9 rfl dX0_put_41 ?_
      refine lv_iload_n C.1 C.2.1 dX0_put_44 rfl h3 ?_
      refine lv_iload_n C.1 C.2.1 dX0_put_45 rfl h1 ?_
      obtain ⟨b13, ho13, hw⟩ := hw
      obtain ⟨hk14, hw⟩ := hw
      obtain ⟨hi15, hw⟩ := hw
      refine m_iast C hW hS ho13 hk14 hi15 dX0_put_46 (fun H locs hW hS => ?_)
      refine m_aldN C dX0_put_47 rfl h0 ?_
      refine m_getR C hW rfl hk12 f_X0_15 rfl dX0_put_48 ?_
      refine lv_iload_n C.1 C.2.1 dX0_put_51 rfl h3 ?_
      refine lv_iload_n C.1 C.2.1 dX0_put_52 rfl h2 ?_
      obtain ⟨b16, ho16, hw⟩ := hw
      obtain ⟨hk17, hw⟩ := hw
      obtain ⟨hi18, hw⟩ := hw
      refine m_iast C hW hS ho16 hk17 hi18 dX0_put_53 (fun H locs hW hS => ?_)
      exact m_vret C hW hS hw dX0_put_54
  refine lv_icmp_ne (tgt := 35) C.1 C.2.1 dX0_put_8 (by decide) (fun hc4 => ?_) (fun hc4 => ?_)
  · have hw := hw.2 hc4
    exact wJ5 S2 r3 H locs ls hW hS hL h0 h1 h2 h3 hw
  · have hw := hw.1 hc4
    refine m_aldN C dX0_put_11 rfl h0 ?_
    obtain ⟨hk6, hw⟩ := hw
    refine m_getI C hW rfl hk6 f_X0_22 rfl dX0_put_12 ?_
    refine lv_bipush (v := 60) C.1 C.2.1 dX0_put_15 (by decide) ?_
    refine lv_icmp_ge (tgt := 35) C.1 C.2.1 dX0_put_17 (by decide) (fun hc7 => ?_) (fun hc7 => ?_)
    · have hw := hw.1 hc7
      exact wJ5 S2 r3 H locs ls hW hS hL h0 h1 h2 h3 hw
    · have hw := hw.2 hc7
      refine m_aldN C dX0_put_20 rfl h0 ?_
      refine m_getI C hW rfl hk6 f_X0_22 rfl dX0_put_21 ?_
      refine lv_topi (fun x8 ex8 => ?_)
      have hw := hw x8 ex8
      refine m_istN C hL dX0_put_24 rfl (by decide) (fun ls hL hn9 hk9 => ?_)
      have h0 := hk9 0 _ h0 (by decide) (Or.inl (by decide))
      have h1 := hk9 1 _ h1 (by decide) (Or.inl (by decide))
      have h2 := hk9 2 _ h2 (by decide) (Or.inr (rfl))
      have h3 := hn9
      refine m_aldN C dX0_put_25 rfl h0 ?_
      refine lv_dup C.1 C.2.1 dX0_put_26 (va_rf_cat _) ?_
      refine m_getI C hW rfl hk6 f_X0_22 rfl dX0_put_27 ?_
      refine lv_iconst (v := 1) C.1 C.2.1 dX0_put_30 (by decide) ?_
      refine lv_iadd C.1 C.2.1 dX0_put_31 ?_
      refine m_putI C hW hS rfl hk6 p_X0_22 (fun z => by cases z) rfl dX0_put_32 (fun H locs hW hS => ?_)
      exact wJ5 (sI S2 a0 2 ((hI S2 a0 2) + 1)) x8 H locs ls hW hS hL h0 h1 h2 h3 hw
def wp_X0_amountOf (S : Hp) (a0 : Nat) (a1 : Int32) (Q : Int32 → Hp → Prop) : Prop := hK S a0 = 2 ∧ wp_X0_placeOf S a0 a1 (fun r3 S2 => (r3 = (-1) → Q 0 S2) ∧ (¬ (r3 = (-1)) → hK S2 a0 = 2 ∧ ∃ b6 : Nat, (hR S2 a0 1) = some b6 ∧ hK S2 b6 = 15 ∧ vp_in r3 (hN S2 b6) ∧ Q (hI S2 b6 (r3 : Int32).toNatClampNeg) S2))
set_option maxRecDepth 100000 in
set_option maxHeartbeats 4000000 in
theorem c_X0_amountOf {l : Launch} {G : GX} {S : Hp} {a0 : Nat} {a1 : Int32} {Q : Int32 → Hp → Prop} (hw : wp_X0_amountOf S a0 a1 Q) : Met l yX0_amountOf (Cond.code yX0_amountOf cX0_amountOf 3 (some .int) :: TS) { frames := 1, cells := 0, slots := 0, locals := 22 } (Pk G S [va_rf (some a0), .int a1]) (QI G Q) 0 0 G.2.2.1 := by
  refine m_met (by decide) ?_
  intro p e s m below meth c H locs C hW hS
  have C : Cx p s m ([va_rf (some a0), .int a1] : List Value).toArray meth c cX0_amountOf 3 RX0 (some .int) "amountOf" G := C
  obtain ⟨ls, hent, hL, hla⟩ := m_entry m (vs := [va_rf (some a0), .int a1]) (nn := 3) [1, 1] rfl (by decide)
  rw [hent]
  have h0 : ls[0]? = some (.val (va_rf (some a0))) := hla (0, va_rf (some a0)) (List.mem_of_getElem? (i := 0) rfl)
  have h1 : ls[1]? = some (.val (.int a1)) := hla (1, .int a1) (List.mem_of_getElem? (i := 1) rfl)
  clear hla
  generalize ([va_rf (some a0), .int a1] : List Value).toArray = args at C ⊢
  unfold wp_X0_amountOf at hw
  refine m_aldN C dX0_amountOf_0 rfl h0 ?_
  refine lv_iload_n C.1 C.2.1 dX0_amountOf_1 rfl h1 ?_
  obtain ⟨hk1, hw⟩ := hw
  refine m_rI (m_runV (As := [.int a1]) (rest := []) C hW hS hL (c_X0_placeOf hw) v_X0_18 ⟨rfl, rfl⟩ ⟨Nat.le_of_ble_eq_true rfl, Nat.le_of_ble_eq_true rfl⟩ rfl hk1 rfl rfl (Nat.le_of_ble_eq_true rfl) dX0_amountOf_2 ⟨Nat.le_of_ble_eq_true rfl, Nat.le_of_ble_eq_true rfl⟩) hS (fun r3 S2 H locs hw hW hS => ?_)
  refine m_istN C hL dX0_amountOf_5 rfl (by decide) (fun ls hL hn9 hk9 => ?_)
  have h0 := hk9 0 _ h0 (by decide) (Or.inl (by decide))
  have h2 := hn9
  refine lv_iload_n C.1 C.2.1 dX0_amountOf_6 rfl h2 ?_
  refine lv_iconst (v := (-1)) C.1 C.2.1 dX0_amountOf_7 (by decide) ?_
  refine lv_icmp_ne (tgt := 15) C.1 C.2.1 dX0_amountOf_8 (by decide) (fun hc4 => ?_) (fun hc4 => ?_)
  · have hw := hw.2 hc4
    refine m_aldN C dX0_amountOf_15 rfl h0 ?_
    obtain ⟨hk5, hw⟩ := hw
    refine m_getR C hW rfl hk5 f_X0_15 rfl dX0_amountOf_16 ?_
    refine lv_iload_n C.1 C.2.1 dX0_amountOf_19 rfl h2 ?_
    obtain ⟨b6, ho6, hw⟩ := hw
    obtain ⟨hk7, hw⟩ := hw
    obtain ⟨hi8, hw⟩ := hw
    refine m_iald C hW ho6 hk7 hi8 dX0_amountOf_20 ?_
    exact m_iret C hW hS hw dX0_amountOf_21
  · have hw := hw.1 hc4
    refine lv_iconst (v := 0) C.1 C.2.1 dX0_amountOf_11 (by decide) ?_
    refine lv_goto (tgt := 21) C.1 C.2.1 dX0_amountOf_12 (by decide) ?_
    exact m_iret C hW hS hw dX0_amountOf_21
def wp_X1_init (S : Hp) (a0 : Nat) (Q : Hp → Prop) : Prop := ∀ q1 : Nat, hK S q1 = 0 → hK (sN S q1 16 30) a0 = 3 ∧ ∀ q3 : Nat, hK (sR (sN S q1 16 30) a0 0 (some q1)) q3 = 0 → hK (sN (sR (sN S q1 16 30) a0 0 (some q1)) q3 16 30) a0 = 3 ∧ Q (sR (sN (sR (sN S q1 16 30) a0 0 (some q1)) q3 16 30) a0 1 (some q3))
set_option maxRecDepth 100000 in
set_option maxHeartbeats 4000000 in
theorem c_X1_init {l : Launch} {G : GX} {S : Hp} {a0 : Nat} {Q : Hp → Prop} (hw : wp_X1_init S a0 Q) : Met l yX1_init (Cond.code yX1_init cX1_init 1 none :: TS) { frames := 1, cells := 2, slots := 60, locals := 20 } (Pk G S [va_rf (some a0)]) (QV G Q) 2 60 G.2.2.1 := by
  refine m_met (by decide) ?_
  intro p e s m below meth c H locs C hW hS
  have C : Cx p s m ([va_rf (some a0)] : List Value).toArray meth c cX1_init 1 RX1 none "<init>" G := C
  obtain ⟨ls, hent, hL, hla⟩ := m_entry m (vs := [va_rf (some a0)]) (nn := 1) [1] rfl (by decide)
  rw [hent]
  have h0 : ls[0]? = some (.val (va_rf (some a0))) := hla (0, va_rf (some a0)) (List.mem_of_getElem? (i := 0) rfl)
  clear hla
  generalize ([va_rf (some a0)] : List Value).toArray = args at C ⊢
  unfold wp_X1_init at hw
  refine m_aldN C dX1_init_0 rfl h0 ?_
  refine m_obj C tw_128 tw_33 tw_34 hL.1 ⟨Nat.le_of_ble_eq_true rfl, Nat.le_of_ble_eq_true rfl⟩ (Nat.le_of_ble_eq_true rfl) rfl dX1_init_1 ?_
  refine m_aldN C dX1_init_4 rfl h0 ?_
  refine lv_bipush (v := 30) C.1 C.2.1 dX1_init_5 (by decide) ?_
  refine m_newa (N := 30) C hW hS (Or.inr (Or.inl ⟨rfl, rfl⟩)) tw_87 (by decide) (by decide) (by decide) (Nat.le_of_ble_eq_true rfl) (Nat.le_of_ble_eq_true rfl) dX1_init_7 (fun q1 H hq1 hW hS => ?_)
  have hw := hw q1 hq1
  obtain ⟨hk2, hw⟩ := hw
  refine m_putR C hW hS rfl hk2 p_X1_9 (fun _ => rfl) rfl dX1_init_9 (fun H locs hW hS => ?_)
  refine m_aldN C dX1_init_12 rfl h0 ?_
  refine lv_bipush (v := 30) C.1 C.2.1 dX1_init_13 (by decide) ?_
  refine m_newa (N := 30) C hW hS (Or.inr (Or.inl ⟨rfl, rfl⟩)) tw_87 (by decide) (by decide) (by decide) (Nat.le_of_ble_eq_true rfl) (Nat.le_of_ble_eq_true rfl) dX1_init_15 (fun q3 H hq3 hW hS => ?_)
  have hw := hw q3 hq3
  obtain ⟨hk4, hw⟩ := hw
  refine m_putR C hW hS rfl hk4 p_X1_15 (fun _ => rfl) rfl dX1_init_17 (fun H locs hW hS => ?_)
  exact m_vret C hW hS hw dX1_init_20
def wp_X7_faultOfCut_L12 (S : Hp) (l0 : Nat) (Q : Int32 → Hp → Prop) : Nat → Int32 → Prop
  | 0, _ => False
  | n + 1, l1 => hK S l0 = 9 ∧ ((hI S l0 4) ≤ l1 → Q 0 S) ∧ (¬ ((hI S l0 4) ≤ l1) → ∃ b5 : Nat, (hR S l0 3) = some b5 ∧ hK S b5 = 15 ∧ vp_in l1 (hN S b5) ∧ ((hI S b5 (l1 : Int32).toNatClampNeg) < 1 → Q 20 S) ∧ (¬ ((hI S b5 (l1 : Int32).toNatClampNeg) < 1) → vp_in l1 (hN S b5) ∧ ((hI S b5 (l1 : Int32).toNatClampNeg) ≤ (hI S l0 1) → wp_X7_faultOfCut_L12 S l0 Q n (l1 + 1)) ∧ (¬ ((hI S b5 (l1 : Int32).toNatClampNeg) ≤ (hI S l0 1)) → Q 20 S)))
def wp_X7_faultOfCut (S : Hp) (a0 : Nat) (Q : Int32 → Hp → Prop) : Prop := hK S a0 = 9 ∧ (0 ≤ (hI S a0 2) → wp_X7_faultOfCut_L12 S a0 Q FU 0) ∧ (¬ (0 ≤ (hI S a0 2)) → Q 20 S)
set_option maxRecDepth 100000 in
set_option maxHeartbeats 4000000 in
theorem w_X7_faultOfCut_L12 {p : Program} {l : Launch} {e : Env} {s : State} {m : MethodId} {args : Array Value} {below : List Frame} {meth : Method} {c : Code} {G : GX} {Q : Int32 → Hp → Prop} {l0 : Nat} {S : Hp} {H : Heap} {locs : List Loc} (C : Cx p s m args meth c cX7_faultOfCut 2 RX7 (some .int) "faultOfCut" G) (hW : wd G S H) (hS : va_S G.2.2.1 s.heap H locs) :
    ∀ (n : Nat) (l1 : Int32) (ls : Array Slot), LV ls 2 → ls[0]? = some (.val (va_rf (some l0))) → ls[1]? = some (.val (.int l1)) → wp_X7_faultOfCut_L12 S l0 Q n l1 → W p l e ({ frames := 0, cells := 0, slots := 0, locals := 0 } : Room) s m args below meth c H locs 0 0 (MQ below (QI G Q) args s 0 0 G.2.2.1) (F0 m 12 ls []) := by
  intro n
  induction n with
  | zero =>
    intro l1 ls hL h0 h1 hw
    exact False.elim hw
  | succ n ih =>
    intro l1 ls hL h0 h1 hw
    unfold wp_X7_faultOfCut_L12 at hw
    refine lv_iload_n C.1 C.2.1 dX7_faultOfCut_12 rfl h1 ?_
    refine m_aldN C dX7_faultOfCut_13 rfl h0 ?_
    obtain ⟨hk3, hw⟩ := hw
    refine m_getI C hW rfl hk3 f_X7_19 rfl dX7_faultOfCut_14 ?_
    refine lv_icmp_ge (tgt := 52) C.1 C.2.1 dX7_faultOfCut_17 (by decide) (fun hc4 => ?_) (fun hc4 => ?_)
    · have hw := hw.1 hc4
      refine lv_iconst (v := 0) C.1 C.2.1 dX7_faultOfCut_52 (by decide) ?_
      exact m_iret C hW hS hw dX7_faultOfCut_53
    · have hw := hw.2 hc4
      refine m_aldN C dX7_faultOfCut_20 rfl h0 ?_
      refine m_getR C hW rfl hk3 f_X7_15 rfl dX7_faultOfCut_21 ?_
      refine lv_iload_n C.1 C.2.1 dX7_faultOfCut_24 rfl h1 ?_
      obtain ⟨b5, ho5, hw⟩ := hw
      obtain ⟨hk6, hw⟩ := hw
      obtain ⟨hi7, hw⟩ := hw
      refine m_iald C hW ho5 hk6 hi7 dX7_faultOfCut_25 ?_
      refine lv_iconst (v := 1) C.1 C.2.1 dX7_faultOfCut_26 (by decide) ?_
      refine lv_icmp_lt (tgt := 43) C.1 C.2.1 dX7_faultOfCut_27 (by decide) (fun hc8 => ?_) (fun hc8 => ?_)
      · have hw := hw.1 hc8
        refine lv_bipush (v := 20) C.1 C.2.1 dX7_faultOfCut_43 (by decide) ?_
        exact m_iret C hW hS hw dX7_faultOfCut_45
      · have hw := hw.2 hc8
        refine m_aldN C dX7_faultOfCut_30 rfl h0 ?_
        refine m_getR C hW rfl hk3 f_X7_15 rfl dX7_faultOfCut_31 ?_
        refine lv_iload_n C.1 C.2.1 dX7_faultOfCut_34 rfl h1 ?_
        obtain ⟨hi9, hw⟩ := hw
        refine m_iald C hW ho5 hk6 hi9 dX7_faultOfCut_35 ?_
        refine m_aldN C dX7_faultOfCut_36 rfl h0 ?_
        refine m_getI C hW rfl hk3 f_X7_39 rfl dX7_faultOfCut_37 ?_
        refine lv_icmp_le (tgt := 46) C.1 C.2.1 dX7_faultOfCut_40 (by decide) (fun hc10 => ?_) (fun hc10 => ?_)
        · have hw := hw.1 hc10
          refine m_iinc (v := (l1 + 1)) C hL dX7_faultOfCut_46 h1 rfl (by decide) (fun ls hL hn9 hk9 => ?_)
          have h0 := hk9 0 _ h0 (by decide) (Or.inr (va_rf_cat _))
          have h1 := hn9
          refine lv_goto (tgt := 12) C.1 C.2.1 dX7_faultOfCut_49 (by decide) ?_
          exact ih (l1 + 1) ls hL h0 h1 hw
        · have hw := hw.2 hc10
          refine lv_bipush (v := 20) C.1 C.2.1 dX7_faultOfCut_43 (by decide) ?_
          exact m_iret C hW hS hw dX7_faultOfCut_45
set_option maxRecDepth 100000 in
set_option maxHeartbeats 4000000 in
theorem c_X7_faultOfCut {l : Launch} {G : GX} {S : Hp} {a0 : Nat} {Q : Int32 → Hp → Prop} (hw : wp_X7_faultOfCut S a0 Q) : Met l yX7_faultOfCut (Cond.code yX7_faultOfCut cX7_faultOfCut 2 (some .int) :: TS) { frames := 0, cells := 0, slots := 0, locals := 0 } (Pk G S [va_rf (some a0)]) (QI G Q) 0 0 G.2.2.1 := by
  refine m_met (by decide) ?_
  intro p e s m below meth c H locs C hW hS
  have C : Cx p s m ([va_rf (some a0)] : List Value).toArray meth c cX7_faultOfCut 2 RX7 (some .int) "faultOfCut" G := C
  obtain ⟨ls, hent, hL, hla⟩ := m_entry m (vs := [va_rf (some a0)]) (nn := 2) [1] rfl (by decide)
  rw [hent]
  have h0 : ls[0]? = some (.val (va_rf (some a0))) := hla (0, va_rf (some a0)) (List.mem_of_getElem? (i := 0) rfl)
  clear hla
  generalize ([va_rf (some a0)] : List Value).toArray = args at C ⊢
  unfold wp_X7_faultOfCut at hw
  refine m_aldN C dX7_faultOfCut_0 rfl h0 ?_
  obtain ⟨hk1, hw⟩ := hw
  refine m_getI C hW rfl hk1 f_X7_36 rfl dX7_faultOfCut_1 ?_
  refine lv_if_ge (tgt := 10) C.1 C.2.1 dX7_faultOfCut_4 (by decide) (fun hc2 => ?_) (fun hc2 => ?_)
  · have hw := hw.1 hc2
    refine lv_iconst (v := 0) C.1 C.2.1 dX7_faultOfCut_10 (by decide) ?_
    refine m_istN C hL dX7_faultOfCut_11 rfl (by decide) (fun ls hL hn9 hk9 => ?_)
    have h0 := hk9 0 _ h0 (by decide) (Or.inr (va_rf_cat _))
    have h1 := hn9
    exact w_X7_faultOfCut_L12 C hW hS  FU 0 ls hL h0 h1 hw
  · have hw := hw.2 hc2
    refine lv_bipush (v := 20) C.1 C.2.1 dX7_faultOfCut_7 (by decide) ?_
    exact m_iret C hW hS hw dX7_faultOfCut_9
def wp_X7_isBelowZero_L11 (S : Hp) (l0 : Nat) (Q : Int32 → Hp → Prop) : Nat → Int32 → Prop
  | 0, _ => False
  | n + 1, l1 => hK S l0 = 9 ∧ ((hI S l0 4) ≤ l1 → Q 0 S) ∧ (¬ ((hI S l0 4) ≤ l1) → ∃ b5 : Nat, (hR S l0 3) = some b5 ∧ hK S b5 = 15 ∧ vp_in l1 (hN S b5) ∧ (0 ≤ (hI S b5 (l1 : Int32).toNatClampNeg) → wp_X7_isBelowZero_L11 S l0 Q n (l1 + 1)) ∧ (¬ (0 ≤ (hI S b5 (l1 : Int32).toNatClampNeg)) → Q 1 S))
def wp_X7_isBelowZero (S : Hp) (a0 : Nat) (Q : Int32 → Hp → Prop) : Prop := hK S a0 = 9 ∧ (0 ≤ (hI S a0 1) → wp_X7_isBelowZero_L11 S a0 Q FU 0) ∧ (¬ (0 ≤ (hI S a0 1)) → Q 1 S)
set_option maxRecDepth 100000 in
set_option maxHeartbeats 4000000 in
theorem w_X7_isBelowZero_L11 {p : Program} {l : Launch} {e : Env} {s : State} {m : MethodId} {args : Array Value} {below : List Frame} {meth : Method} {c : Code} {G : GX} {Q : Int32 → Hp → Prop} {l0 : Nat} {S : Hp} {H : Heap} {locs : List Loc} (C : Cx p s m args meth c cX7_isBelowZero 2 RX7 (some .boolean) "isBelowZero" G) (hW : wd G S H) (hS : va_S G.2.2.1 s.heap H locs) :
    ∀ (n : Nat) (l1 : Int32) (ls : Array Slot), LV ls 2 → ls[0]? = some (.val (va_rf (some l0))) → ls[1]? = some (.val (.int l1)) → wp_X7_isBelowZero_L11 S l0 Q n l1 → W p l e ({ frames := 0, cells := 0, slots := 0, locals := 0 } : Room) s m args below meth c H locs 0 0 (MQ below (QI G Q) args s 0 0 G.2.2.1) (F0 m 11 ls []) := by
  intro n
  induction n with
  | zero =>
    intro l1 ls hL h0 h1 hw
    exact False.elim hw
  | succ n ih =>
    intro l1 ls hL h0 h1 hw
    unfold wp_X7_isBelowZero_L11 at hw
    refine lv_iload_n C.1 C.2.1 dX7_isBelowZero_11 rfl h1 ?_
    refine m_aldN C dX7_isBelowZero_12 rfl h0 ?_
    obtain ⟨hk3, hw⟩ := hw
    refine m_getI C hW rfl hk3 f_X7_19 rfl dX7_isBelowZero_13 ?_
    refine lv_icmp_ge (tgt := 36) C.1 C.2.1 dX7_isBelowZero_16 (by decide) (fun hc4 => ?_) (fun hc4 => ?_)
    · have hw := hw.1 hc4
      refine lv_iconst (v := 0) C.1 C.2.1 dX7_isBelowZero_36 (by decide) ?_
      exact m_zret C hW hS (by decide) hw dX7_isBelowZero_37
    · have hw := hw.2 hc4
      refine m_aldN C dX7_isBelowZero_19 rfl h0 ?_
      refine m_getR C hW rfl hk3 f_X7_15 rfl dX7_isBelowZero_20 ?_
      refine lv_iload_n C.1 C.2.1 dX7_isBelowZero_23 rfl h1 ?_
      obtain ⟨b5, ho5, hw⟩ := hw
      obtain ⟨hk6, hw⟩ := hw
      obtain ⟨hi7, hw⟩ := hw
      refine m_iald C hW ho5 hk6 hi7 dX7_isBelowZero_24 ?_
      refine lv_if_ge (tgt := 30) C.1 C.2.1 dX7_isBelowZero_25 (by decide) (fun hc8 => ?_) (fun hc8 => ?_)
      · have hw := hw.1 hc8
        refine m_iinc (v := (l1 + 1)) C hL dX7_isBelowZero_30 h1 rfl (by decide) (fun ls hL hn9 hk9 => ?_)
        have h0 := hk9 0 _ h0 (by decide) (Or.inr (va_rf_cat _))
        have h1 := hn9
        refine lv_goto (tgt := 11) C.1 C.2.1 dX7_isBelowZero_33 (by decide) ?_
        exact ih (l1 + 1) ls hL h0 h1 hw
      · have hw := hw.2 hc8
        refine lv_iconst (v := 1) C.1 C.2.1 dX7_isBelowZero_28 (by decide) ?_
        exact m_zret C hW hS (by decide) hw dX7_isBelowZero_29
set_option maxRecDepth 100000 in
set_option maxHeartbeats 4000000 in
theorem c_X7_isBelowZero {l : Launch} {G : GX} {S : Hp} {a0 : Nat} {Q : Int32 → Hp → Prop} (hw : wp_X7_isBelowZero S a0 Q) : Met l yX7_isBelowZero (Cond.code yX7_isBelowZero cX7_isBelowZero 2 (some .boolean) :: TS) { frames := 0, cells := 0, slots := 0, locals := 0 } (Pk G S [va_rf (some a0)]) (QI G Q) 0 0 G.2.2.1 := by
  refine m_met (by decide) ?_
  intro p e s m below meth c H locs C hW hS
  have C : Cx p s m ([va_rf (some a0)] : List Value).toArray meth c cX7_isBelowZero 2 RX7 (some .boolean) "isBelowZero" G := C
  obtain ⟨ls, hent, hL, hla⟩ := m_entry m (vs := [va_rf (some a0)]) (nn := 2) [1] rfl (by decide)
  rw [hent]
  have h0 : ls[0]? = some (.val (va_rf (some a0))) := hla (0, va_rf (some a0)) (List.mem_of_getElem? (i := 0) rfl)
  clear hla
  generalize ([va_rf (some a0)] : List Value).toArray = args at C ⊢
  unfold wp_X7_isBelowZero at hw
  refine m_aldN C dX7_isBelowZero_0 rfl h0 ?_
  obtain ⟨hk1, hw⟩ := hw
  refine m_getI C hW rfl hk1 f_X7_39 rfl dX7_isBelowZero_1 ?_
  refine lv_if_ge (tgt := 9) C.1 C.2.1 dX7_isBelowZero_4 (by decide) (fun hc2 => ?_) (fun hc2 => ?_)
  · have hw := hw.1 hc2
    refine lv_iconst (v := 0) C.1 C.2.1 dX7_isBelowZero_9 (by decide) ?_
    refine m_istN C hL dX7_isBelowZero_10 rfl (by decide) (fun ls hL hn9 hk9 => ?_)
    have h0 := hk9 0 _ h0 (by decide) (Or.inr (va_rf_cat _))
    have h1 := hn9
    exact w_X7_isBelowZero_L11 C hW hS  FU 0 ls hL h0 h1 hw
  · have hw := hw.2 hc2
    refine lv_iconst (v := 1) C.1 C.2.1 dX7_isBelowZero_7 (by decide) ?_
    exact m_zret C hW hS (by decide) hw dX7_isBelowZero_8
def wp_X7_sum_L4 (S : Hp) (l0 : Nat) (Q : Int64 → Hp → Prop) : Nat → Int64 → Int32 → Prop
  | 0, _, _ => False
  | n + 1, l1, l3 => hK S l0 = 9 ∧ ((hI S l0 4) ≤ l3 → Q l1 S) ∧ (¬ ((hI S l0 4) ≤ l3) → ∃ b3 : Nat, (hR S l0 3) = some b3 ∧ hK S b3 = 15 ∧ vp_in l3 (hN S b3) ∧ ∀ z6 : Int64, z6 = (l1 + (((hI S b3 (l3 : Int32).toNatClampNeg) : Int32).toInt64)) → wp_X7_sum_L4 S l0 Q n z6 (l3 + 1))
def wp_X7_sum (S : Hp) (a0 : Nat) (Q : Int64 → Hp → Prop) : Prop := wp_X7_sum_L4 S a0 Q FU 0 0
set_option maxRecDepth 100000 in
set_option maxHeartbeats 4000000 in
theorem w_X7_sum_L4 {p : Program} {l : Launch} {e : Env} {s : State} {m : MethodId} {args : Array Value} {below : List Frame} {meth : Method} {c : Code} {G : GX} {Q : Int64 → Hp → Prop} {l0 : Nat} {S : Hp} {H : Heap} {locs : List Loc} (C : Cx p s m args meth c cX7_sum 4 RX7 (some .long) "sum" G) (hW : wd G S H) (hS : va_S G.2.2.1 s.heap H locs) :
    ∀ (n : Nat) (l1 : Int64) (l3 : Int32) (ls : Array Slot), LV ls 4 → ls[0]? = some (.val (va_rf (some l0))) → ls[1]? = some (.val (.long l1)) → ls[3]? = some (.val (.int l3)) → wp_X7_sum_L4 S l0 Q n l1 l3 → W p l e ({ frames := 0, cells := 0, slots := 0, locals := 0 } : Room) s m args below meth c H locs 0 0 (MQ below (QL G Q) args s 0 0 G.2.2.1) (F0 m 4 ls []) := by
  intro n
  induction n with
  | zero =>
    intro l1 l3 ls hL h0 h1 h3 hw
    exact False.elim hw
  | succ n ih =>
    intro l1 l3 ls hL h0 h1 h3 hw
    unfold wp_X7_sum_L4 at hw
    refine lv_iload_n C.1 C.2.1 dX7_sum_4 rfl h3 ?_
    refine m_aldN C dX7_sum_5 rfl h0 ?_
    obtain ⟨hk1, hw⟩ := hw
    refine m_getI C hW rfl hk1 f_X7_19 rfl dX7_sum_6 ?_
    refine lv_icmp_ge (tgt := 28) C.1 C.2.1 dX7_sum_9 (by decide) (fun hc2 => ?_) (fun hc2 => ?_)
    · have hw := hw.1 hc2
      refine lv_lload_n C.1 C.2.1 dX7_sum_28 rfl h1 ?_
      exact m_lret C hW hS hw dX7_sum_29
    · have hw := hw.2 hc2
      refine lv_lload_n C.1 C.2.1 dX7_sum_12 rfl h1 ?_
      refine m_aldN C dX7_sum_13 rfl h0 ?_
      refine m_getR C hW rfl hk1 f_X7_15 rfl dX7_sum_14 ?_
      refine lv_iload_n C.1 C.2.1 dX7_sum_17 rfl h3 ?_
      obtain ⟨b3, ho3, hw⟩ := hw
      obtain ⟨hk4, hw⟩ := hw
      obtain ⟨hi5, hw⟩ := hw
      refine m_iald C hW ho3 hk4 hi5 dX7_sum_18 ?_
      refine lv_i2l (v := (((hI S b3 (l3 : Int32).toNatClampNeg) : Int32).toInt64)) C.1 C.2.1 dX7_sum_19 rfl ?_
      refine lv_ladd C.1 C.2.1 dX7_sum_20 ?_
      refine lv_topl (fun z6 ez6 => ?_)
      have hw := hw z6 ez6
      refine m_lstN C hL dX7_sum_21 rfl (by decide) (fun ls hL hn9 hk9 => ?_)
      have h0 := hk9 0 _ h0 (by decide) (by decide) (Or.inr (va_rf_cat _))
      have h3 := hk9 3 _ h3 (by decide) (by decide) (Or.inl (by decide))
      have h1 := hn9
      refine m_iinc (v := (l3 + 1)) C hL dX7_sum_22 h3 rfl (by decide) (fun ls hL hn9 hk9 => ?_)
      have h0 := hk9 0 _ h0 (by decide) (Or.inl (by decide))
      have h1 := hk9 1 _ h1 (by decide) (Or.inl (by decide))
      have h3 := hn9
      refine lv_goto (tgt := 4) C.1 C.2.1 dX7_sum_25 (by decide) ?_
      exact ih z6 (l3 + 1) ls hL h0 h1 h3 hw
set_option maxRecDepth 100000 in
set_option maxHeartbeats 4000000 in
theorem c_X7_sum {l : Launch} {G : GX} {S : Hp} {a0 : Nat} {Q : Int64 → Hp → Prop} (hw : wp_X7_sum S a0 Q) : Met l yX7_sum (Cond.code yX7_sum cX7_sum 4 (some .long) :: TS) { frames := 0, cells := 0, slots := 0, locals := 0 } (Pk G S [va_rf (some a0)]) (QL G Q) 0 0 G.2.2.1 := by
  refine m_met (by decide) ?_
  intro p e s m below meth c H locs C hW hS
  have C : Cx p s m ([va_rf (some a0)] : List Value).toArray meth c cX7_sum 4 RX7 (some .long) "sum" G := C
  obtain ⟨ls, hent, hL, hla⟩ := m_entry m (vs := [va_rf (some a0)]) (nn := 4) [1] rfl (by decide)
  rw [hent]
  have h0 : ls[0]? = some (.val (va_rf (some a0))) := hla (0, va_rf (some a0)) (List.mem_of_getElem? (i := 0) rfl)
  clear hla
  generalize ([va_rf (some a0)] : List Value).toArray = args at C ⊢
  unfold wp_X7_sum at hw
  refine lv_lconst (v := 0) C.1 C.2.1 dX7_sum_0 (by decide) ?_
  refine m_lstN C hL dX7_sum_1 rfl (by decide) (fun ls hL hn9 hk9 => ?_)
  have h0 := hk9 0 _ h0 (by decide) (by decide) (Or.inr (va_rf_cat _))
  have h1 := hn9
  refine lv_iconst (v := 0) C.1 C.2.1 dX7_sum_2 (by decide) ?_
  refine m_istN C hL dX7_sum_3 rfl (by decide) (fun ls hL hn9 hk9 => ?_)
  have h0 := hk9 0 _ h0 (by decide) (Or.inl (by decide))
  have h1 := hk9 1 _ h1 (by decide) (Or.inl (by decide))
  have h3 := hn9
  exact w_X7_sum_L4 C hW hS  FU 0 0 ls hL h0 h1 h3 hw
def wp_X7_faultOfShares (S : Hp) (a0 : Nat) (Q : Int32 → Hp → Prop) : Prop := hK S a0 = 9 ∧ wp_X7_isBelowZero S a0 (fun r3 S2 => (r3 = 0 → hK S2 a0 = 9 ∧ wp_X7_sum S2 a0 (fun r7 S6 => (r7 = 0 → Q 11 S6) ∧ (¬ (r7 = 0) → hK S6 a0 = 9 ∧ ((hI S6 a0 0) = 3 → ((hI S6 a0 2) < 0 → Q 12 S6) ∧ (¬ ((hI S6 a0 2) < 0) → ((hI S6 a0 2) < (hI S6 a0 4) → Q 0 S6) ∧ (¬ ((hI S6 a0 2) < (hI S6 a0 4)) → Q 12 S6))) ∧ (¬ ((hI S6 a0 0) = 3) → Q 0 S6)))) ∧ (¬ (r3 = 0) → Q 21 S2))
set_option maxRecDepth 100000 in
set_option maxHeartbeats 4000000 in
theorem c_X7_faultOfShares {l : Launch} {G : GX} {S : Hp} {a0 : Nat} {Q : Int32 → Hp → Prop} (hw : wp_X7_faultOfShares S a0 Q) : Met l yX7_faultOfShares (Cond.code yX7_faultOfShares cX7_faultOfShares 1 (some .int) :: TS) { frames := 1, cells := 0, slots := 0, locals := 23 } (Pk G S [va_rf (some a0)]) (QI G Q) 0 0 G.2.2.1 := by
  refine m_met (by decide) ?_
  intro p e s m below meth c H locs C hW hS
  have C : Cx p s m ([va_rf (some a0)] : List Value).toArray meth c cX7_faultOfShares 1 RX7 (some .int) "faultOfShares" G := C
  obtain ⟨ls, hent, hL, hla⟩ := m_entry m (vs := [va_rf (some a0)]) (nn := 1) [1] rfl (by decide)
  rw [hent]
  have h0 : ls[0]? = some (.val (va_rf (some a0))) := hla (0, va_rf (some a0)) (List.mem_of_getElem? (i := 0) rfl)
  clear hla
  generalize ([va_rf (some a0)] : List Value).toArray = args at C ⊢
  unfold wp_X7_faultOfShares at hw
  refine m_aldN C dX7_faultOfShares_0 rfl h0 ?_
  obtain ⟨hk1, hw⟩ := hw
  refine m_rI (m_runV (As := []) (rest := []) C hW hS hL (c_X7_isBelowZero hw) v_X7_32 ⟨rfl, rfl⟩ ⟨Nat.le_of_ble_eq_true rfl, Nat.le_of_ble_eq_true rfl⟩ rfl hk1 rfl rfl (Nat.le_of_ble_eq_true rfl) dX7_faultOfShares_1 ⟨Nat.le_of_ble_eq_true rfl, Nat.le_of_ble_eq_true rfl⟩) hS (fun r3 S2 H locs hw hW hS => ?_)
  refine lv_if_eq (tgt := 10) C.1 C.2.1 dX7_faultOfShares_4 (by decide) (fun hc4 => ?_) (fun hc4 => ?_)
  · have hw := hw.1 hc4
    refine m_aldN C dX7_faultOfShares_10 rfl h0 ?_
    obtain ⟨hk5, hw⟩ := hw
    refine m_rL (m_runV (As := []) (rest := []) C hW hS hL (c_X7_sum hw) v_X7_42 ⟨rfl, rfl⟩ ⟨Nat.le_of_ble_eq_true rfl, Nat.le_of_ble_eq_true rfl⟩ rfl hk5 rfl rfl (Nat.le_of_ble_eq_true rfl) dX7_faultOfShares_11 ⟨Nat.le_of_ble_eq_true rfl, Nat.le_of_ble_eq_true rfl⟩) hS (fun r7 S6 H locs hw hW hS => ?_)
    refine lv_lconst (v := 0) C.1 C.2.1 dX7_faultOfShares_14 (by decide) ?_
    refine W.lcmp C.1 C.2.1 dX7_faultOfShares_15 ?_
    refine lv_if_ne (tgt := 22) C.1 C.2.1 dX7_faultOfShares_16 (by decide) (fun hc8 => ?_) (fun hc8 => ?_)
    · have hw := hw.2 (fun z => hc8 ((q_ne _ _).mpr z))
      refine m_aldN C dX7_faultOfShares_22 rfl h0 ?_
      obtain ⟨hk9, hw⟩ := hw
      refine m_getI C hW rfl hk9 f_X7_11 rfl dX7_faultOfShares_23 ?_
      refine lv_iconst (v := 3) C.1 C.2.1 dX7_faultOfShares_26 (by decide) ?_
      refine lv_icmp_ne (tgt := 53) C.1 C.2.1 dX7_faultOfShares_27 (by decide) (fun hc10 => ?_) (fun hc10 => ?_)
      · have hw := hw.2 hc10
        refine lv_iconst (v := 0) C.1 C.2.1 dX7_faultOfShares_53 (by decide) ?_
        exact m_iret C hW hS hw dX7_faultOfShares_54
      · have hw := hw.1 hc10
        refine m_aldN C dX7_faultOfShares_30 rfl h0 ?_
        refine m_getI C hW rfl hk9 f_X7_36 rfl dX7_faultOfShares_31 ?_
        refine lv_if_lt (tgt := 48) C.1 C.2.1 dX7_faultOfShares_34 (by decide) (fun hc11 => ?_) (fun hc11 => ?_)
        · have hw := hw.1 hc11
          refine lv_bipush (v := 12) C.1 C.2.1 dX7_faultOfShares_48 (by decide) ?_
          refine lv_goto (tgt := 54) C.1 C.2.1 dX7_faultOfShares_50 (by decide) ?_
          exact m_iret C hW hS hw dX7_faultOfShares_54
        · have hw := hw.2 hc11
          refine m_aldN C dX7_faultOfShares_37 rfl h0 ?_
          refine m_getI C hW rfl hk9 f_X7_36 rfl dX7_faultOfShares_38 ?_
          refine m_aldN C dX7_faultOfShares_41 rfl h0 ?_
          refine m_getI C hW rfl hk9 f_X7_19 rfl dX7_faultOfShares_42 ?_
          refine lv_icmp_lt (tgt := 53) C.1 C.2.1 dX7_faultOfShares_45 (by decide) (fun hc12 => ?_) (fun hc12 => ?_)
          · have hw := hw.1 hc12
            refine lv_iconst (v := 0) C.1 C.2.1 dX7_faultOfShares_53 (by decide) ?_
            exact m_iret C hW hS hw dX7_faultOfShares_54
          · have hw := hw.2 hc12
            refine lv_bipush (v := 12) C.1 C.2.1 dX7_faultOfShares_48 (by decide) ?_
            refine lv_goto (tgt := 54) C.1 C.2.1 dX7_faultOfShares_50 (by decide) ?_
            exact m_iret C hW hS hw dX7_faultOfShares_54
    · have hw := hw.1 ((q_ne _ _).mp hc8)
      refine lv_bipush (v := 11) C.1 C.2.1 dX7_faultOfShares_19 (by decide) ?_
      exact m_iret C hW hS hw dX7_faultOfShares_21
  · have hw := hw.2 hc4
    refine lv_bipush (v := 21) C.1 C.2.1 dX7_faultOfShares_7 (by decide) ?_
    exact m_iret C hW hS hw dX7_faultOfShares_9
def wp_X7_faultOfPairs_L2 (S : Hp) (l0 : Nat) (Q : Int32 → Hp → Prop) : Nat → Int32 → Prop
  | 0, _ => False
  | n + 1, l1 => hK S l0 = 9 ∧ ((hI S l0 4) ≤ l1 → Q 0 S) ∧ (¬ ((hI S l0 4) ≤ l1) → ∃ J4 : Int64 → Prop, J4 = (fun (z11 : Int64) => ∃ b12 : Nat, (hR S l0 3) = some b12 ∧ hK S b12 = 15 ∧ vp_in l1 (hN S b12) ∧ ∀ z15 : Int64, z15 = (z11 - (((hI S b12 (l1 : Int32).toNatClampNeg) : Int32).toInt64)) → (z15 < 0 → Q 22 S) ∧ (¬ (z15 < 0) → (z15 ≤ (((hI S l0 1) : Int32).toInt64) → wp_X7_faultOfPairs_L2 S l0 Q n (l1 + 2)) ∧ (¬ (z15 ≤ (((hI S l0 1) : Int32).toInt64)) → Q 22 S))) ∧ ((hI S l0 4) ≤ (l1 + 1) → ∃ b5 : Nat, (hR S l0 3) = some b5 ∧ hK S b5 = 15 ∧ vp_in l1 (hN S b5) ∧ J4 (((hI S b5 (l1 : Int32).toNatClampNeg) : Int32).toInt64)) ∧ (¬ ((hI S l0 4) ≤ (l1 + 1)) → ∃ b8 : Nat, (hR S l0 3) = some b8 ∧ hK S b8 = 15 ∧ vp_in (l1 + 1) (hN S b8) ∧ J4 (((hI S b8 ((l1 + 1) : Int32).toNatClampNeg) : Int32).toInt64)))
def wp_X7_faultOfPairs (S : Hp) (a0 : Nat) (Q : Int32 → Hp → Prop) : Prop := wp_X7_faultOfPairs_L2 S a0 Q FU 0
set_option maxRecDepth 100000 in
set_option maxHeartbeats 4000000 in
theorem w_X7_faultOfPairs_L2 {p : Program} {l : Launch} {e : Env} {s : State} {m : MethodId} {args : Array Value} {below : List Frame} {meth : Method} {c : Code} {G : GX} {Q : Int32 → Hp → Prop} {l0 : Nat} {S : Hp} {H : Heap} {locs : List Loc} (C : Cx p s m args meth c cX7_faultOfPairs 6 RX7 (some .int) "faultOfPairs" G) (hW : wd G S H) (hS : va_S G.2.2.1 s.heap H locs) :
    ∀ (n : Nat) (l1 : Int32) (ls : Array Slot), LV ls 6 → ls[0]? = some (.val (va_rf (some l0))) → ls[1]? = some (.val (.int l1)) → wp_X7_faultOfPairs_L2 S l0 Q n l1 → W p l e ({ frames := 0, cells := 0, slots := 0, locals := 0 } : Room) s m args below meth c H locs 0 0 (MQ below (QI G Q) args s 0 0 G.2.2.1) (F0 m 2 ls []) := by
  intro n
  induction n with
  | zero =>
    intro l1 ls hL h0 h1 hw
    exact False.elim hw
  | succ n ih =>
    intro l1 ls hL h0 h1 hw
    unfold wp_X7_faultOfPairs_L2 at hw
    refine lv_iload_n C.1 C.2.1 dX7_faultOfPairs_2 rfl h1 ?_
    refine m_aldN C dX7_faultOfPairs_3 rfl h0 ?_
    obtain ⟨hk1, hw⟩ := hw
    refine m_getI C hW rfl hk1 f_X7_19 rfl dX7_faultOfPairs_4 ?_
    refine lv_icmp_ge (tgt := 78) C.1 C.2.1 dX7_faultOfPairs_7 (by decide) (fun hc2 => ?_) (fun hc2 => ?_)
    · have hw := hw.1 hc2
      refine lv_iconst (v := 0) C.1 C.2.1 dX7_faultOfPairs_78 (by decide) ?_
      exact m_iret C hW hS hw dX7_faultOfPairs_79
    · have hw := hw.2 hc2
      refine lv_iload_n C.1 C.2.1 dX7_faultOfPairs_10 rfl h1 ?_
      refine lv_iconst (v := 1) C.1 C.2.1 dX7_faultOfPairs_11 (by decide) ?_
      refine lv_iadd C.1 C.2.1 dX7_faultOfPairs_12 ?_
      refine m_aldN C dX7_faultOfPairs_13 rfl h0 ?_
      refine m_getI C hW rfl hk1 f_X7_19 rfl dX7_faultOfPairs_14 ?_
      obtain ⟨J4, eJ4, hw⟩ := hw
      have wJ4 : ∀ (z11 : Int64) (ls : Array Slot), LV ls 6 → ls[0]? = some (.val (va_rf (some l0))) → ls[1]? = some (.val (.int l1)) → J4 z11 → W p l e ({ frames := 0, cells := 0, slots := 0, locals := 0 } : Room) s m args below meth c H locs 0 0 (MQ below (QI G Q) args s 0 0 G.2.2.1) (F0 m 39 ls [.long z11]) := by
        intro z11 ls hL h0 h1 hw
        rw [eJ4] at hw
        refine m_lstN C hL dX7_faultOfPairs_39 rfl (by decide) (fun ls hL hn9 hk9 => ?_)
        have h0 := hk9 0 _ h0 (by decide) (by decide) (Or.inl (by decide))
        have h1 := hk9 1 _ h1 (by decide) (by decide) (Or.inr (rfl))
        have h2 := hn9
        refine lv_lload_n C.1 C.2.1 dX7_faultOfPairs_40 rfl h2 ?_
        refine m_aldN C dX7_faultOfPairs_41 rfl h0 ?_
        refine m_getR C hW rfl hk1 f_X7_15 rfl dX7_faultOfPairs_42 ?_
        refine lv_iload_n C.1 C.2.1 dX7_faultOfPairs_45 rfl h1 ?_
        obtain ⟨b12, ho12, hw⟩ := hw
        obtain ⟨hk13, hw⟩ := hw
        obtain ⟨hi14, hw⟩ := hw
        refine m_iald C hW ho12 hk13 hi14 dX7_faultOfPairs_46 ?_
        refine lv_i2l (v := (((hI S b12 (l1 : Int32).toNatClampNeg) : Int32).toInt64)) C.1 C.2.1 dX7_faultOfPairs_47 rfl ?_
        refine lv_lsub C.1 C.2.1 dX7_faultOfPairs_48 ?_
        refine lv_topl (fun z15 ez15 => ?_)
        have hw := hw z15 ez15
        refine m_lst C hL dX7_faultOfPairs_49 (by decide) (fun ls hL hn9 hk9 => ?_)
        have h0 := hk9 0 _ h0 (by decide) (by decide) (Or.inl (by decide))
        have h1 := hk9 1 _ h1 (by decide) (by decide) (Or.inl (by decide))
        have h4 := hn9
        refine lv_lload C.1 C.2.1 dX7_faultOfPairs_51 h4 ?_
        refine lv_lconst (v := 0) C.1 C.2.1 dX7_faultOfPairs_53 (by decide) ?_
        refine W.lcmp C.1 C.2.1 dX7_faultOfPairs_54 ?_
        refine lv_if_lt (tgt := 69) C.1 C.2.1 dX7_faultOfPairs_55 (by decide) (fun hc16 => ?_) (fun hc16 => ?_)
        · have hw := hw.1 ((q_lt _ _).mp hc16)
          refine lv_bipush (v := 22) C.1 C.2.1 dX7_faultOfPairs_69 (by decide) ?_
          exact m_iret C hW hS hw dX7_faultOfPairs_71
        · have hw := hw.2 (fun z => hc16 ((q_lt _ _).mpr z))
          refine lv_lload C.1 C.2.1 dX7_faultOfPairs_58 h4 ?_
          refine m_aldN C dX7_faultOfPairs_60 rfl h0 ?_
          refine m_getI C hW rfl hk1 f_X7_39 rfl dX7_faultOfPairs_61 ?_
          refine lv_i2l (v := (((hI S l0 1) : Int32).toInt64)) C.1 C.2.1 dX7_faultOfPairs_64 rfl ?_
          refine W.lcmp C.1 C.2.1 dX7_faultOfPairs_65 ?_
          refine lv_if_le (tgt := 72) C.1 C.2.1 dX7_faultOfPairs_66 (by decide) (fun hc17 => ?_) (fun hc17 => ?_)
          · have hw := hw.1 ((q_le _ _).mp hc17)
            refine m_iinc (v := (l1 + 2)) C hL dX7_faultOfPairs_72 h1 rfl (by decide) (fun ls hL hn9 hk9 => ?_)
            have h0 := hk9 0 _ h0 (by decide) (Or.inr (va_rf_cat _))
            have h1 := hn9
            refine lv_goto (tgt := 2) C.1 C.2.1 dX7_faultOfPairs_75 (by decide) ?_
            exact ih (l1 + 2) ls hL h0 h1 hw
          · have hw := hw.2 (fun z => hc17 ((q_le _ _).mpr z))
            refine lv_bipush (v := 22) C.1 C.2.1 dX7_faultOfPairs_69 (by decide) ?_
            exact m_iret C hW hS hw dX7_faultOfPairs_71
      refine lv_icmp_ge (tgt := 32) C.1 C.2.1 dX7_faultOfPairs_17 (by decide) (fun hc3 => ?_) (fun hc3 => ?_)
      · have hw := hw.1 hc3
        refine m_aldN C dX7_faultOfPairs_32 rfl h0 ?_
        refine m_getR C hW rfl hk1 f_X7_15 rfl dX7_faultOfPairs_33 ?_
        refine lv_iload_n C.1 C.2.1 dX7_faultOfPairs_36 rfl h1 ?_
        obtain ⟨b5, ho5, hw⟩ := hw
        obtain ⟨hk6, hw⟩ := hw
        obtain ⟨hi7, hw⟩ := hw
        refine m_iald C hW ho5 hk6 hi7 dX7_faultOfPairs_37 ?_
        refine lv_i2l (v := (((hI S b5 (l1 : Int32).toNatClampNeg) : Int32).toInt64)) C.1 C.2.1 dX7_faultOfPairs_38 rfl ?_
        exact wJ4 (((hI S b5 (l1 : Int32).toNatClampNeg) : Int32).toInt64) ls hL h0 h1 hw
      · have hw := hw.2 hc3
        refine m_aldN C dX7_faultOfPairs_20 rfl h0 ?_
        refine m_getR C hW rfl hk1 f_X7_15 rfl dX7_faultOfPairs_21 ?_
        refine lv_iload_n C.1 C.2.1 dX7_faultOfPairs_24 rfl h1 ?_
        refine lv_iconst (v := 1) C.1 C.2.1 dX7_faultOfPairs_25 (by decide) ?_
        refine lv_iadd C.1 C.2.1 dX7_faultOfPairs_26 ?_
        obtain ⟨b8, ho8, hw⟩ := hw
        obtain ⟨hk9, hw⟩ := hw
        obtain ⟨hi10, hw⟩ := hw
        refine m_iald C hW ho8 hk9 hi10 dX7_faultOfPairs_27 ?_
        refine lv_i2l (v := (((hI S b8 ((l1 + 1) : Int32).toNatClampNeg) : Int32).toInt64)) C.1 C.2.1 dX7_faultOfPairs_28 rfl ?_
        refine lv_goto (tgt := 39) C.1 C.2.1 dX7_faultOfPairs_29 (by decide) ?_
        exact wJ4 (((hI S b8 ((l1 + 1) : Int32).toNatClampNeg) : Int32).toInt64) ls hL h0 h1 hw
set_option maxRecDepth 100000 in
set_option maxHeartbeats 4000000 in
theorem c_X7_faultOfPairs {l : Launch} {G : GX} {S : Hp} {a0 : Nat} {Q : Int32 → Hp → Prop} (hw : wp_X7_faultOfPairs S a0 Q) : Met l yX7_faultOfPairs (Cond.code yX7_faultOfPairs cX7_faultOfPairs 6 (some .int) :: TS) { frames := 0, cells := 0, slots := 0, locals := 0 } (Pk G S [va_rf (some a0)]) (QI G Q) 0 0 G.2.2.1 := by
  refine m_met (by decide) ?_
  intro p e s m below meth c H locs C hW hS
  have C : Cx p s m ([va_rf (some a0)] : List Value).toArray meth c cX7_faultOfPairs 6 RX7 (some .int) "faultOfPairs" G := C
  obtain ⟨ls, hent, hL, hla⟩ := m_entry m (vs := [va_rf (some a0)]) (nn := 6) [1] rfl (by decide)
  rw [hent]
  have h0 : ls[0]? = some (.val (va_rf (some a0))) := hla (0, va_rf (some a0)) (List.mem_of_getElem? (i := 0) rfl)
  clear hla
  generalize ([va_rf (some a0)] : List Value).toArray = args at C ⊢
  unfold wp_X7_faultOfPairs at hw
  refine lv_iconst (v := 0) C.1 C.2.1 dX7_faultOfPairs_0 (by decide) ?_
  refine m_istN C hL dX7_faultOfPairs_1 rfl (by decide) (fun ls hL hn9 hk9 => ?_)
  have h0 := hk9 0 _ h0 (by decide) (Or.inr (va_rf_cat _))
  have h1 := hn9
  exact w_X7_faultOfPairs_L2 C hW hS  FU 0 ls hL h0 h1 hw
def wp_X7_fault (S : Hp) (a0 : Nat) (Q : Int32 → Hp → Prop) : Prop := hK S a0 = 9 ∧ ((hI S a0 0) = 0 → Q 0 S) ∧ (¬ ((hI S a0 0) = 0) → ((hI S a0 4) = 0 → Q 13 S) ∧ (¬ ((hI S a0 4) = 0) → ((hI S a0 0) = 1 → wp_X7_faultOfCut S a0 (fun r5 S4 => Q r5 S4)) ∧ (¬ ((hI S a0 0) = 1) → ((hI S a0 0) = 2 → wp_X7_faultOfShares S a0 (fun r8 S7 => Q r8 S7)) ∧ (¬ ((hI S a0 0) = 2) → ((hI S a0 0) = 3 → wp_X7_faultOfShares S a0 (fun r11 S10 => Q r11 S10)) ∧ (¬ ((hI S a0 0) = 3) → ((hI S a0 0) = 4 → wp_X7_faultOfPairs S a0 (fun r14 S13 => Q r14 S13)) ∧ (¬ ((hI S a0 0) = 4) → ((hI S a0 0) = 5 → wp_X7_isBelowZero S a0 (fun r17 S16 => (r17 = 0 → Q 0 S16) ∧ (¬ (r17 = 0) → Q 21 S16))) ∧ (¬ ((hI S a0 0) = 5) → Q 0 S)))))))
set_option maxRecDepth 100000 in
set_option maxHeartbeats 4000000 in
theorem c_X7_fault {l : Launch} {G : GX} {S : Hp} {a0 : Nat} {Q : Int32 → Hp → Prop} (hw : wp_X7_fault S a0 Q) : Met l yX7_fault (Cond.code yX7_fault cX7_fault 1 (some .int) :: TS) { frames := 2, cells := 0, slots := 0, locals := 43 } (Pk G S [va_rf (some a0)]) (QI G Q) 0 0 G.2.2.1 := by
  refine m_met (by decide) ?_
  intro p e s m below meth c H locs C hW hS
  have C : Cx p s m ([va_rf (some a0)] : List Value).toArray meth c cX7_fault 1 RX7 (some .int) "fault" G := C
  obtain ⟨ls, hent, hL, hla⟩ := m_entry m (vs := [va_rf (some a0)]) (nn := 1) [1] rfl (by decide)
  rw [hent]
  have h0 : ls[0]? = some (.val (va_rf (some a0))) := hla (0, va_rf (some a0)) (List.mem_of_getElem? (i := 0) rfl)
  clear hla
  generalize ([va_rf (some a0)] : List Value).toArray = args at C ⊢
  unfold wp_X7_fault at hw
  refine m_aldN C dX7_fault_0 rfl h0 ?_
  obtain ⟨hk1, hw⟩ := hw
  refine m_getI C hW rfl hk1 f_X7_11 rfl dX7_fault_1 ?_
  refine lv_if_ne (tgt := 9) C.1 C.2.1 dX7_fault_4 (by decide) (fun hc2 => ?_) (fun hc2 => ?_)
  · have hw := hw.2 hc2
    refine m_aldN C dX7_fault_9 rfl h0 ?_
    refine m_getI C hW rfl hk1 f_X7_19 rfl dX7_fault_10 ?_
    refine lv_if_ne (tgt := 19) C.1 C.2.1 dX7_fault_13 (by decide) (fun hc3 => ?_) (fun hc3 => ?_)
    · have hw := hw.2 hc3
      refine m_aldN C dX7_fault_19 rfl h0 ?_
      refine m_getI C hW rfl hk1 f_X7_11 rfl dX7_fault_20 ?_
      by_cases hc6 : (hI S a0 0) = 1
      · have hw := hw.1 hc6
        refine lv_tableIn (tgt := 56) (off := 33) C.1 C.2.1 dX7_fault_23 (by rw [hc6]; decide) (by rw [hc6]; decide) (by rw [hc6]; rfl) (by decide) ?_
        refine m_aldN C dX7_fault_56 rfl h0 ?_
        refine m_rI (m_runV (As := []) (rest := []) C hW hS hL (c_X7_faultOfCut hw) v_X7_22 ⟨rfl, rfl⟩ ⟨Nat.le_of_ble_eq_true rfl, Nat.le_of_ble_eq_true rfl⟩ rfl hk1 rfl rfl (Nat.le_of_ble_eq_true rfl) dX7_fault_57 ⟨Nat.le_of_ble_eq_true rfl, Nat.le_of_ble_eq_true rfl⟩) hS (fun r5 S4 H locs hw hW hS => ?_)
        exact m_iret C hW hS hw dX7_fault_60
      · have hw := hw.2 hc6
        by_cases hc9 : (hI S a0 0) = 2
        · have hw := hw.1 hc9
          refine lv_tableIn (tgt := 61) (off := 38) C.1 C.2.1 dX7_fault_23 (by rw [hc9]; decide) (by rw [hc9]; decide) (by rw [hc9]; rfl) (by decide) ?_
          refine m_aldN C dX7_fault_61 rfl h0 ?_
          refine m_rI (m_runV (As := []) (rest := []) C hW hS hL (c_X7_faultOfShares hw) v_X7_26 ⟨rfl, rfl⟩ ⟨Nat.le_of_ble_eq_true rfl, Nat.le_of_ble_eq_true rfl⟩ rfl hk1 rfl rfl (Nat.le_of_ble_eq_true rfl) dX7_fault_62 ⟨Nat.le_of_ble_eq_true rfl, Nat.le_of_ble_eq_true rfl⟩) hS (fun r8 S7 H locs hw hW hS => ?_)
          exact m_iret C hW hS hw dX7_fault_65
        · have hw := hw.2 hc9
          by_cases hc12 : (hI S a0 0) = 3
          · have hw := hw.1 hc12
            refine lv_tableIn (tgt := 66) (off := 43) C.1 C.2.1 dX7_fault_23 (by rw [hc12]; decide) (by rw [hc12]; decide) (by rw [hc12]; rfl) (by decide) ?_
            refine m_aldN C dX7_fault_66 rfl h0 ?_
            refine m_rI (m_runV (As := []) (rest := []) C hW hS hL (c_X7_faultOfShares hw) v_X7_26 ⟨rfl, rfl⟩ ⟨Nat.le_of_ble_eq_true rfl, Nat.le_of_ble_eq_true rfl⟩ rfl hk1 rfl rfl (Nat.le_of_ble_eq_true rfl) dX7_fault_67 ⟨Nat.le_of_ble_eq_true rfl, Nat.le_of_ble_eq_true rfl⟩) hS (fun r11 S10 H locs hw hW hS => ?_)
            exact m_iret C hW hS hw dX7_fault_70
          · have hw := hw.2 hc12
            by_cases hc15 : (hI S a0 0) = 4
            · have hw := hw.1 hc15
              refine lv_tableIn (tgt := 71) (off := 48) C.1 C.2.1 dX7_fault_23 (by rw [hc15]; decide) (by rw [hc15]; decide) (by rw [hc15]; rfl) (by decide) ?_
              refine m_aldN C dX7_fault_71 rfl h0 ?_
              refine m_rI (m_runV (As := []) (rest := []) C hW hS hL (c_X7_faultOfPairs hw) v_X7_29 ⟨rfl, rfl⟩ ⟨Nat.le_of_ble_eq_true rfl, Nat.le_of_ble_eq_true rfl⟩ rfl hk1 rfl rfl (Nat.le_of_ble_eq_true rfl) dX7_fault_72 ⟨Nat.le_of_ble_eq_true rfl, Nat.le_of_ble_eq_true rfl⟩) hS (fun r14 S13 H locs hw hW hS => ?_)
              exact m_iret C hW hS hw dX7_fault_75
            · have hw := hw.2 hc15
              by_cases hc19 : (hI S a0 0) = 5
              · have hw := hw.1 hc19
                refine lv_tableIn (tgt := 76) (off := 53) C.1 C.2.1 dX7_fault_23 (by rw [hc19]; decide) (by rw [hc19]; decide) (by rw [hc19]; rfl) (by decide) ?_
                refine m_aldN C dX7_fault_76 rfl h0 ?_
                refine m_rI (m_runV (As := []) (rest := []) C hW hS hL (c_X7_isBelowZero hw) v_X7_32 ⟨rfl, rfl⟩ ⟨Nat.le_of_ble_eq_true rfl, Nat.le_of_ble_eq_true rfl⟩ rfl hk1 rfl rfl (Nat.le_of_ble_eq_true rfl) dX7_fault_77 ⟨Nat.le_of_ble_eq_true rfl, Nat.le_of_ble_eq_true rfl⟩) hS (fun r17 S16 H locs hw hW hS => ?_)
                refine lv_if_eq (tgt := 88) C.1 C.2.1 dX7_fault_80 (by decide) (fun hc18 => ?_) (fun hc18 => ?_)
                · have hw := hw.1 hc18
                  refine lv_iconst (v := 0) C.1 C.2.1 dX7_fault_88 (by decide) ?_
                  exact m_iret C hW hS hw dX7_fault_89
                · have hw := hw.2 hc18
                  refine lv_bipush (v := 21) C.1 C.2.1 dX7_fault_83 (by decide) ?_
                  refine lv_goto (tgt := 89) C.1 C.2.1 dX7_fault_85 (by decide) ?_
                  exact m_iret C hW hS hw dX7_fault_89
              · have hw := hw.2 hc19
                refine lv_tableOut (tgt := 90) C.1 C.2.1 dX7_fault_23 (tsw_out 1 5 (fun v h1 h2 => ?_)) (by decide) ?_
                · have : v = 1 ∨ v = 2 ∨ v = 3 ∨ v = 4 ∨ v = 5 := by omega
                  rcases this with rfl | rfl | rfl | rfl | rfl
                  · exact lv_neT hc6 (by decide)
                  · exact lv_neT hc9 (by decide)
                  · exact lv_neT hc12 (by decide)
                  · exact lv_neT hc15 (by decide)
                  · exact lv_neT hc19 (by decide)
                · refine lv_iconst (v := 0) C.1 C.2.1 dX7_fault_90 (by decide) ?_
                  exact m_iret C hW hS hw dX7_fault_91
    · have hw := hw.1 hc3
      refine lv_bipush (v := 13) C.1 C.2.1 dX7_fault_16 (by decide) ?_
      exact m_iret C hW hS hw dX7_fault_18
  · have hw := hw.1 hc2
    refine lv_iconst (v := 0) C.1 C.2.1 dX7_fault_7 (by decide) ?_
    exact m_iret C hW hS hw dX7_fault_8
def wp_X1_greatestUncut_L4 (S : Hp) (l0 : Nat) (l1 : Option Nat) (Q : Int32 → Hp → Prop) : Nat → Int32 → Int32 → Prop
  | 0, _, _ => False
  | n + 1, l2, l3 => ∃ b1 : Nat, l1 = some b1 ∧ hK S b1 = 9 ∧ ((hI S b1 4) ≤ l3 → Q l2 S) ∧ (¬ ((hI S b1 4) ≤ l3) → hK S l0 = 3 ∧ ∃ b5 : Nat, (hR S l0 0) = some b5 ∧ hK S b5 = 16 ∧ vp_in l3 (hN S b5) ∧ ((hJ S b5 (l3 : Int32).toNatClampNeg) = (-1) → (l2 = (-1) → wp_X1_greatestUncut_L4 S l0 l1 Q n l3 (l3 + 1)) ∧ (¬ (l2 = (-1)) → ∃ b10 : Nat, (hR S b1 3) = some b10 ∧ hK S b10 = 15 ∧ vp_in l3 (hN S b10) ∧ vp_in l2 (hN S b10) ∧ ((hI S b10 (l3 : Int32).toNatClampNeg) ≤ (hI S b10 (l2 : Int32).toNatClampNeg) → wp_X1_greatestUncut_L4 S l0 l1 Q n l2 (l3 + 1)) ∧ (¬ ((hI S b10 (l3 : Int32).toNatClampNeg) ≤ (hI S b10 (l2 : Int32).toNatClampNeg)) → wp_X1_greatestUncut_L4 S l0 l1 Q n l3 (l3 + 1)))) ∧ (¬ ((hJ S b5 (l3 : Int32).toNatClampNeg) = (-1)) → wp_X1_greatestUncut_L4 S l0 l1 Q n l2 (l3 + 1)))
def wp_X1_greatestUncut (S : Hp) (a0 : Nat) (a1 : Option Nat) (Q : Int32 → Hp → Prop) : Prop := wp_X1_greatestUncut_L4 S a0 a1 Q FU (-1) 0
set_option maxRecDepth 100000 in
set_option maxHeartbeats 4000000 in
theorem w_X1_greatestUncut_L4 {p : Program} {l : Launch} {e : Env} {s : State} {m : MethodId} {args : Array Value} {below : List Frame} {meth : Method} {c : Code} {G : GX} {Q : Int32 → Hp → Prop} {l0 : Nat} {l1 : Option Nat} {S : Hp} {H : Heap} {locs : List Loc} (C : Cx p s m args meth c cX1_greatestUncut 4 RX1 (some .int) "greatestUncut" G) (hW : wd G S H) (hS : va_S G.2.2.1 s.heap H locs) :
    ∀ (n : Nat) (l2 : Int32) (l3 : Int32) (ls : Array Slot), LV ls 4 → ls[0]? = some (.val (va_rf (some l0))) → ls[1]? = some (.val (va_rf l1)) → ls[2]? = some (.val (.int l2)) → ls[3]? = some (.val (.int l3)) → wp_X1_greatestUncut_L4 S l0 l1 Q n l2 l3 → W p l e ({ frames := 0, cells := 0, slots := 0, locals := 0 } : Room) s m args below meth c H locs 0 0 (MQ below (QI G Q) args s 0 0 G.2.2.1) (F0 m 4 ls []) := by
  intro n
  induction n with
  | zero =>
    intro l2 l3 ls hL h0 h1 h2 h3 hw
    exact False.elim hw
  | succ n ih =>
    intro l2 l3 ls hL h0 h1 h2 h3 hw
    unfold wp_X1_greatestUncut_L4 at hw
    refine lv_iload_n C.1 C.2.1 dX1_greatestUncut_4 rfl h3 ?_
    refine m_aldN C dX1_greatestUncut_5 rfl h1 ?_
    obtain ⟨b1, ho1, hw⟩ := hw
    obtain ⟨hk2, hw⟩ := hw
    refine m_getI C hW ho1 hk2 f_X1_41 rfl dX1_greatestUncut_6 ?_
    refine lv_icmp_ge (tgt := 53) C.1 C.2.1 dX1_greatestUncut_9 (by decide) (fun hc3 => ?_) (fun hc3 => ?_)
    · have hw := hw.1 hc3
      refine lv_iload_n C.1 C.2.1 dX1_greatestUncut_53 rfl h2 ?_
      exact m_iret C hW hS hw dX1_greatestUncut_54
    · have hw := hw.2 hc3
      refine m_aldN C dX1_greatestUncut_12 rfl h0 ?_
      obtain ⟨hk4, hw⟩ := hw
      refine m_getR C hW rfl hk4 f_X1_9 rfl dX1_greatestUncut_13 ?_
      refine lv_iload_n C.1 C.2.1 dX1_greatestUncut_16 rfl h3 ?_
      obtain ⟨b5, ho5, hw⟩ := hw
      obtain ⟨hk6, hw⟩ := hw
      obtain ⟨hi7, hw⟩ := hw
      refine m_lald C hW ho5 hk6 hi7 dX1_greatestUncut_17 ?_
      refine lv_ldc2 (v := (-1)) C.1 C.2.1 C.2.2.2.1 (C.2.2.2.2.1 _ tw_1026) dX1_greatestUncut_18 ?_
      refine W.lcmp C.1 C.2.1 dX1_greatestUncut_21 ?_
      refine lv_if_ne (tgt := 47) C.1 C.2.1 dX1_greatestUncut_22 (by decide) (fun hc8 => ?_) (fun hc8 => ?_)
      · have hw := hw.2 (fun z => hc8 ((q_ne _ _).mpr z))
        refine m_iinc (v := (l3 + 1)) C hL dX1_greatestUncut_47 h3 rfl (by decide) (fun ls hL hn9 hk9 => ?_)
        have h0 := hk9 0 _ h0 (by decide) (Or.inl (by decide))
        have h1 := hk9 1 _ h1 (by decide) (Or.inl (by decide))
        have h2 := hk9 2 _ h2 (by decide) (Or.inr (rfl))
        have h3 := hn9
        refine lv_goto (tgt := 4) C.1 C.2.1 dX1_greatestUncut_50 (by decide) ?_
        exact ih l2 (l3 + 1) ls hL h0 h1 h2 h3 hw
      · have hw := hw.1 ((q_ne _ _).mp hc8)
        refine lv_iload_n C.1 C.2.1 dX1_greatestUncut_25 rfl h2 ?_
        refine lv_iconst (v := (-1)) C.1 C.2.1 dX1_greatestUncut_26 (by decide) ?_
        refine lv_icmp_eq (tgt := 45) C.1 C.2.1 dX1_greatestUncut_27 (by decide) (fun hc9 => ?_) (fun hc9 => ?_)
        · have hw := hw.1 hc9
          refine lv_iload_n C.1 C.2.1 dX1_greatestUncut_45 rfl h3 ?_
          refine m_istN C hL dX1_greatestUncut_46 rfl (by decide) (fun ls hL hn9 hk9 => ?_)
          have h0 := hk9 0 _ h0 (by decide) (Or.inl (by decide))
          have h1 := hk9 1 _ h1 (by decide) (Or.inr (va_rf_cat _))
          have h3 := hk9 3 _ h3 (by decide) (Or.inl (by decide))
          have h2 := hn9
          refine m_iinc (v := (l3 + 1)) C hL dX1_greatestUncut_47 h3 rfl (by decide) (fun ls hL hn9 hk9 => ?_)
          have h0 := hk9 0 _ h0 (by decide) (Or.inl (by decide))
          have h1 := hk9 1 _ h1 (by decide) (Or.inl (by decide))
          have h2 := hk9 2 _ h2 (by decide) (Or.inr (rfl))
          have h3 := hn9
          refine lv_goto (tgt := 4) C.1 C.2.1 dX1_greatestUncut_50 (by decide) ?_
          exact ih l3 (l3 + 1) ls hL h0 h1 h2 h3 hw
        · have hw := hw.2 hc9
          refine m_aldN C dX1_greatestUncut_30 rfl h1 ?_
          refine m_getR C hW ho1 hk2 f_X1_53 rfl dX1_greatestUncut_31 ?_
          refine lv_iload_n C.1 C.2.1 dX1_greatestUncut_34 rfl h3 ?_
          obtain ⟨b10, ho10, hw⟩ := hw
          obtain ⟨hk11, hw⟩ := hw
          obtain ⟨hi12, hw⟩ := hw
          refine m_iald C hW ho10 hk11 hi12 dX1_greatestUncut_35 ?_
          refine m_aldN C dX1_greatestUncut_36 rfl h1 ?_
          refine m_getR C hW ho1 hk2 f_X1_53 rfl dX1_greatestUncut_37 ?_
          refine lv_iload_n C.1 C.2.1 dX1_greatestUncut_40 rfl h2 ?_
          obtain ⟨hi13, hw⟩ := hw
          refine m_iald C hW ho10 hk11 hi13 dX1_greatestUncut_41 ?_
          refine lv_icmp_le (tgt := 47) C.1 C.2.1 dX1_greatestUncut_42 (by decide) (fun hc14 => ?_) (fun hc14 => ?_)
          · have hw := hw.1 hc14
            refine m_iinc (v := (l3 + 1)) C hL dX1_greatestUncut_47 h3 rfl (by decide) (fun ls hL hn9 hk9 => ?_)
            have h0 := hk9 0 _ h0 (by decide) (Or.inl (by decide))
            have h1 := hk9 1 _ h1 (by decide) (Or.inl (by decide))
            have h2 := hk9 2 _ h2 (by decide) (Or.inr (rfl))
            have h3 := hn9
            refine lv_goto (tgt := 4) C.1 C.2.1 dX1_greatestUncut_50 (by decide) ?_
            exact ih l2 (l3 + 1) ls hL h0 h1 h2 h3 hw
          · have hw := hw.2 hc14
            refine lv_iload_n C.1 C.2.1 dX1_greatestUncut_45 rfl h3 ?_
            refine m_istN C hL dX1_greatestUncut_46 rfl (by decide) (fun ls hL hn9 hk9 => ?_)
            have h0 := hk9 0 _ h0 (by decide) (Or.inl (by decide))
            have h1 := hk9 1 _ h1 (by decide) (Or.inr (va_rf_cat _))
            have h3 := hk9 3 _ h3 (by decide) (Or.inl (by decide))
            have h2 := hn9
            refine m_iinc (v := (l3 + 1)) C hL dX1_greatestUncut_47 h3 rfl (by decide) (fun ls hL hn9 hk9 => ?_)
            have h0 := hk9 0 _ h0 (by decide) (Or.inl (by decide))
            have h1 := hk9 1 _ h1 (by decide) (Or.inl (by decide))
            have h2 := hk9 2 _ h2 (by decide) (Or.inr (rfl))
            have h3 := hn9
            refine lv_goto (tgt := 4) C.1 C.2.1 dX1_greatestUncut_50 (by decide) ?_
            exact ih l3 (l3 + 1) ls hL h0 h1 h2 h3 hw
set_option maxRecDepth 100000 in
set_option maxHeartbeats 4000000 in
theorem c_X1_greatestUncut {l : Launch} {G : GX} {S : Hp} {a0 : Nat} {a1 : Option Nat} {Q : Int32 → Hp → Prop} (hw : wp_X1_greatestUncut S a0 a1 Q) : Met l yX1_greatestUncut (Cond.code yX1_greatestUncut cX1_greatestUncut 4 (some .int) :: TS) { frames := 0, cells := 0, slots := 0, locals := 0 } (Pk G S [va_rf (some a0), va_rf a1]) (QI G Q) 0 0 G.2.2.1 := by
  refine m_met (by decide) ?_
  intro p e s m below meth c H locs C hW hS
  have C : Cx p s m ([va_rf (some a0), va_rf a1] : List Value).toArray meth c cX1_greatestUncut 4 RX1 (some .int) "greatestUncut" G := C
  obtain ⟨ls, hent, hL, hla⟩ := m_entry m (vs := [va_rf (some a0), va_rf a1]) (nn := 4) [1, 1] (by simp only [List.map_cons, List.map_nil, va_rf_cat] <;> rfl) (by decide)
  rw [hent]
  have h0 : ls[0]? = some (.val (va_rf (some a0))) := hla (0, va_rf (some a0)) (List.mem_of_getElem? (i := 0) rfl)
  have h1 : ls[1]? = some (.val (va_rf a1)) := hla (1, va_rf a1) (List.mem_of_getElem? (i := 1) rfl)
  clear hla
  generalize ([va_rf (some a0), va_rf a1] : List Value).toArray = args at C ⊢
  unfold wp_X1_greatestUncut at hw
  refine lv_iconst (v := (-1)) C.1 C.2.1 dX1_greatestUncut_0 (by decide) ?_
  refine m_istN C hL dX1_greatestUncut_1 rfl (by decide) (fun ls hL hn9 hk9 => ?_)
  have h0 := hk9 0 _ h0 (by decide) (Or.inl (by decide))
  have h1 := hk9 1 _ h1 (by decide) (Or.inr (va_rf_cat _))
  have h2 := hn9
  refine lv_iconst (v := 0) C.1 C.2.1 dX1_greatestUncut_2 (by decide) ?_
  refine m_istN C hL dX1_greatestUncut_3 rfl (by decide) (fun ls hL hn9 hk9 => ?_)
  have h0 := hk9 0 _ h0 (by decide) (Or.inl (by decide))
  have h1 := hk9 1 _ h1 (by decide) (Or.inl (by decide))
  have h2 := hk9 2 _ h2 (by decide) (Or.inr (rfl))
  have h3 := hn9
  exact w_X1_greatestUncut_L4 C hW hS  FU (-1) 0 ls hL h0 h1 h2 h3 hw
def wp_X1_boardFor_L3 (S : Hp) (l0 : Nat) (l1 : Int64) (l3 : Option Nat) (K65 : Prop) (Q : Int32 → Hp → Prop) : Nat → Int32 → Prop
  | 0, _ => False
  | n + 1, l4 => hK S l0 = 3 ∧ ((hI S l0 2) ≤ l4 → K65) ∧ (¬ ((hI S l0 2) ≤ l4) → (30 ≤ l4 → K65) ∧ (¬ (30 ≤ l4) → ∃ b4 : Nat, (hR S l0 1) = some b4 ∧ hK S b4 = 16 ∧ vp_in l4 (hN S b4) ∧ ∃ b7 : Nat, l3 = some b7 ∧ hK S b7 = 9 ∧ ∀ z9 : Int64, z9 = (((hJ S b4 (l4 : Int32).toNatClampNeg) + (((hI S b7 2) : Int32).toInt64)) + l1) → ((((hI S b7 1) : Int32).toInt64) < z9 → wp_X1_boardFor_L3 S l0 l1 l3 K65 Q n (l4 + 1)) ∧ (¬ ((((hI S b7 1) : Int32).toInt64) < z9) → vp_in l4 (hN S b4) ∧ Q l4 (sJ S b4 (l4 : Int32).toNatClampNeg z9))))
def wp_X1_boardFor (S : Hp) (a0 : Nat) (a1 : Int64) (a3 : Option Nat) (Q : Int32 → Hp → Prop) : Prop := wp_X1_boardFor_L3 S a0 a1 a3 (hK S a0 = 3 ∧ ((hI S a0 2) < 30 → ∃ b14 : Nat, (hR S a0 1) = some b14 ∧ hK S b14 = 16 ∧ vp_in (hI S a0 2) (hN S b14) ∧ Q ((hI (sI (sJ S b14 ((hI S a0 2) : Int32).toNatClampNeg a1) a0 2 ((hI (sJ S b14 ((hI S a0 2) : Int32).toNatClampNeg a1) a0 2) + 1)) a0 2) - 1) (sI (sJ S b14 ((hI S a0 2) : Int32).toNatClampNeg a1) a0 2 ((hI (sJ S b14 ((hI S a0 2) : Int32).toNatClampNeg a1) a0 2) + 1))) ∧ (¬ ((hI S a0 2) < 30) → Q (-1) S)) Q FU 0
set_option maxRecDepth 100000 in
set_option maxHeartbeats 4000000 in
theorem w_X1_boardFor_L3 {p : Program} {l : Launch} {e : Env} {s : State} {m : MethodId} {args : Array Value} {below : List Frame} {meth : Method} {c : Code} {G : GX} {Q : Int32 → Hp → Prop} {K65 : Prop} {l0 : Nat} {l1 : Int64} {l3 : Option Nat} {S : Hp} {H : Heap} {locs : List Loc} (C : Cx p s m args meth c cX1_boardFor 7 RX1 (some .int) "boardFor" G) (hW : wd G S H) (hS : va_S G.2.2.1 s.heap H locs)
    (k65 : ∀  (ls : Array Slot), LV ls 7 → ls[0]? = some (.val (va_rf (some l0))) → ls[1]? = some (.val (.long l1)) → K65  → W p l e ({ frames := 0, cells := 0, slots := 0, locals := 0 } : Room) s m args below meth c H locs 0 0 (MQ below (QI G Q) args s 0 0 G.2.2.1) (F0 m 65 ls [])) :
    ∀ (n : Nat) (l4 : Int32) (ls : Array Slot), LV ls 7 → ls[0]? = some (.val (va_rf (some l0))) → ls[1]? = some (.val (.long l1)) → ls[3]? = some (.val (va_rf l3)) → ls[4]? = some (.val (.int l4)) → wp_X1_boardFor_L3 S l0 l1 l3 K65 Q n l4 → W p l e ({ frames := 0, cells := 0, slots := 0, locals := 0 } : Room) s m args below meth c H locs 0 0 (MQ below (QI G Q) args s 0 0 G.2.2.1) (F0 m 3 ls []) := by
  intro n
  induction n with
  | zero =>
    intro l4 ls hL h0 h1 h3 h4 hw
    exact False.elim hw
  | succ n ih =>
    intro l4 ls hL h0 h1 h3 h4 hw
    unfold wp_X1_boardFor_L3 at hw
    refine lv_iload C.1 C.2.1 dX1_boardFor_3 h4 ?_
    refine m_aldN C dX1_boardFor_5 rfl h0 ?_
    obtain ⟨hk1, hw⟩ := hw
    refine m_getI C hW rfl hk1 f_X1_18 rfl dX1_boardFor_6 ?_
    refine lv_icmp_ge (tgt := 65) C.1 C.2.1 dX1_boardFor_9 (by decide) (fun hc2 => ?_) (fun hc2 => ?_)
    · have hw := hw.1 hc2
      exact k65  ls hL h0 h1 hw
    · have hw := hw.2 hc2
      refine lv_iload C.1 C.2.1 dX1_boardFor_12 h4 ?_
      refine lv_bipush (v := 30) C.1 C.2.1 dX1_boardFor_14 (by decide) ?_
      refine lv_icmp_ge (tgt := 65) C.1 C.2.1 dX1_boardFor_16 (by decide) (fun hc3 => ?_) (fun hc3 => ?_)
      · have hw := hw.1 hc3
        exact k65  ls hL h0 h1 hw
      · have hw := hw.2 hc3
        refine m_aldN C dX1_boardFor_19 rfl h0 ?_
        refine m_getR C hW rfl hk1 f_X1_15 rfl dX1_boardFor_20 ?_
        refine lv_iload C.1 C.2.1 dX1_boardFor_23 h4 ?_
        obtain ⟨b4, ho4, hw⟩ := hw
        obtain ⟨hk5, hw⟩ := hw
        obtain ⟨hi6, hw⟩ := hw
        refine m_lald C hW ho4 hk5 hi6 dX1_boardFor_25 ?_
        refine m_aldN C dX1_boardFor_26 rfl h3 ?_
        obtain ⟨b7, ho7, hw⟩ := hw
        obtain ⟨hk8, hw⟩ := hw
        refine m_getI C hW ho7 hk8 f_X1_61 rfl dX1_boardFor_27 ?_
        refine lv_i2l (v := (((hI S b7 2) : Int32).toInt64)) C.1 C.2.1 dX1_boardFor_30 rfl ?_
        refine lv_ladd C.1 C.2.1 dX1_boardFor_31 ?_
        refine lv_lload_n C.1 C.2.1 dX1_boardFor_32 rfl h1 ?_
        refine lv_ladd C.1 C.2.1 dX1_boardFor_33 ?_
        refine lv_topl (fun z9 ez9 => ?_)
        have hw := hw z9 ez9
        refine m_lst C hL dX1_boardFor_34 (by decide) (fun ls hL hn9 hk9 => ?_)
        have h0 := hk9 0 _ h0 (by decide) (by decide) (Or.inl (by decide))
        have h1 := hk9 1 _ h1 (by decide) (by decide) (Or.inl (by decide))
        have h3 := hk9 3 _ h3 (by decide) (by decide) (Or.inl (by decide))
        have h4 := hk9 4 _ h4 (by decide) (by decide) (Or.inr (rfl))
        have h5 := hn9
        refine lv_lload C.1 C.2.1 dX1_boardFor_36 h5 ?_
        refine m_aldN C dX1_boardFor_38 rfl h3 ?_
        refine m_getI C hW ho7 hk8 f_X1_64 rfl dX1_boardFor_39 ?_
        refine lv_i2l (v := (((hI S b7 1) : Int32).toInt64)) C.1 C.2.1 dX1_boardFor_42 rfl ?_
        refine W.lcmp C.1 C.2.1 dX1_boardFor_43 ?_
        refine lv_if_gt (tgt := 59) C.1 C.2.1 dX1_boardFor_44 (by decide) (fun hc10 => ?_) (fun hc10 => ?_)
        · have hw := hw.1 ((q_gt _ _).mp hc10)
          refine m_iinc (v := (l4 + 1)) C hL dX1_boardFor_59 h4 rfl (by decide) (fun ls hL hn9 hk9 => ?_)
          have h0 := hk9 0 _ h0 (by decide) (Or.inl (by decide))
          have h1 := hk9 1 _ h1 (by decide) (Or.inl (by decide))
          have h3 := hk9 3 _ h3 (by decide) (Or.inr (va_rf_cat _))
          have h4 := hn9
          refine lv_goto (tgt := 3) C.1 C.2.1 dX1_boardFor_62 (by decide) ?_
          exact ih (l4 + 1) ls hL h0 h1 h3 h4 hw
        · have hw := hw.2 (fun z => hc10 ((q_gt _ _).mpr z))
          refine m_aldN C dX1_boardFor_47 rfl h0 ?_
          refine m_getR C hW rfl hk1 f_X1_15 rfl dX1_boardFor_48 ?_
          refine lv_iload C.1 C.2.1 dX1_boardFor_51 h4 ?_
          refine lv_lload C.1 C.2.1 dX1_boardFor_53 h5 ?_
          obtain ⟨hi11, hw⟩ := hw
          refine m_last C hW hS ho4 hk5 hi11 dX1_boardFor_55 (fun H locs hW hS => ?_)
          refine lv_iload C.1 C.2.1 dX1_boardFor_56 h4 ?_
          exact m_iret C hW hS hw dX1_boardFor_58
set_option maxRecDepth 100000 in
set_option maxHeartbeats 4000000 in
theorem c_X1_boardFor {l : Launch} {G : GX} {S : Hp} {a0 : Nat} {a1 : Int64} {a3 : Option Nat} {Q : Int32 → Hp → Prop} (hw : wp_X1_boardFor S a0 a1 a3 Q) : Met l yX1_boardFor (Cond.code yX1_boardFor cX1_boardFor 7 (some .int) :: TS) { frames := 0, cells := 0, slots := 0, locals := 0 } (Pk G S [va_rf (some a0), .long a1, va_rf a3]) (QI G Q) 0 0 G.2.2.1 := by
  refine m_met (by decide) ?_
  intro p e s m below meth c H locs C hW hS
  have C : Cx p s m ([va_rf (some a0), .long a1, va_rf a3] : List Value).toArray meth c cX1_boardFor 7 RX1 (some .int) "boardFor" G := C
  obtain ⟨ls, hent, hL, hla⟩ := m_entry m (vs := [va_rf (some a0), .long a1, va_rf a3]) (nn := 7) [1, 2, 1] (by simp only [List.map_cons, List.map_nil, va_rf_cat] <;> rfl) (by decide)
  rw [hent]
  have h0 : ls[0]? = some (.val (va_rf (some a0))) := hla (0, va_rf (some a0)) (List.mem_of_getElem? (i := 0) rfl)
  have h1 : ls[1]? = some (.val (.long a1)) := hla (1, .long a1) (List.mem_of_getElem? (i := 1) rfl)
  have h3 : ls[3]? = some (.val (va_rf a3)) := hla (3, va_rf a3) (List.mem_of_getElem? (i := 2) rfl)
  clear hla
  generalize ([va_rf (some a0), .long a1, va_rf a3] : List Value).toArray = args at C ⊢
  unfold wp_X1_boardFor at hw
  refine lv_iconst (v := 0) C.1 C.2.1 dX1_boardFor_0 (by decide) ?_
  refine m_ist C hL dX1_boardFor_1 (by decide) (fun ls hL hn9 hk9 => ?_)
  have h0 := hk9 0 _ h0 (by decide) (Or.inl (by decide))
  have h1 := hk9 1 _ h1 (by decide) (Or.inl (by decide))
  have h3 := hk9 3 _ h3 (by decide) (Or.inr (va_rf_cat _))
  have h4 := hn9
  refine w_X1_boardFor_L3 C hW hS ?_ FU 0 ls hL h0 h1 h3 h4 hw
  · intro  ls hL h0 h1 hw
    refine m_aldN C dX1_boardFor_65 rfl h0 ?_
    obtain ⟨hk12, hw⟩ := hw
    refine m_getI C hW rfl hk12 f_X1_18 rfl dX1_boardFor_66 ?_
    refine lv_bipush (v := 30) C.1 C.2.1 dX1_boardFor_69 (by decide) ?_
    refine lv_icmp_lt (tgt := 76) C.1 C.2.1 dX1_boardFor_71 (by decide) (fun hc13 => ?_) (fun hc13 => ?_)
    · have hw := hw.1 hc13
      refine m_aldN C dX1_boardFor_76 rfl h0 ?_
      refine m_getR C hW rfl hk12 f_X1_15 rfl dX1_boardFor_77 ?_
      refine m_aldN C dX1_boardFor_80 rfl h0 ?_
      refine m_getI C hW rfl hk12 f_X1_18 rfl dX1_boardFor_81 ?_
      refine lv_lload_n C.1 C.2.1 dX1_boardFor_84 rfl h1 ?_
      obtain ⟨b14, ho14, hw⟩ := hw
      obtain ⟨hk15, hw⟩ := hw
      obtain ⟨hi16, hw⟩ := hw
      refine m_last C hW hS ho14 hk15 hi16 dX1_boardFor_85 (fun H locs hW hS => ?_)
      refine m_aldN C dX1_boardFor_86 rfl h0 ?_
      refine lv_dup C.1 C.2.1 dX1_boardFor_87 (va_rf_cat _) ?_
      refine m_getI C hW rfl hk12 f_X1_18 rfl dX1_boardFor_88 ?_
      refine lv_iconst (v := 1) C.1 C.2.1 dX1_boardFor_91 (by decide) ?_
      refine lv_iadd C.1 C.2.1 dX1_boardFor_92 ?_
      refine m_putI C hW hS rfl hk12 p_X1_18 (fun z => by cases z) rfl dX1_boardFor_93 (fun H locs hW hS => ?_)
      refine m_aldN C dX1_boardFor_96 rfl h0 ?_
      refine m_getI C hW rfl hk12 f_X1_18 rfl dX1_boardFor_97 ?_
      refine lv_iconst (v := 1) C.1 C.2.1 dX1_boardFor_100 (by decide) ?_
      refine lv_isub C.1 C.2.1 dX1_boardFor_101 ?_
      exact m_iret C hW hS hw dX1_boardFor_102
    · have hw := hw.2 hc13
      refine lv_iconst (v := (-1)) C.1 C.2.1 dX1_boardFor_74 (by decide) ?_
      exact m_iret C hW hS hw dX1_boardFor_75
def wp_X1_cutBoards_L2 (l0 : Nat) (l1 : Option Nat) (K25 : Hp → Prop) (Q : Hp → Prop) : Nat → Hp → Int32 → Prop
  | 0, _, _ => False
  | n + 1, S, l2 => ∃ b1 : Nat, l1 = some b1 ∧ hK S b1 = 9 ∧ ((hI S b1 4) ≤ l2 → K25 S) ∧ (¬ ((hI S b1 4) ≤ l2) → hK S l0 = 3 ∧ ∃ b5 : Nat, (hR S l0 0) = some b5 ∧ hK S b5 = 16 ∧ vp_in l2 (hN S b5) ∧ wp_X1_cutBoards_L2 l0 l1 K25 Q n (sJ S b5 (l2 : Int32).toNatClampNeg (-1)) (l2 + 1))
def wp_X1_cutBoards_L27 (l0 : Nat) (l1 : Option Nat) (Q : Hp → Prop) : Nat → Hp → Int32 → Prop
  | 0, _, _ => False
  | n + 1, S, l2 => ∃ b9 : Nat, l1 = some b9 ∧ hK S b9 = 9 ∧ ((hI S b9 4) ≤ l2 → Q S) ∧ (¬ ((hI S b9 4) ≤ l2) → hK S l0 = 3 ∧ wp_X1_greatestUncut S l0 l1 (fun r14 S13 => (r14 = (-1) → Q S13) ∧ (¬ (r14 = (-1)) → hK S13 l0 = 3 ∧ hK S13 b9 = 9 ∧ ∃ b18 : Nat, (hR S13 b9 3) = some b18 ∧ hK S13 b18 = 15 ∧ vp_in r14 (hN S13 b18) ∧ wp_X1_boardFor S13 l0 (((hI S13 b18 (r14 : Int32).toNatClampNeg) : Int32).toInt64) l1 (fun r22 S21 => ∃ b23 : Nat, (hR S13 l0 0) = some b23 ∧ hK S21 b23 = 16 ∧ vp_in r14 (hN S21 b23) ∧ wp_X1_cutBoards_L27 l0 l1 Q n (sJ S21 b23 (r14 : Int32).toNatClampNeg ((r22 : Int32).toInt64)) (l2 + 1)))))
def wp_X1_cutBoards (S : Hp) (a0 : Nat) (a1 : Option Nat) (Q : Hp → Prop) : Prop := wp_X1_cutBoards_L2 a0 a1 (fun (S8 : Hp) => wp_X1_cutBoards_L27 a0 a1 Q FU S8 0) Q FU S 0
set_option maxRecDepth 100000 in
set_option maxHeartbeats 4000000 in
theorem w_X1_cutBoards_L2 {p : Program} {l : Launch} {e : Env} {s : State} {m : MethodId} {args : Array Value} {below : List Frame} {meth : Method} {c : Code} {G : GX} {Q : Hp → Prop} {K25 : Hp → Prop} {l0 : Nat} {l1 : Option Nat} (C : Cx p s m args meth c cX1_cutBoards 4 RX1 none "cutBoards" G)
    (k25 : ∀ (S : Hp) (H : Heap) (locs : List Loc) (ls : Array Slot), wd G S H → va_S G.2.2.1 s.heap H locs → LV ls 4 → ls[0]? = some (.val (va_rf (some l0))) → ls[1]? = some (.val (va_rf l1)) → K25 S → W p l e ({ frames := 1, cells := 0, slots := 0, locals := 26 } : Room) s m args below meth c H locs 0 0 (MQ below (QV G Q) args s 0 0 G.2.2.1) (F0 m 25 ls [])) :
    ∀ (n : Nat) (S : Hp) (l2 : Int32) (H : Heap) (locs : List Loc) (ls : Array Slot), wd G S H → va_S G.2.2.1 s.heap H locs → LV ls 4 → ls[0]? = some (.val (va_rf (some l0))) → ls[1]? = some (.val (va_rf l1)) → ls[2]? = some (.val (.int l2)) → wp_X1_cutBoards_L2 l0 l1 K25 Q n S l2 → W p l e ({ frames := 1, cells := 0, slots := 0, locals := 26 } : Room) s m args below meth c H locs 0 0 (MQ below (QV G Q) args s 0 0 G.2.2.1) (F0 m 2 ls []) := by
  intro n
  induction n with
  | zero =>
    intro S l2 H locs ls hW hS hL h0 h1 h2 hw
    exact False.elim hw
  | succ n ih =>
    intro S l2 H locs ls hW hS hL h0 h1 h2 hw
    unfold wp_X1_cutBoards_L2 at hw
    refine lv_iload_n C.1 C.2.1 dX1_cutBoards_2 rfl h2 ?_
    refine m_aldN C dX1_cutBoards_3 rfl h1 ?_
    obtain ⟨b1, ho1, hw⟩ := hw
    obtain ⟨hk2, hw⟩ := hw
    refine m_getI C hW ho1 hk2 f_X1_41 rfl dX1_cutBoards_4 ?_
    refine lv_icmp_ge (tgt := 25) C.1 C.2.1 dX1_cutBoards_7 (by decide) (fun hc3 => ?_) (fun hc3 => ?_)
    · have hw := hw.1 hc3
      exact k25 S H locs ls hW hS hL h0 h1 hw
    · have hw := hw.2 hc3
      refine m_aldN C dX1_cutBoards_10 rfl h0 ?_
      obtain ⟨hk4, hw⟩ := hw
      refine m_getR C hW rfl hk4 f_X1_9 rfl dX1_cutBoards_11 ?_
      refine lv_iload_n C.1 C.2.1 dX1_cutBoards_14 rfl h2 ?_
      refine lv_ldc2 (v := (-1)) C.1 C.2.1 C.2.2.2.1 (C.2.2.2.2.1 _ tw_1026) dX1_cutBoards_15 ?_
      obtain ⟨b5, ho5, hw⟩ := hw
      obtain ⟨hk6, hw⟩ := hw
      obtain ⟨hi7, hw⟩ := hw
      refine m_last C hW hS ho5 hk6 hi7 dX1_cutBoards_18 (fun H locs hW hS => ?_)
      refine m_iinc (v := (l2 + 1)) C hL dX1_cutBoards_19 h2 rfl (by decide) (fun ls hL hn9 hk9 => ?_)
      have h0 := hk9 0 _ h0 (by decide) (Or.inl (by decide))
      have h1 := hk9 1 _ h1 (by decide) (Or.inr (va_rf_cat _))
      have h2 := hn9
      refine lv_goto (tgt := 2) C.1 C.2.1 dX1_cutBoards_22 (by decide) ?_
      exact ih (sJ S b5 (l2 : Int32).toNatClampNeg (-1)) (l2 + 1) H locs ls hW hS hL h0 h1 h2 hw
set_option maxRecDepth 100000 in
set_option maxHeartbeats 4000000 in
theorem w_X1_cutBoards_L27 {p : Program} {l : Launch} {e : Env} {s : State} {m : MethodId} {args : Array Value} {below : List Frame} {meth : Method} {c : Code} {G : GX} {Q : Hp → Prop} {l0 : Nat} {l1 : Option Nat} (C : Cx p s m args meth c cX1_cutBoards 4 RX1 none "cutBoards" G) :
    ∀ (n : Nat) (S : Hp) (l2 : Int32) (H : Heap) (locs : List Loc) (ls : Array Slot), wd G S H → va_S G.2.2.1 s.heap H locs → LV ls 4 → ls[0]? = some (.val (va_rf (some l0))) → ls[1]? = some (.val (va_rf l1)) → ls[2]? = some (.val (.int l2)) → wp_X1_cutBoards_L27 l0 l1 Q n S l2 → W p l e ({ frames := 1, cells := 0, slots := 0, locals := 26 } : Room) s m args below meth c H locs 0 0 (MQ below (QV G Q) args s 0 0 G.2.2.1) (F0 m 27 ls []) := by
  intro n
  induction n with
  | zero =>
    intro S l2 H locs ls hW hS hL h0 h1 h2 hw
    exact False.elim hw
  | succ n ih =>
    intro S l2 H locs ls hW hS hL h0 h1 h2 hw
    unfold wp_X1_cutBoards_L27 at hw
    refine lv_iload_n C.1 C.2.1 dX1_cutBoards_27 rfl h2 ?_
    refine m_aldN C dX1_cutBoards_28 rfl h1 ?_
    obtain ⟨b9, ho9, hw⟩ := hw
    obtain ⟨hk10, hw⟩ := hw
    refine m_getI C hW ho9 hk10 f_X1_41 rfl dX1_cutBoards_29 ?_
    refine lv_icmp_ge (tgt := 72) C.1 C.2.1 dX1_cutBoards_32 (by decide) (fun hc11 => ?_) (fun hc11 => ?_)
    · have hw := hw.1 hc11
      exact m_vret C hW hS hw dX1_cutBoards_72
    · have hw := hw.2 hc11
      refine m_aldN C dX1_cutBoards_35 rfl h0 ?_
      refine m_aldN C dX1_cutBoards_36 rfl h1 ?_
      obtain ⟨hk12, hw⟩ := hw
      refine m_rI (m_runV (As := [va_rf l1]) (rest := []) C hW hS hL (c_X1_greatestUncut hw) v_X1_49 ⟨rfl, rfl⟩ ⟨Nat.le_of_ble_eq_true rfl, Nat.le_of_ble_eq_true rfl⟩ rfl hk12 rfl rfl (Nat.le_of_ble_eq_true rfl) dX1_cutBoards_37 ⟨Nat.le_of_ble_eq_true rfl, Nat.le_of_ble_eq_true rfl⟩) hS (fun r14 S13 H locs hw hW hS => ?_)
      refine m_istN C hL dX1_cutBoards_40 rfl (by decide) (fun ls hL hn9 hk9 => ?_)
      have h0 := hk9 0 _ h0 (by decide) (Or.inl (by decide))
      have h1 := hk9 1 _ h1 (by decide) (Or.inl (by decide))
      have h2 := hk9 2 _ h2 (by decide) (Or.inr (rfl))
      have h3 := hn9
      refine lv_iload_n C.1 C.2.1 dX1_cutBoards_41 rfl h3 ?_
      refine lv_iconst (v := (-1)) C.1 C.2.1 dX1_cutBoards_42 (by decide) ?_
      refine lv_icmp_ne (tgt := 47) C.1 C.2.1 dX1_cutBoards_43 (by decide) (fun hc15 => ?_) (fun hc15 => ?_)
      · have hw := hw.2 hc15
        refine m_aldN C dX1_cutBoards_47 rfl h0 ?_
        obtain ⟨hk16, hw⟩ := hw
        refine m_getR C hW rfl hk16 f_X1_9 rfl dX1_cutBoards_48 ?_
        refine lv_iload_n C.1 C.2.1 dX1_cutBoards_51 rfl h3 ?_
        refine m_aldN C dX1_cutBoards_52 rfl h0 ?_
        refine m_aldN C dX1_cutBoards_53 rfl h1 ?_
        obtain ⟨hk17, hw⟩ := hw
        refine m_getR C hW ho9 hk17 f_X1_53 rfl dX1_cutBoards_54 ?_
        refine lv_iload_n C.1 C.2.1 dX1_cutBoards_57 rfl h3 ?_
        obtain ⟨b18, ho18, hw⟩ := hw
        obtain ⟨hk19, hw⟩ := hw
        obtain ⟨hi20, hw⟩ := hw
        refine m_iald C hW ho18 hk19 hi20 dX1_cutBoards_58 ?_
        refine lv_i2l (v := (((hI S13 b18 (r14 : Int32).toNatClampNeg) : Int32).toInt64)) C.1 C.2.1 dX1_cutBoards_59 rfl ?_
        refine m_aldN C dX1_cutBoards_60 rfl h1 ?_
        refine m_rI (m_runV (As := [.long (((hI S13 b18 (r14 : Int32).toNatClampNeg) : Int32).toInt64), va_rf l1]) (rest := [.int r14, va_rf (hR S13 l0 0)]) C hW hS hL (c_X1_boardFor hw) v_X1_57 ⟨rfl, rfl⟩ ⟨Nat.le_of_ble_eq_true rfl, Nat.le_of_ble_eq_true rfl⟩ rfl hk16 rfl rfl (by simp only [List.map_cons, List.map_nil, va_rf_cat, List.sum_cons, List.sum_nil] <;> exact Nat.le_of_ble_eq_true rfl) dX1_cutBoards_61 ⟨Nat.le_of_ble_eq_true rfl, Nat.le_of_ble_eq_true rfl⟩) hS (fun r22 S21 H locs hw hW hS => ?_)
        refine lv_i2l (v := ((r22 : Int32).toInt64)) C.1 C.2.1 dX1_cutBoards_64 rfl ?_
        obtain ⟨b23, ho23, hw⟩ := hw
        obtain ⟨hk24, hw⟩ := hw
        obtain ⟨hi25, hw⟩ := hw
        refine m_last C hW hS ho23 hk24 hi25 dX1_cutBoards_65 (fun H locs hW hS => ?_)
        refine m_iinc (v := (l2 + 1)) C hL dX1_cutBoards_66 h2 rfl (by decide) (fun ls hL hn9 hk9 => ?_)
        have h0 := hk9 0 _ h0 (by decide) (Or.inl (by decide))
        have h1 := hk9 1 _ h1 (by decide) (Or.inr (va_rf_cat _))
        have h2 := hn9
        refine lv_goto (tgt := 27) C.1 C.2.1 dX1_cutBoards_69 (by decide) ?_
        exact ih (sJ S21 b23 (r14 : Int32).toNatClampNeg ((r22 : Int32).toInt64)) (l2 + 1) H locs ls hW hS hL h0 h1 h2 hw
      · have hw := hw.1 hc15
        exact m_vret C hW hS hw dX1_cutBoards_46
set_option maxRecDepth 100000 in
set_option maxHeartbeats 4000000 in
theorem c_X1_cutBoards {l : Launch} {G : GX} {S : Hp} {a0 : Nat} {a1 : Option Nat} {Q : Hp → Prop} (hw : wp_X1_cutBoards S a0 a1 Q) : Met l yX1_cutBoards (Cond.code yX1_cutBoards cX1_cutBoards 4 none :: TS) { frames := 1, cells := 0, slots := 0, locals := 26 } (Pk G S [va_rf (some a0), va_rf a1]) (QV G Q) 0 0 G.2.2.1 := by
  refine m_met (by decide) ?_
  intro p e s m below meth c H locs C hW hS
  have C : Cx p s m ([va_rf (some a0), va_rf a1] : List Value).toArray meth c cX1_cutBoards 4 RX1 none "cutBoards" G := C
  obtain ⟨ls, hent, hL, hla⟩ := m_entry m (vs := [va_rf (some a0), va_rf a1]) (nn := 4) [1, 1] (by simp only [List.map_cons, List.map_nil, va_rf_cat] <;> rfl) (by decide)
  rw [hent]
  have h0 : ls[0]? = some (.val (va_rf (some a0))) := hla (0, va_rf (some a0)) (List.mem_of_getElem? (i := 0) rfl)
  have h1 : ls[1]? = some (.val (va_rf a1)) := hla (1, va_rf a1) (List.mem_of_getElem? (i := 1) rfl)
  clear hla
  generalize ([va_rf (some a0), va_rf a1] : List Value).toArray = args at C ⊢
  unfold wp_X1_cutBoards at hw
  refine lv_iconst (v := 0) C.1 C.2.1 dX1_cutBoards_0 (by decide) ?_
  refine m_istN C hL dX1_cutBoards_1 rfl (by decide) (fun ls hL hn9 hk9 => ?_)
  have h0 := hk9 0 _ h0 (by decide) (Or.inl (by decide))
  have h1 := hk9 1 _ h1 (by decide) (Or.inr (va_rf_cat _))
  have h2 := hn9
  refine w_X1_cutBoards_L2 C ?_ FU S 0 H locs ls hW hS hL h0 h1 h2 hw
  · intro S8 H locs ls hW hS hL h0 h1 hw
    refine lv_iconst (v := 0) C.1 C.2.1 dX1_cutBoards_25 (by decide) ?_
    refine m_istN C hL dX1_cutBoards_26 rfl (by decide) (fun ls hL hn9 hk9 => ?_)
    have h0 := hk9 0 _ h0 (by decide) (Or.inl (by decide))
    have h1 := hk9 1 _ h1 (by decide) (Or.inr (va_rf_cat _))
    have h2 := hn9
    exact w_X1_cutBoards_L27 C  FU S8 0 H locs ls hW hS hL h0 h1 h2 hw
def wp_X1_share_L23 (l0 : Nat) (l1 : Nat) (l2 : Int64) (Q : Int64 → Hp → Prop) : Nat → Hp → Int64 → Int32 → Prop
  | 0, _, _, _ => False
  | n + 1, S, l4, l6 => hK S l1 = 9 ∧ ((hI S l1 4) ≤ l6 → Q l4 S) ∧ (¬ ((hI S l1 4) ≤ l6) → ∃ b10 : Nat, (hR S l1 3) = some b10 ∧ hK S b10 = 15 ∧ vp_in l6 (hN S b10) ∧ ∀ z13 : Int64, z13 = ((((hI S l1 1) : Int32).toInt64) * (((hI S b10 (l6 : Int32).toNatClampNeg) : Int32).toInt64)) → hK S l0 = 3 ∧ ¬ l2 = 0 ∧ ∃ b16 : Nat, (hR S l0 0) = some b16 ∧ hK S b16 = 16 ∧ vp_in l6 (hN S b16) ∧ ¬ l2 = 0 ∧ ∃ b20 : Nat, (hR (sJ S b16 (l6 : Int32).toNatClampNeg (z13 / l2)) l0 1) = some b20 ∧ hK (sJ S b16 (l6 : Int32).toNatClampNeg (z13 / l2)) b20 = 16 ∧ vp_in l6 (hN (sJ S b16 (l6 : Int32).toNatClampNeg (z13 / l2)) b20) ∧ ∃ b23 : Nat, (hR (sJ (sJ S b16 (l6 : Int32).toNatClampNeg (z13 / l2)) b20 (l6 : Int32).toNatClampNeg (z13 - z13 / l2 * l2)) l0 0) = some b23 ∧ hK (sJ (sJ S b16 (l6 : Int32).toNatClampNeg (z13 / l2)) b20 (l6 : Int32).toNatClampNeg (z13 - z13 / l2 * l2)) b23 = 16 ∧ vp_in l6 (hN (sJ (sJ S b16 (l6 : Int32).toNatClampNeg (z13 / l2)) b20 (l6 : Int32).toNatClampNeg (z13 - z13 / l2 * l2)) b23) ∧ ∀ z26 : Int64, z26 = (l4 - (hJ (sJ (sJ S b16 (l6 : Int32).toNatClampNeg (z13 / l2)) b20 (l6 : Int32).toNatClampNeg (z13 - z13 / l2 * l2)) b23 (l6 : Int32).toNatClampNeg)) → wp_X1_share_L23 l0 l1 l2 Q n (sJ (sJ S b16 (l6 : Int32).toNatClampNeg (z13 / l2)) b20 (l6 : Int32).toNatClampNeg (z13 - z13 / l2 * l2)) z26 (l6 + 1))
def wp_X1_share (S : Hp) (a0 : Nat) (a1 : Option Nat) (Q : Int64 → Hp → Prop) : Prop := ∃ b1 : Nat, a1 = some b1 ∧ hK S b1 = 9 ∧ wp_X7_sum S b1 (fun r4 S3 => (0 < r4 → hK S3 b1 = 9 ∧ ∀ z7 : Int64, z7 = (((hI S3 b1 1) : Int32).toInt64) → wp_X1_share_L23 a0 b1 r4 Q FU S3 z7 0) ∧ (¬ (0 < r4) → Q 0 S3))
set_option maxRecDepth 100000 in
set_option maxHeartbeats 4000000 in
theorem w_X1_share_L23 {p : Program} {l : Launch} {e : Env} {s : State} {m : MethodId} {args : Array Value} {below : List Frame} {meth : Method} {c : Code} {G : GX} {Q : Int64 → Hp → Prop} {l0 : Nat} {l1 : Nat} {l2 : Int64} (C : Cx p s m args meth c cX1_share 9 RX1 (some .long) "share" G) :
    ∀ (n : Nat) (S : Hp) (l4 : Int64) (l6 : Int32) (H : Heap) (locs : List Loc) (ls : Array Slot), wd G S H → va_S G.2.2.1 s.heap H locs → LV ls 9 → ls[0]? = some (.val (va_rf (some l0))) → ls[1]? = some (.val (va_rf (some l1))) → ls[2]? = some (.val (.long l2)) → ls[4]? = some (.val (.long l4)) → ls[6]? = some (.val (.int l6)) → wp_X1_share_L23 l0 l1 l2 Q n S l4 l6 → W p l e ({ frames := 1, cells := 0, slots := 0, locals := 23 } : Room) s m args below meth c H locs 0 0 (MQ below (QL G Q) args s 0 0 G.2.2.1) (F0 m 23 ls []) := by
  intro n
  induction n with
  | zero =>
    intro S l4 l6 H locs ls hW hS hL h0 h1 h2 h4 h6 hw
    exact False.elim hw
  | succ n ih =>
    intro S l4 l6 H locs ls hW hS hL h0 h1 h2 h4 h6 hw
    unfold wp_X1_share_L23 at hw
    refine lv_iload C.1 C.2.1 dX1_share_23 h6 ?_
    refine m_aldN C dX1_share_25 rfl h1 ?_
    obtain ⟨hk8, hw⟩ := hw
    refine m_getI C hW rfl hk8 f_X1_41 rfl dX1_share_26 ?_
    refine lv_icmp_ge (tgt := 88) C.1 C.2.1 dX1_share_29 (by decide) (fun hc9 => ?_) (fun hc9 => ?_)
    · have hw := hw.1 hc9
      refine lv_lload C.1 C.2.1 dX1_share_88 h4 ?_
      exact m_lret C hW hS hw dX1_share_90
    · have hw := hw.2 hc9
      refine m_aldN C dX1_share_32 rfl h1 ?_
      refine m_getI C hW rfl hk8 f_X1_64 rfl dX1_share_33 ?_
      refine lv_i2l (v := (((hI S l1 1) : Int32).toInt64)) C.1 C.2.1 dX1_share_36 rfl ?_
      refine m_aldN C dX1_share_37 rfl h1 ?_
      refine m_getR C hW rfl hk8 f_X1_53 rfl dX1_share_38 ?_
      refine lv_iload C.1 C.2.1 dX1_share_41 h6 ?_
      obtain ⟨b10, ho10, hw⟩ := hw
      obtain ⟨hk11, hw⟩ := hw
      obtain ⟨hi12, hw⟩ := hw
      refine m_iald C hW ho10 hk11 hi12 dX1_share_43 ?_
      refine lv_i2l (v := (((hI S b10 (l6 : Int32).toNatClampNeg) : Int32).toInt64)) C.1 C.2.1 dX1_share_44 rfl ?_
      refine lv_lmul C.1 C.2.1 dX1_share_45 ?_
      refine lv_topl (fun z13 ez13 => ?_)
      have hw := hw z13 ez13
      refine m_lst C hL dX1_share_46 (by decide) (fun ls hL hn9 hk9 => ?_)
      have h0 := hk9 0 _ h0 (by decide) (by decide) (Or.inl (by decide))
      have h1 := hk9 1 _ h1 (by decide) (by decide) (Or.inl (by decide))
      have h2 := hk9 2 _ h2 (by decide) (by decide) (Or.inl (by decide))
      have h4 := hk9 4 _ h4 (by decide) (by decide) (Or.inl (by decide))
      have h6 := hk9 6 _ h6 (by decide) (by decide) (Or.inr (rfl))
      have h7 := hn9
      refine m_aldN C dX1_share_48 rfl h0 ?_
      obtain ⟨hk14, hw⟩ := hw
      refine m_getR C hW rfl hk14 f_X1_9 rfl dX1_share_49 ?_
      refine lv_iload C.1 C.2.1 dX1_share_52 h6 ?_
      refine lv_lload C.1 C.2.1 dX1_share_54 h7 ?_
      refine lv_lload_n C.1 C.2.1 dX1_share_56 rfl h2 ?_
      obtain ⟨hz15, hw⟩ := hw
      refine lv_ldiv C.1 C.2.1 dX1_share_57 hz15 ?_
      obtain ⟨b16, ho16, hw⟩ := hw
      obtain ⟨hk17, hw⟩ := hw
      obtain ⟨hi18, hw⟩ := hw
      refine m_last C hW hS ho16 hk17 hi18 dX1_share_58 (fun H locs hW hS => ?_)
      refine m_aldN C dX1_share_59 rfl h0 ?_
      refine m_getR C hW rfl hk14 f_X1_15 rfl dX1_share_60 ?_
      refine lv_iload C.1 C.2.1 dX1_share_63 h6 ?_
      refine lv_lload C.1 C.2.1 dX1_share_65 h7 ?_
      refine lv_lload_n C.1 C.2.1 dX1_share_67 rfl h2 ?_
      obtain ⟨hz19, hw⟩ := hw
      refine lv_lrem C.1 C.2.1 dX1_share_68 hz19 ?_
      obtain ⟨b20, ho20, hw⟩ := hw
      obtain ⟨hk21, hw⟩ := hw
      obtain ⟨hi22, hw⟩ := hw
      refine m_last C hW hS ho20 hk21 hi22 dX1_share_69 (fun H locs hW hS => ?_)
      refine lv_lload C.1 C.2.1 dX1_share_70 h4 ?_
      refine m_aldN C dX1_share_72 rfl h0 ?_
      refine m_getR C hW rfl hk14 f_X1_9 rfl dX1_share_73 ?_
      refine lv_iload C.1 C.2.1 dX1_share_76 h6 ?_
      obtain ⟨b23, ho23, hw⟩ := hw
      obtain ⟨hk24, hw⟩ := hw
      obtain ⟨hi25, hw⟩ := hw
      refine m_lald C hW ho23 hk24 hi25 dX1_share_78 ?_
      refine lv_lsub C.1 C.2.1 dX1_share_79 ?_
      refine lv_topl (fun z26 ez26 => ?_)
      have hw := hw z26 ez26
      refine m_lst C hL dX1_share_80 (by decide) (fun ls hL hn9 hk9 => ?_)
      have h0 := hk9 0 _ h0 (by decide) (by decide) (Or.inl (by decide))
      have h1 := hk9 1 _ h1 (by decide) (by decide) (Or.inl (by decide))
      have h2 := hk9 2 _ h2 (by decide) (by decide) (Or.inl (by decide))
      have h6 := hk9 6 _ h6 (by decide) (by decide) (Or.inl (by decide))
      have h4 := hn9
      refine m_iinc (v := (l6 + 1)) C hL dX1_share_82 h6 rfl (by decide) (fun ls hL hn9 hk9 => ?_)
      have h0 := hk9 0 _ h0 (by decide) (Or.inl (by decide))
      have h1 := hk9 1 _ h1 (by decide) (Or.inl (by decide))
      have h2 := hk9 2 _ h2 (by decide) (Or.inl (by decide))
      have h4 := hk9 4 _ h4 (by decide) (Or.inl (by decide))
      have h6 := hn9
      refine lv_goto (tgt := 23) C.1 C.2.1 dX1_share_85 (by decide) ?_
      exact ih (sJ (sJ S b16 (l6 : Int32).toNatClampNeg (z13 / l2)) b20 (l6 : Int32).toNatClampNeg (z13 - z13 / l2 * l2)) z26 (l6 + 1) H locs ls hW hS hL h0 h1 h2 h4 h6 hw
set_option maxRecDepth 100000 in
set_option maxHeartbeats 4000000 in
theorem c_X1_share {l : Launch} {G : GX} {S : Hp} {a0 : Nat} {a1 : Option Nat} {Q : Int64 → Hp → Prop} (hw : wp_X1_share S a0 a1 Q) : Met l yX1_share (Cond.code yX1_share cX1_share 9 (some .long) :: TS) { frames := 1, cells := 0, slots := 0, locals := 23 } (Pk G S [va_rf (some a0), va_rf a1]) (QL G Q) 0 0 G.2.2.1 := by
  refine m_met (by decide) ?_
  intro p e s m below meth c H locs C hW hS
  have C : Cx p s m ([va_rf (some a0), va_rf a1] : List Value).toArray meth c cX1_share 9 RX1 (some .long) "share" G := C
  obtain ⟨ls, hent, hL, hla⟩ := m_entry m (vs := [va_rf (some a0), va_rf a1]) (nn := 9) [1, 1] (by simp only [List.map_cons, List.map_nil, va_rf_cat] <;> rfl) (by decide)
  rw [hent]
  have h0 : ls[0]? = some (.val (va_rf (some a0))) := hla (0, va_rf (some a0)) (List.mem_of_getElem? (i := 0) rfl)
  have h1 : ls[1]? = some (.val (va_rf a1)) := hla (1, va_rf a1) (List.mem_of_getElem? (i := 1) rfl)
  clear hla
  generalize ([va_rf (some a0), va_rf a1] : List Value).toArray = args at C ⊢
  unfold wp_X1_share at hw
  refine m_aldN C dX1_share_0 rfl h1 ?_
  obtain ⟨b1, ho1, hw⟩ := hw
  obtain ⟨hk2, hw⟩ := hw
  refine m_rL (m_runV (As := []) (rest := []) C hW hS hL (c_X7_sum hw) v_X1_75 ⟨rfl, rfl⟩ ⟨Nat.le_of_ble_eq_true rfl, Nat.le_of_ble_eq_true rfl⟩ ho1 hk2 rfl rfl (Nat.le_of_ble_eq_true rfl) dX1_share_1 ⟨Nat.le_of_ble_eq_true rfl, Nat.le_of_ble_eq_true rfl⟩) hS (fun r4 S3 H locs hw hW hS => ?_)
  refine m_lstN C hL dX1_share_4 rfl (by decide) (fun ls hL hn9 hk9 => ?_)
  have h0 := hk9 0 _ h0 (by decide) (by decide) (Or.inl (by decide))
  have h1 := hk9 1 _ h1 (by decide) (by decide) (Or.inr (va_rf_cat _))
  have h2 := hn9
  refine lv_lload_n C.1 C.2.1 dX1_share_5 rfl h2 ?_
  refine lv_lconst (v := 0) C.1 C.2.1 dX1_share_6 (by decide) ?_
  refine W.lcmp C.1 C.2.1 dX1_share_7 ?_
  refine lv_if_gt (tgt := 13) C.1 C.2.1 dX1_share_8 (by decide) (fun hc5 => ?_) (fun hc5 => ?_)
  · have hw := hw.1 ((q_gt _ _).mp hc5)
    refine m_aldN C dX1_share_13 rfl h1 ?_
    obtain ⟨hk6, hw⟩ := hw
    refine m_getI C hW ho1 hk6 f_X1_64 rfl dX1_share_14 ?_
    refine lv_i2l (v := (((hI S3 b1 1) : Int32).toInt64)) C.1 C.2.1 dX1_share_17 rfl ?_
    refine lv_topl (fun z7 ez7 => ?_)
    have hw := hw z7 ez7
    refine m_lst C hL dX1_share_18 (by decide) (fun ls hL hn9 hk9 => ?_)
    have h0 := hk9 0 _ h0 (by decide) (by decide) (Or.inl (by decide))
    have h1 := hk9 1 _ h1 (by decide) (by decide) (Or.inl (by decide))
    have h2 := hk9 2 _ h2 (by decide) (by decide) (Or.inl (by decide))
    have h4 := hn9
    refine lv_iconst (v := 0) C.1 C.2.1 dX1_share_20 (by decide) ?_
    refine m_ist C hL dX1_share_21 (by decide) (fun ls hL hn9 hk9 => ?_)
    have h0 := hk9 0 _ h0 (by decide) (Or.inl (by decide))
    have h1 := hk9 1 _ h1 (by decide) (Or.inl (by decide))
    have h2 := hk9 2 _ h2 (by decide) (Or.inl (by decide))
    have h4 := hk9 4 _ h4 (by decide) (Or.inl (by decide))
    have h6 := hn9
    rw [ho1] at h1
    exact w_X1_share_L23 C  FU S3 z7 0 H locs ls hW hS hL h0 h1 h2 h4 h6 hw
  · have hw := hw.2 (fun z => hc5 ((q_gt _ _).mpr z))
    refine lv_lconst (v := 0) C.1 C.2.1 dX1_share_11 (by decide) ?_
    exact m_lret C hW hS hw dX1_share_12
def wp_X1_greatestRest_L4 (S : Hp) (l0 : Nat) (l1 : Int32) (Q : Int32 → Hp → Prop) : Nat → Int32 → Int32 → Prop
  | 0, _, _ => False
  | n + 1, l2, l3 => (l1 ≤ l3 → Q l2 S) ∧ (¬ (l1 ≤ l3) → hK S l0 = 3 ∧ ∃ b3 : Nat, (hR S l0 1) = some b3 ∧ hK S b3 = 16 ∧ vp_in l3 (hN S b3) ∧ vp_in l2 (hN S b3) ∧ ((hJ S b3 (l3 : Int32).toNatClampNeg) ≤ (hJ S b3 (l2 : Int32).toNatClampNeg) → wp_X1_greatestRest_L4 S l0 l1 Q n l2 (l3 + 1)) ∧ (¬ ((hJ S b3 (l3 : Int32).toNatClampNeg) ≤ (hJ S b3 (l2 : Int32).toNatClampNeg)) → wp_X1_greatestRest_L4 S l0 l1 Q n l3 (l3 + 1)))
def wp_X1_greatestRest (S : Hp) (a0 : Nat) (a1 : Int32) (Q : Int32 → Hp → Prop) : Prop := wp_X1_greatestRest_L4 S a0 a1 Q FU 0 1
set_option maxRecDepth 100000 in
set_option maxHeartbeats 4000000 in
theorem w_X1_greatestRest_L4 {p : Program} {l : Launch} {e : Env} {s : State} {m : MethodId} {args : Array Value} {below : List Frame} {meth : Method} {c : Code} {G : GX} {Q : Int32 → Hp → Prop} {l0 : Nat} {l1 : Int32} {S : Hp} {H : Heap} {locs : List Loc} (C : Cx p s m args meth c cX1_greatestRest 4 RX1 (some .int) "greatestRest" G) (hW : wd G S H) (hS : va_S G.2.2.1 s.heap H locs) :
    ∀ (n : Nat) (l2 : Int32) (l3 : Int32) (ls : Array Slot), LV ls 4 → ls[0]? = some (.val (va_rf (some l0))) → ls[1]? = some (.val (.int l1)) → ls[2]? = some (.val (.int l2)) → ls[3]? = some (.val (.int l3)) → wp_X1_greatestRest_L4 S l0 l1 Q n l2 l3 → W p l e ({ frames := 0, cells := 0, slots := 0, locals := 0 } : Room) s m args below meth c H locs 0 0 (MQ below (QI G Q) args s 0 0 G.2.2.1) (F0 m 4 ls []) := by
  intro n
  induction n with
  | zero =>
    intro l2 l3 ls hL h0 h1 h2 h3 hw
    exact False.elim hw
  | succ n ih =>
    intro l2 l3 ls hL h0 h1 h2 h3 hw
    unfold wp_X1_greatestRest_L4 at hw
    refine lv_iload_n C.1 C.2.1 dX1_greatestRest_4 rfl h3 ?_
    refine lv_iload_n C.1 C.2.1 dX1_greatestRest_5 rfl h1 ?_
    refine lv_icmp_ge (tgt := 33) C.1 C.2.1 dX1_greatestRest_6 (by decide) (fun hc1 => ?_) (fun hc1 => ?_)
    · have hw := hw.1 hc1
      refine lv_iload_n C.1 C.2.1 dX1_greatestRest_33 rfl h2 ?_
      exact m_iret C hW hS hw dX1_greatestRest_34
    · have hw := hw.2 hc1
      refine m_aldN C dX1_greatestRest_9 rfl h0 ?_
      obtain ⟨hk2, hw⟩ := hw
      refine m_getR C hW rfl hk2 f_X1_15 rfl dX1_greatestRest_10 ?_
      refine lv_iload_n C.1 C.2.1 dX1_greatestRest_13 rfl h3 ?_
      obtain ⟨b3, ho3, hw⟩ := hw
      obtain ⟨hk4, hw⟩ := hw
      obtain ⟨hi5, hw⟩ := hw
      refine m_lald C hW ho3 hk4 hi5 dX1_greatestRest_14 ?_
      refine m_aldN C dX1_greatestRest_15 rfl h0 ?_
      refine m_getR C hW rfl hk2 f_X1_15 rfl dX1_greatestRest_16 ?_
      refine lv_iload_n C.1 C.2.1 dX1_greatestRest_19 rfl h2 ?_
      obtain ⟨hi6, hw⟩ := hw
      refine m_lald C hW ho3 hk4 hi6 dX1_greatestRest_20 ?_
      refine W.lcmp C.1 C.2.1 dX1_greatestRest_21 ?_
      refine lv_if_le (tgt := 27) C.1 C.2.1 dX1_greatestRest_22 (by decide) (fun hc7 => ?_) (fun hc7 => ?_)
      · have hw := hw.1 ((q_le _ _).mp hc7)
        refine m_iinc (v := (l3 + 1)) C hL dX1_greatestRest_27 h3 rfl (by decide) (fun ls hL hn9 hk9 => ?_)
        have h0 := hk9 0 _ h0 (by decide) (Or.inl (by decide))
        have h1 := hk9 1 _ h1 (by decide) (Or.inl (by decide))
        have h2 := hk9 2 _ h2 (by decide) (Or.inr (rfl))
        have h3 := hn9
        refine lv_goto (tgt := 4) C.1 C.2.1 dX1_greatestRest_30 (by decide) ?_
        exact ih l2 (l3 + 1) ls hL h0 h1 h2 h3 hw
      · have hw := hw.2 (fun z => hc7 ((q_le _ _).mpr z))
        refine lv_iload_n C.1 C.2.1 dX1_greatestRest_25 rfl h3 ?_
        refine m_istN C hL dX1_greatestRest_26 rfl (by decide) (fun ls hL hn9 hk9 => ?_)
        have h0 := hk9 0 _ h0 (by decide) (Or.inl (by decide))
        have h1 := hk9 1 _ h1 (by decide) (Or.inr (rfl))
        have h3 := hk9 3 _ h3 (by decide) (Or.inl (by decide))
        have h2 := hn9
        refine m_iinc (v := (l3 + 1)) C hL dX1_greatestRest_27 h3 rfl (by decide) (fun ls hL hn9 hk9 => ?_)
        have h0 := hk9 0 _ h0 (by decide) (Or.inl (by decide))
        have h1 := hk9 1 _ h1 (by decide) (Or.inl (by decide))
        have h2 := hk9 2 _ h2 (by decide) (Or.inr (rfl))
        have h3 := hn9
        refine lv_goto (tgt := 4) C.1 C.2.1 dX1_greatestRest_30 (by decide) ?_
        exact ih l3 (l3 + 1) ls hL h0 h1 h2 h3 hw
set_option maxRecDepth 100000 in
set_option maxHeartbeats 4000000 in
theorem c_X1_greatestRest {l : Launch} {G : GX} {S : Hp} {a0 : Nat} {a1 : Int32} {Q : Int32 → Hp → Prop} (hw : wp_X1_greatestRest S a0 a1 Q) : Met l yX1_greatestRest (Cond.code yX1_greatestRest cX1_greatestRest 4 (some .int) :: TS) { frames := 0, cells := 0, slots := 0, locals := 0 } (Pk G S [va_rf (some a0), .int a1]) (QI G Q) 0 0 G.2.2.1 := by
  refine m_met (by decide) ?_
  intro p e s m below meth c H locs C hW hS
  have C : Cx p s m ([va_rf (some a0), .int a1] : List Value).toArray meth c cX1_greatestRest 4 RX1 (some .int) "greatestRest" G := C
  obtain ⟨ls, hent, hL, hla⟩ := m_entry m (vs := [va_rf (some a0), .int a1]) (nn := 4) [1, 1] rfl (by decide)
  rw [hent]
  have h0 : ls[0]? = some (.val (va_rf (some a0))) := hla (0, va_rf (some a0)) (List.mem_of_getElem? (i := 0) rfl)
  have h1 : ls[1]? = some (.val (.int a1)) := hla (1, .int a1) (List.mem_of_getElem? (i := 1) rfl)
  clear hla
  generalize ([va_rf (some a0), .int a1] : List Value).toArray = args at C ⊢
  unfold wp_X1_greatestRest at hw
  refine lv_iconst (v := 0) C.1 C.2.1 dX1_greatestRest_0 (by decide) ?_
  refine m_istN C hL dX1_greatestRest_1 rfl (by decide) (fun ls hL hn9 hk9 => ?_)
  have h0 := hk9 0 _ h0 (by decide) (Or.inl (by decide))
  have h1 := hk9 1 _ h1 (by decide) (Or.inr (rfl))
  have h2 := hn9
  refine lv_iconst (v := 1) C.1 C.2.1 dX1_greatestRest_2 (by decide) ?_
  refine m_istN C hL dX1_greatestRest_3 rfl (by decide) (fun ls hL hn9 hk9 => ?_)
  have h0 := hk9 0 _ h0 (by decide) (Or.inl (by decide))
  have h1 := hk9 1 _ h1 (by decide) (Or.inl (by decide))
  have h2 := hk9 2 _ h2 (by decide) (Or.inr (rfl))
  have h3 := hn9
  exact w_X1_greatestRest_L4 C hW hS  FU 0 1 ls hL h0 h1 h2 h3 hw
def wp_X1_mixParts_L9 (l0 : Nat) (l1 : Option Nat) (l2 : Int64) (K63 : Hp → Prop) (Q : Hp → Prop) : Nat → Hp → Int32 → Prop
  | 0, _, _ => False
  | n + 1, S, l4 => (l2 ≤ ((l4 : Int32).toInt64) → K63 S) ∧ (¬ (l2 ≤ ((l4 : Int32).toInt64)) → ∃ b5 : Nat, l1 = some b5 ∧ hK S b5 = 9 ∧ ((hI S b5 4) ≤ l4 → K63 S) ∧ (¬ ((hI S b5 4) ≤ l4) → hK S l0 = 3 ∧ wp_X1_greatestRest S l0 (hI S b5 4) (fun r10 S9 => hK S9 l0 = 3 ∧ ∃ b12 : Nat, (hR S9 l0 0) = some b12 ∧ hK S9 b12 = 16 ∧ vp_in r10 (hN S9 b12) ∧ vp_in r10 (hN S9 b12) ∧ ∃ b16 : Nat, (hR (sJ S9 b12 (r10 : Int32).toNatClampNeg ((hJ S9 b12 (r10 : Int32).toNatClampNeg) + 1)) l0 1) = some b16 ∧ hK (sJ S9 b12 (r10 : Int32).toNatClampNeg ((hJ S9 b12 (r10 : Int32).toNatClampNeg) + 1)) b16 = 16 ∧ vp_in r10 (hN (sJ S9 b12 (r10 : Int32).toNatClampNeg ((hJ S9 b12 (r10 : Int32).toNatClampNeg) + 1)) b16) ∧ wp_X1_mixParts_L9 l0 l1 l2 K63 Q n (sJ (sJ S9 b12 (r10 : Int32).toNatClampNeg ((hJ S9 b12 (r10 : Int32).toNatClampNeg) + 1)) b16 (r10 : Int32).toNatClampNeg (-1)) (l4 + 1))))
def wp_X1_mixParts_L66 (l0 : Nat) (l1 : Option Nat) (Q : Hp → Prop) : Nat → Hp → Int32 → Prop
  | 0, _, _ => False
  | n + 1, S, l4 => ∃ b20 : Nat, l1 = some b20 ∧ hK S b20 = 9 ∧ ((hI S b20 4) ≤ l4 → Q S) ∧ (¬ ((hI S b20 4) ≤ l4) → hK S l0 = 3 ∧ ∃ b24 : Nat, (hR S l0 0) = some b24 ∧ hK S b24 = 16 ∧ vp_in l4 (hN S b24) ∧ ((hJ S b24 (l4 : Int32).toNatClampNeg) ≤ 0 → wp_X1_mixParts_L66 l0 l1 Q n S (l4 + 1)) ∧ (¬ ((hJ S b24 (l4 : Int32).toNatClampNeg) ≤ 0) → wp_X1_mixParts_L66 l0 l1 Q n (sI S l0 2 ((hI S l0 2) + 1)) (l4 + 1)))
def wp_X1_mixParts (S : Hp) (a0 : Nat) (a1 : Option Nat) (Q : Hp → Prop) : Prop := hK S a0 = 3 ∧ wp_X1_share S a0 a1 (fun r3 S2 => wp_X1_mixParts_L9 a0 a1 r3 (fun (S19 : Hp) => wp_X1_mixParts_L66 a0 a1 Q FU S19 0) Q FU S2 0)
set_option maxRecDepth 100000 in
set_option maxHeartbeats 4000000 in
theorem w_X1_mixParts_L9 {p : Program} {l : Launch} {e : Env} {s : State} {m : MethodId} {args : Array Value} {below : List Frame} {meth : Method} {c : Code} {G : GX} {Q : Hp → Prop} {K63 : Hp → Prop} {l0 : Nat} {l1 : Option Nat} {l2 : Int64} (C : Cx p s m args meth c cX1_mixParts 6 RX1 none "mixParts" G)
    (k63 : ∀ (S : Hp) (H : Heap) (locs : List Loc) (ls : Array Slot), wd G S H → va_S G.2.2.1 s.heap H locs → LV ls 6 → ls[0]? = some (.val (va_rf (some l0))) → ls[1]? = some (.val (va_rf l1)) → K63 S → W p l e ({ frames := 2, cells := 0, slots := 0, locals := 51 } : Room) s m args below meth c H locs 0 0 (MQ below (QV G Q) args s 0 0 G.2.2.1) (F0 m 63 ls [])) :
    ∀ (n : Nat) (S : Hp) (l4 : Int32) (H : Heap) (locs : List Loc) (ls : Array Slot), wd G S H → va_S G.2.2.1 s.heap H locs → LV ls 6 → ls[0]? = some (.val (va_rf (some l0))) → ls[1]? = some (.val (va_rf l1)) → ls[2]? = some (.val (.long l2)) → ls[4]? = some (.val (.int l4)) → wp_X1_mixParts_L9 l0 l1 l2 K63 Q n S l4 → W p l e ({ frames := 2, cells := 0, slots := 0, locals := 51 } : Room) s m args below meth c H locs 0 0 (MQ below (QV G Q) args s 0 0 G.2.2.1) (F0 m 9 ls []) := by
  intro n
  induction n with
  | zero =>
    intro S l4 H locs ls hW hS hL h0 h1 h2 h4 hw
    exact False.elim hw
  | succ n ih =>
    intro S l4 H locs ls hW hS hL h0 h1 h2 h4 hw
    unfold wp_X1_mixParts_L9 at hw
    refine lv_iload C.1 C.2.1 dX1_mixParts_9 h4 ?_
    refine lv_i2l (v := ((l4 : Int32).toInt64)) C.1 C.2.1 dX1_mixParts_11 rfl ?_
    refine lv_lload_n C.1 C.2.1 dX1_mixParts_12 rfl h2 ?_
    refine W.lcmp C.1 C.2.1 dX1_mixParts_13 ?_
    refine lv_if_ge (tgt := 63) C.1 C.2.1 dX1_mixParts_14 (by decide) (fun hc4 => ?_) (fun hc4 => ?_)
    · have hw := hw.1 ((q_ge _ _).mp hc4)
      exact k63 S H locs ls hW hS hL h0 h1 hw
    · have hw := hw.2 (fun z => hc4 ((q_ge _ _).mpr z))
      refine lv_iload C.1 C.2.1 dX1_mixParts_17 h4 ?_
      refine m_aldN C dX1_mixParts_19 rfl h1 ?_
      obtain ⟨b5, ho5, hw⟩ := hw
      obtain ⟨hk6, hw⟩ := hw
      refine m_getI C hW ho5 hk6 f_X1_41 rfl dX1_mixParts_20 ?_
      refine lv_icmp_ge (tgt := 63) C.1 C.2.1 dX1_mixParts_23 (by decide) (fun hc7 => ?_) (fun hc7 => ?_)
      · have hw := hw.1 hc7
        exact k63 S H locs ls hW hS hL h0 h1 hw
      · have hw := hw.2 hc7
        refine m_aldN C dX1_mixParts_26 rfl h0 ?_
        refine m_aldN C dX1_mixParts_27 rfl h1 ?_
        refine m_getI C hW ho5 hk6 f_X1_41 rfl dX1_mixParts_28 ?_
        obtain ⟨hk8, hw⟩ := hw
        refine m_rI (m_runV (As := [.int (hI S b5 4)]) (rest := []) C hW hS hL (c_X1_greatestRest hw) v_X1_71 ⟨rfl, rfl⟩ ⟨Nat.le_of_ble_eq_true rfl, Nat.le_of_ble_eq_true rfl⟩ rfl hk8 rfl rfl (Nat.le_of_ble_eq_true rfl) dX1_mixParts_31 ⟨Nat.le_of_ble_eq_true rfl, Nat.le_of_ble_eq_true rfl⟩) hS (fun r10 S9 H locs hw hW hS => ?_)
        refine m_ist C hL dX1_mixParts_34 (by decide) (fun ls hL hn9 hk9 => ?_)
        have h0 := hk9 0 _ h0 (by decide) (Or.inl (by decide))
        have h1 := hk9 1 _ h1 (by decide) (Or.inl (by decide))
        have h2 := hk9 2 _ h2 (by decide) (Or.inl (by decide))
        have h4 := hk9 4 _ h4 (by decide) (Or.inr (rfl))
        have h5 := hn9
        refine m_aldN C dX1_mixParts_36 rfl h0 ?_
        obtain ⟨hk11, hw⟩ := hw
        refine m_getR C hW rfl hk11 f_X1_9 rfl dX1_mixParts_37 ?_
        refine lv_iload C.1 C.2.1 dX1_mixParts_40 h5 ?_
        refine lv_dup2_11 C.1 C.2.1 dX1_mixParts_42 (rfl) (va_rf_cat _) ?_
        obtain ⟨b12, ho12, hw⟩ := hw
        obtain ⟨hk13, hw⟩ := hw
        obtain ⟨hi14, hw⟩ := hw
        refine m_lald C hW ho12 hk13 hi14 dX1_mixParts_43 ?_
        refine lv_lconst (v := 1) C.1 C.2.1 dX1_mixParts_44 (by decide) ?_
        refine lv_ladd C.1 C.2.1 dX1_mixParts_45 ?_
        obtain ⟨hi15, hw⟩ := hw
        refine m_last C hW hS ho12 hk13 hi15 dX1_mixParts_46 (fun H locs hW hS => ?_)
        refine m_aldN C dX1_mixParts_47 rfl h0 ?_
        refine m_getR C hW rfl hk11 f_X1_15 rfl dX1_mixParts_48 ?_
        refine lv_iload C.1 C.2.1 dX1_mixParts_51 h5 ?_
        refine lv_ldc2 (v := (-1)) C.1 C.2.1 C.2.2.2.1 (C.2.2.2.2.1 _ tw_1026) dX1_mixParts_53 ?_
        obtain ⟨b16, ho16, hw⟩ := hw
        obtain ⟨hk17, hw⟩ := hw
        obtain ⟨hi18, hw⟩ := hw
        refine m_last C hW hS ho16 hk17 hi18 dX1_mixParts_56 (fun H locs hW hS => ?_)
        refine m_iinc (v := (l4 + 1)) C hL dX1_mixParts_57 h4 rfl (by decide) (fun ls hL hn9 hk9 => ?_)
        have h0 := hk9 0 _ h0 (by decide) (Or.inl (by decide))
        have h1 := hk9 1 _ h1 (by decide) (Or.inl (by decide))
        have h2 := hk9 2 _ h2 (by decide) (Or.inl (by decide))
        have h4 := hn9
        refine lv_goto (tgt := 9) C.1 C.2.1 dX1_mixParts_60 (by decide) ?_
        exact ih (sJ (sJ S9 b12 (r10 : Int32).toNatClampNeg ((hJ S9 b12 (r10 : Int32).toNatClampNeg) + 1)) b16 (r10 : Int32).toNatClampNeg (-1)) (l4 + 1) H locs ls hW hS hL h0 h1 h2 h4 hw
set_option maxRecDepth 100000 in
set_option maxHeartbeats 4000000 in
theorem w_X1_mixParts_L66 {p : Program} {l : Launch} {e : Env} {s : State} {m : MethodId} {args : Array Value} {below : List Frame} {meth : Method} {c : Code} {G : GX} {Q : Hp → Prop} {l0 : Nat} {l1 : Option Nat} (C : Cx p s m args meth c cX1_mixParts 6 RX1 none "mixParts" G) :
    ∀ (n : Nat) (S : Hp) (l4 : Int32) (H : Heap) (locs : List Loc) (ls : Array Slot), wd G S H → va_S G.2.2.1 s.heap H locs → LV ls 6 → ls[0]? = some (.val (va_rf (some l0))) → ls[1]? = some (.val (va_rf l1)) → ls[4]? = some (.val (.int l4)) → wp_X1_mixParts_L66 l0 l1 Q n S l4 → W p l e ({ frames := 2, cells := 0, slots := 0, locals := 51 } : Room) s m args below meth c H locs 0 0 (MQ below (QV G Q) args s 0 0 G.2.2.1) (F0 m 66 ls []) := by
  intro n
  induction n with
  | zero =>
    intro S l4 H locs ls hW hS hL h0 h1 h4 hw
    exact False.elim hw
  | succ n ih =>
    intro S l4 H locs ls hW hS hL h0 h1 h4 hw
    unfold wp_X1_mixParts_L66 at hw
    refine lv_iload C.1 C.2.1 dX1_mixParts_66 h4 ?_
    refine m_aldN C dX1_mixParts_68 rfl h1 ?_
    obtain ⟨b20, ho20, hw⟩ := hw
    obtain ⟨hk21, hw⟩ := hw
    refine m_getI C hW ho20 hk21 f_X1_41 rfl dX1_mixParts_69 ?_
    refine lv_icmp_ge (tgt := 103) C.1 C.2.1 dX1_mixParts_72 (by decide) (fun hc22 => ?_) (fun hc22 => ?_)
    · have hw := hw.1 hc22
      exact m_vret C hW hS hw dX1_mixParts_103
    · have hw := hw.2 hc22
      refine m_aldN C dX1_mixParts_75 rfl h0 ?_
      obtain ⟨hk23, hw⟩ := hw
      refine m_getR C hW rfl hk23 f_X1_9 rfl dX1_mixParts_76 ?_
      refine lv_iload C.1 C.2.1 dX1_mixParts_79 h4 ?_
      obtain ⟨b24, ho24, hw⟩ := hw
      obtain ⟨hk25, hw⟩ := hw
      obtain ⟨hi26, hw⟩ := hw
      refine m_lald C hW ho24 hk25 hi26 dX1_mixParts_81 ?_
      refine lv_lconst (v := 0) C.1 C.2.1 dX1_mixParts_82 (by decide) ?_
      refine W.lcmp C.1 C.2.1 dX1_mixParts_83 ?_
      refine lv_if_le (tgt := 97) C.1 C.2.1 dX1_mixParts_84 (by decide) (fun hc27 => ?_) (fun hc27 => ?_)
      · have hw := hw.1 ((q_le _ _).mp hc27)
        refine m_iinc (v := (l4 + 1)) C hL dX1_mixParts_97 h4 rfl (by decide) (fun ls hL hn9 hk9 => ?_)
        have h0 := hk9 0 _ h0 (by decide) (Or.inl (by decide))
        have h1 := hk9 1 _ h1 (by decide) (Or.inl (by decide))
        have h4 := hn9
        refine lv_goto (tgt := 66) C.1 C.2.1 dX1_mixParts_100 (by decide) ?_
        exact ih S (l4 + 1) H locs ls hW hS hL h0 h1 h4 hw
      · have hw := hw.2 (fun z => hc27 ((q_le _ _).mpr z))
        refine m_aldN C dX1_mixParts_87 rfl h0 ?_
        refine lv_dup C.1 C.2.1 dX1_mixParts_88 (va_rf_cat _) ?_
        refine m_getI C hW rfl hk23 f_X1_18 rfl dX1_mixParts_89 ?_
        refine lv_iconst (v := 1) C.1 C.2.1 dX1_mixParts_92 (by decide) ?_
        refine lv_iadd C.1 C.2.1 dX1_mixParts_93 ?_
        refine m_putI C hW hS rfl hk23 p_X1_18 (fun z => by cases z) rfl dX1_mixParts_94 (fun H locs hW hS => ?_)
        refine m_iinc (v := (l4 + 1)) C hL dX1_mixParts_97 h4 rfl (by decide) (fun ls hL hn9 hk9 => ?_)
        have h0 := hk9 0 _ h0 (by decide) (Or.inl (by decide))
        have h1 := hk9 1 _ h1 (by decide) (Or.inl (by decide))
        have h4 := hn9
        refine lv_goto (tgt := 66) C.1 C.2.1 dX1_mixParts_100 (by decide) ?_
        exact ih (sI S l0 2 ((hI S l0 2) + 1)) (l4 + 1) H locs ls hW hS hL h0 h1 h4 hw
set_option maxRecDepth 100000 in
set_option maxHeartbeats 4000000 in
theorem c_X1_mixParts {l : Launch} {G : GX} {S : Hp} {a0 : Nat} {a1 : Option Nat} {Q : Hp → Prop} (hw : wp_X1_mixParts S a0 a1 Q) : Met l yX1_mixParts (Cond.code yX1_mixParts cX1_mixParts 6 none :: TS) { frames := 2, cells := 0, slots := 0, locals := 51 } (Pk G S [va_rf (some a0), va_rf a1]) (QV G Q) 0 0 G.2.2.1 := by
  refine m_met (by decide) ?_
  intro p e s m below meth c H locs C hW hS
  have C : Cx p s m ([va_rf (some a0), va_rf a1] : List Value).toArray meth c cX1_mixParts 6 RX1 none "mixParts" G := C
  obtain ⟨ls, hent, hL, hla⟩ := m_entry m (vs := [va_rf (some a0), va_rf a1]) (nn := 6) [1, 1] (by simp only [List.map_cons, List.map_nil, va_rf_cat] <;> rfl) (by decide)
  rw [hent]
  have h0 : ls[0]? = some (.val (va_rf (some a0))) := hla (0, va_rf (some a0)) (List.mem_of_getElem? (i := 0) rfl)
  have h1 : ls[1]? = some (.val (va_rf a1)) := hla (1, va_rf a1) (List.mem_of_getElem? (i := 1) rfl)
  clear hla
  generalize ([va_rf (some a0), va_rf a1] : List Value).toArray = args at C ⊢
  unfold wp_X1_mixParts at hw
  refine m_aldN C dX1_mixParts_0 rfl h0 ?_
  refine m_aldN C dX1_mixParts_1 rfl h1 ?_
  obtain ⟨hk1, hw⟩ := hw
  refine m_rL (m_runV (As := [va_rf a1]) (rest := []) C hW hS hL (c_X1_share hw) v_X1_67 ⟨rfl, rfl⟩ ⟨Nat.le_of_ble_eq_true rfl, Nat.le_of_ble_eq_true rfl⟩ rfl hk1 rfl rfl (Nat.le_of_ble_eq_true rfl) dX1_mixParts_2 ⟨Nat.le_of_ble_eq_true rfl, Nat.le_of_ble_eq_true rfl⟩) hS (fun r3 S2 H locs hw hW hS => ?_)
  refine m_lstN C hL dX1_mixParts_5 rfl (by decide) (fun ls hL hn9 hk9 => ?_)
  have h0 := hk9 0 _ h0 (by decide) (by decide) (Or.inl (by decide))
  have h1 := hk9 1 _ h1 (by decide) (by decide) (Or.inr (va_rf_cat _))
  have h2 := hn9
  refine lv_iconst (v := 0) C.1 C.2.1 dX1_mixParts_6 (by decide) ?_
  refine m_ist C hL dX1_mixParts_7 (by decide) (fun ls hL hn9 hk9 => ?_)
  have h0 := hk9 0 _ h0 (by decide) (Or.inl (by decide))
  have h1 := hk9 1 _ h1 (by decide) (Or.inl (by decide))
  have h2 := hk9 2 _ h2 (by decide) (Or.inl (by decide))
  have h4 := hn9
  refine w_X1_mixParts_L9 C ?_ FU S2 0 H locs ls hW hS hL h0 h1 h2 h4 hw
  · intro S19 H locs ls hW hS hL h0 h1 hw
    refine lv_iconst (v := 0) C.1 C.2.1 dX1_mixParts_63 (by decide) ?_
    refine m_ist C hL dX1_mixParts_64 (by decide) (fun ls hL hn9 hk9 => ?_)
    have h0 := hk9 0 _ h0 (by decide) (Or.inl (by decide))
    have h1 := hk9 1 _ h1 (by decide) (Or.inl (by decide))
    have h4 := hn9
    exact w_X1_mixParts_L66 C  FU S19 0 H locs ls hW hS hL h0 h1 h4 hw
def wp_X1_loadPoints_L9 (l0 : Nat) (l1 : Option Nat) (l2 : Int64) (K43 : Hp → Prop) (Q : Hp → Prop) : Nat → Hp → Int32 → Prop
  | 0, _, _ => False
  | n + 1, S, l4 => (l2 ≤ ((l4 : Int32).toInt64) → K43 S) ∧ (¬ (l2 ≤ ((l4 : Int32).toInt64)) → ∃ b5 : Nat, l1 = some b5 ∧ hK S b5 = 9 ∧ ((hI S b5 4) ≤ l4 → K43 S) ∧ (¬ ((hI S b5 4) ≤ l4) → hK S l0 = 3 ∧ ∃ b9 : Nat, (hR S l0 0) = some b9 ∧ hK S b9 = 16 ∧ vp_in l4 (hN S b9) ∧ vp_in l4 (hN S b9) ∧ wp_X1_loadPoints_L9 l0 l1 l2 K43 Q n (sJ S b9 (l4 : Int32).toNatClampNeg ((hJ S b9 (l4 : Int32).toNatClampNeg) + 1)) (l4 + 1)))
def wp_X1_loadPoints (S : Hp) (a0 : Nat) (a1 : Option Nat) (Q : Hp → Prop) : Prop := hK S a0 = 3 ∧ wp_X1_share S a0 a1 (fun r3 S2 => wp_X1_loadPoints_L9 a0 a1 r3 (fun (S13 : Hp) => ∃ b14 : Nat, a1 = some b14 ∧ hK S13 b14 = 9 ∧ ((hI S13 b14 2) < 0 → Q S13) ∧ (¬ ((hI S13 b14 2) < 0) → ((hI S13 b14 4) ≤ (hI S13 b14 2) → Q S13) ∧ (¬ ((hI S13 b14 4) ≤ (hI S13 b14 2)) → hK S13 a0 = 3 ∧ ∃ b19 : Nat, (hR S13 a0 0) = some b19 ∧ hK S13 b19 = 16 ∧ vp_in (hI S13 b14 2) (hN S13 b19) ∧ Q (sI S13 a0 2 (((hJ S13 b19 ((hI S13 b14 2) : Int32).toNatClampNeg) : Int64).toInt32))))) Q FU S2 0)
set_option maxRecDepth 100000 in
set_option maxHeartbeats 4000000 in
theorem w_X1_loadPoints_L9 {p : Program} {l : Launch} {e : Env} {s : State} {m : MethodId} {args : Array Value} {below : List Frame} {meth : Method} {c : Code} {G : GX} {Q : Hp → Prop} {K43 : Hp → Prop} {l0 : Nat} {l1 : Option Nat} {l2 : Int64} (C : Cx p s m args meth c cX1_loadPoints 5 RX1 none "loadPoints" G)
    (k43 : ∀ (S : Hp) (H : Heap) (locs : List Loc) (ls : Array Slot), wd G S H → va_S G.2.2.1 s.heap H locs → LV ls 5 → ls[0]? = some (.val (va_rf (some l0))) → ls[1]? = some (.val (va_rf l1)) → K43 S → W p l e ({ frames := 2, cells := 0, slots := 0, locals := 51 } : Room) s m args below meth c H locs 0 0 (MQ below (QV G Q) args s 0 0 G.2.2.1) (F0 m 43 ls [])) :
    ∀ (n : Nat) (S : Hp) (l4 : Int32) (H : Heap) (locs : List Loc) (ls : Array Slot), wd G S H → va_S G.2.2.1 s.heap H locs → LV ls 5 → ls[0]? = some (.val (va_rf (some l0))) → ls[1]? = some (.val (va_rf l1)) → ls[2]? = some (.val (.long l2)) → ls[4]? = some (.val (.int l4)) → wp_X1_loadPoints_L9 l0 l1 l2 K43 Q n S l4 → W p l e ({ frames := 2, cells := 0, slots := 0, locals := 51 } : Room) s m args below meth c H locs 0 0 (MQ below (QV G Q) args s 0 0 G.2.2.1) (F0 m 9 ls []) := by
  intro n
  induction n with
  | zero =>
    intro S l4 H locs ls hW hS hL h0 h1 h2 h4 hw
    exact False.elim hw
  | succ n ih =>
    intro S l4 H locs ls hW hS hL h0 h1 h2 h4 hw
    unfold wp_X1_loadPoints_L9 at hw
    refine lv_iload C.1 C.2.1 dX1_loadPoints_9 h4 ?_
    refine lv_i2l (v := ((l4 : Int32).toInt64)) C.1 C.2.1 dX1_loadPoints_11 rfl ?_
    refine lv_lload_n C.1 C.2.1 dX1_loadPoints_12 rfl h2 ?_
    refine W.lcmp C.1 C.2.1 dX1_loadPoints_13 ?_
    refine lv_if_ge (tgt := 43) C.1 C.2.1 dX1_loadPoints_14 (by decide) (fun hc4 => ?_) (fun hc4 => ?_)
    · have hw := hw.1 ((q_ge _ _).mp hc4)
      exact k43 S H locs ls hW hS hL h0 h1 hw
    · have hw := hw.2 (fun z => hc4 ((q_ge _ _).mpr z))
      refine lv_iload C.1 C.2.1 dX1_loadPoints_17 h4 ?_
      refine m_aldN C dX1_loadPoints_19 rfl h1 ?_
      obtain ⟨b5, ho5, hw⟩ := hw
      obtain ⟨hk6, hw⟩ := hw
      refine m_getI C hW ho5 hk6 f_X1_41 rfl dX1_loadPoints_20 ?_
      refine lv_icmp_ge (tgt := 43) C.1 C.2.1 dX1_loadPoints_23 (by decide) (fun hc7 => ?_) (fun hc7 => ?_)
      · have hw := hw.1 hc7
        exact k43 S H locs ls hW hS hL h0 h1 hw
      · have hw := hw.2 hc7
        refine m_aldN C dX1_loadPoints_26 rfl h0 ?_
        obtain ⟨hk8, hw⟩ := hw
        refine m_getR C hW rfl hk8 f_X1_9 rfl dX1_loadPoints_27 ?_
        refine lv_iload C.1 C.2.1 dX1_loadPoints_30 h4 ?_
        refine lv_dup2_11 C.1 C.2.1 dX1_loadPoints_32 (rfl) (va_rf_cat _) ?_
        obtain ⟨b9, ho9, hw⟩ := hw
        obtain ⟨hk10, hw⟩ := hw
        obtain ⟨hi11, hw⟩ := hw
        refine m_lald C hW ho9 hk10 hi11 dX1_loadPoints_33 ?_
        refine lv_lconst (v := 1) C.1 C.2.1 dX1_loadPoints_34 (by decide) ?_
        refine lv_ladd C.1 C.2.1 dX1_loadPoints_35 ?_
        obtain ⟨hi12, hw⟩ := hw
        refine m_last C hW hS ho9 hk10 hi12 dX1_loadPoints_36 (fun H locs hW hS => ?_)
        refine m_iinc (v := (l4 + 1)) C hL dX1_loadPoints_37 h4 rfl (by decide) (fun ls hL hn9 hk9 => ?_)
        have h0 := hk9 0 _ h0 (by decide) (Or.inl (by decide))
        have h1 := hk9 1 _ h1 (by decide) (Or.inl (by decide))
        have h2 := hk9 2 _ h2 (by decide) (Or.inl (by decide))
        have h4 := hn9
        refine lv_goto (tgt := 9) C.1 C.2.1 dX1_loadPoints_40 (by decide) ?_
        exact ih (sJ S b9 (l4 : Int32).toNatClampNeg ((hJ S b9 (l4 : Int32).toNatClampNeg) + 1)) (l4 + 1) H locs ls hW hS hL h0 h1 h2 h4 hw
set_option maxRecDepth 100000 in
set_option maxHeartbeats 4000000 in
theorem c_X1_loadPoints {l : Launch} {G : GX} {S : Hp} {a0 : Nat} {a1 : Option Nat} {Q : Hp → Prop} (hw : wp_X1_loadPoints S a0 a1 Q) : Met l yX1_loadPoints (Cond.code yX1_loadPoints cX1_loadPoints 5 none :: TS) { frames := 2, cells := 0, slots := 0, locals := 51 } (Pk G S [va_rf (some a0), va_rf a1]) (QV G Q) 0 0 G.2.2.1 := by
  refine m_met (by decide) ?_
  intro p e s m below meth c H locs C hW hS
  have C : Cx p s m ([va_rf (some a0), va_rf a1] : List Value).toArray meth c cX1_loadPoints 5 RX1 none "loadPoints" G := C
  obtain ⟨ls, hent, hL, hla⟩ := m_entry m (vs := [va_rf (some a0), va_rf a1]) (nn := 5) [1, 1] (by simp only [List.map_cons, List.map_nil, va_rf_cat] <;> rfl) (by decide)
  rw [hent]
  have h0 : ls[0]? = some (.val (va_rf (some a0))) := hla (0, va_rf (some a0)) (List.mem_of_getElem? (i := 0) rfl)
  have h1 : ls[1]? = some (.val (va_rf a1)) := hla (1, va_rf a1) (List.mem_of_getElem? (i := 1) rfl)
  clear hla
  generalize ([va_rf (some a0), va_rf a1] : List Value).toArray = args at C ⊢
  unfold wp_X1_loadPoints at hw
  refine m_aldN C dX1_loadPoints_0 rfl h0 ?_
  refine m_aldN C dX1_loadPoints_1 rfl h1 ?_
  obtain ⟨hk1, hw⟩ := hw
  refine m_rL (m_runV (As := [va_rf a1]) (rest := []) C hW hS hL (c_X1_share hw) v_X1_67 ⟨rfl, rfl⟩ ⟨Nat.le_of_ble_eq_true rfl, Nat.le_of_ble_eq_true rfl⟩ rfl hk1 rfl rfl (Nat.le_of_ble_eq_true rfl) dX1_loadPoints_2 ⟨Nat.le_of_ble_eq_true rfl, Nat.le_of_ble_eq_true rfl⟩) hS (fun r3 S2 H locs hw hW hS => ?_)
  refine m_lstN C hL dX1_loadPoints_5 rfl (by decide) (fun ls hL hn9 hk9 => ?_)
  have h0 := hk9 0 _ h0 (by decide) (by decide) (Or.inl (by decide))
  have h1 := hk9 1 _ h1 (by decide) (by decide) (Or.inr (va_rf_cat _))
  have h2 := hn9
  refine lv_iconst (v := 0) C.1 C.2.1 dX1_loadPoints_6 (by decide) ?_
  refine m_ist C hL dX1_loadPoints_7 (by decide) (fun ls hL hn9 hk9 => ?_)
  have h0 := hk9 0 _ h0 (by decide) (Or.inl (by decide))
  have h1 := hk9 1 _ h1 (by decide) (Or.inl (by decide))
  have h2 := hk9 2 _ h2 (by decide) (Or.inl (by decide))
  have h4 := hn9
  refine w_X1_loadPoints_L9 C ?_ FU S2 0 H locs ls hW hS hL h0 h1 h2 h4 hw
  · intro S13 H locs ls hW hS hL h0 h1 hw
    refine m_aldN C dX1_loadPoints_43 rfl h1 ?_
    obtain ⟨b14, ho14, hw⟩ := hw
    obtain ⟨hk15, hw⟩ := hw
    refine m_getI C hW ho14 hk15 f_X1_61 rfl dX1_loadPoints_44 ?_
    refine lv_if_lt (tgt := 75) C.1 C.2.1 dX1_loadPoints_47 (by decide) (fun hc16 => ?_) (fun hc16 => ?_)
    · have hw := hw.1 hc16
      exact m_vret C hW hS hw dX1_loadPoints_75
    · have hw := hw.2 hc16
      refine m_aldN C dX1_loadPoints_50 rfl h1 ?_
      refine m_getI C hW ho14 hk15 f_X1_61 rfl dX1_loadPoints_51 ?_
      refine m_aldN C dX1_loadPoints_54 rfl h1 ?_
      refine m_getI C hW ho14 hk15 f_X1_41 rfl dX1_loadPoints_55 ?_
      refine lv_icmp_ge (tgt := 75) C.1 C.2.1 dX1_loadPoints_58 (by decide) (fun hc17 => ?_) (fun hc17 => ?_)
      · have hw := hw.1 hc17
        exact m_vret C hW hS hw dX1_loadPoints_75
      · have hw := hw.2 hc17
        refine m_aldN C dX1_loadPoints_61 rfl h0 ?_
        refine m_aldN C dX1_loadPoints_62 rfl h0 ?_
        obtain ⟨hk18, hw⟩ := hw
        refine m_getR C hW rfl hk18 f_X1_9 rfl dX1_loadPoints_63 ?_
        refine m_aldN C dX1_loadPoints_66 rfl h1 ?_
        refine m_getI C hW ho14 hk15 f_X1_61 rfl dX1_loadPoints_67 ?_
        obtain ⟨b19, ho19, hw⟩ := hw
        obtain ⟨hk20, hw⟩ := hw
        obtain ⟨hi21, hw⟩ := hw
        refine m_lald C hW ho19 hk20 hi21 dX1_loadPoints_70 ?_
        refine lv_l2i (v := (((hJ S13 b19 ((hI S13 b14 2) : Int32).toNatClampNeg) : Int64).toInt32)) C.1 C.2.1 dX1_loadPoints_71 rfl ?_
        refine m_putI C hW hS rfl hk18 p_X1_18 (fun z => by cases z) rfl dX1_loadPoints_72 (fun H locs hW hS => ?_)
        exact m_vret C hW hS hw dX1_loadPoints_75
def wp_X1_countUp_L16 (l0 : Nat) (l1 : Nat) (l2 : Int64) (Q : Hp → Prop) : Nat → Hp → Int64 → Int32 → Prop
  | 0, _, _, _ => False
  | n + 1, S, l4, l6 => hK S l1 = 9 ∧ ((hI S l1 4) ≤ l6 → hK S l0 = 3 ∧ Q (sI S l0 2 ((l4 : Int64).toInt32))) ∧ (¬ ((hI S l1 4) ≤ l6) → hK S l0 = 3 ∧ ∃ b8 : Nat, (hR S l1 3) = some b8 ∧ hK S b8 = 15 ∧ vp_in l6 (hN S b8) ∧ ∃ b11 : Nat, (hR S l0 0) = some b11 ∧ hK S b11 = 16 ∧ vp_in l6 (hN S b11) ∧ ∃ b14 : Nat, (hR (sJ S b11 (l6 : Int32).toNatClampNeg (((((((hI S b8 (l6 : Int32).toNatClampNeg) : Int32).toInt64) * l2) + 100) - 1) / 100)) l0 0) = some b14 ∧ hK (sJ S b11 (l6 : Int32).toNatClampNeg (((((((hI S b8 (l6 : Int32).toNatClampNeg) : Int32).toInt64) * l2) + 100) - 1) / 100)) b14 = 16 ∧ vp_in l6 (hN (sJ S b11 (l6 : Int32).toNatClampNeg (((((((hI S b8 (l6 : Int32).toNatClampNeg) : Int32).toInt64) * l2) + 100) - 1) / 100)) b14) ∧ ∀ z17 : Int64, z17 = (l4 + (hJ (sJ S b11 (l6 : Int32).toNatClampNeg (((((((hI S b8 (l6 : Int32).toNatClampNeg) : Int32).toInt64) * l2) + 100) - 1) / 100)) b14 (l6 : Int32).toNatClampNeg)) → wp_X1_countUp_L16 l0 l1 l2 Q n (sJ S b11 (l6 : Int32).toNatClampNeg (((((((hI S b8 (l6 : Int32).toNatClampNeg) : Int32).toInt64) * l2) + 100) - 1) / 100)) z17 (l6 + 1))
def wp_X1_countUp (S : Hp) (a0 : Nat) (a1 : Option Nat) (Q : Hp → Prop) : Prop := ∃ b1 : Nat, a1 = some b1 ∧ hK S b1 = 9 ∧ ∀ z3 : Int64, z3 = (100 + (((hI S b1 1) : Int32).toInt64)) → wp_X1_countUp_L16 a0 b1 z3 Q FU S 0 0
set_option maxRecDepth 100000 in
set_option maxHeartbeats 4000000 in
theorem w_X1_countUp_L16 {p : Program} {l : Launch} {e : Env} {s : State} {m : MethodId} {args : Array Value} {below : List Frame} {meth : Method} {c : Code} {G : GX} {Q : Hp → Prop} {l0 : Nat} {l1 : Nat} {l2 : Int64} (C : Cx p s m args meth c cX1_countUp 7 RX1 none "countUp" G) :
    ∀ (n : Nat) (S : Hp) (l4 : Int64) (l6 : Int32) (H : Heap) (locs : List Loc) (ls : Array Slot), wd G S H → va_S G.2.2.1 s.heap H locs → LV ls 7 → ls[0]? = some (.val (va_rf (some l0))) → ls[1]? = some (.val (va_rf (some l1))) → ls[2]? = some (.val (.long l2)) → ls[4]? = some (.val (.long l4)) → ls[6]? = some (.val (.int l6)) → wp_X1_countUp_L16 l0 l1 l2 Q n S l4 l6 → W p l e ({ frames := 0, cells := 0, slots := 0, locals := 0 } : Room) s m args below meth c H locs 0 0 (MQ below (QV G Q) args s 0 0 G.2.2.1) (F0 m 16 ls []) := by
  intro n
  induction n with
  | zero =>
    intro S l4 l6 H locs ls hW hS hL h0 h1 h2 h4 h6 hw
    exact False.elim hw
  | succ n ih =>
    intro S l4 l6 H locs ls hW hS hL h0 h1 h2 h4 h6 hw
    unfold wp_X1_countUp_L16 at hw
    refine lv_iload C.1 C.2.1 dX1_countUp_16 h6 ?_
    refine m_aldN C dX1_countUp_18 rfl h1 ?_
    obtain ⟨hk4, hw⟩ := hw
    refine m_getI C hW rfl hk4 f_X1_41 rfl dX1_countUp_19 ?_
    refine lv_icmp_ge (tgt := 70) C.1 C.2.1 dX1_countUp_22 (by decide) (fun hc5 => ?_) (fun hc5 => ?_)
    · have hw := hw.1 hc5
      refine m_aldN C dX1_countUp_70 rfl h0 ?_
      refine lv_lload C.1 C.2.1 dX1_countUp_71 h4 ?_
      refine lv_l2i (v := ((l4 : Int64).toInt32)) C.1 C.2.1 dX1_countUp_73 rfl ?_
      obtain ⟨hk6, hw⟩ := hw
      refine m_putI C hW hS rfl hk6 p_X1_18 (fun z => by cases z) rfl dX1_countUp_74 (fun H locs hW hS => ?_)
      exact m_vret C hW hS hw dX1_countUp_77
    · have hw := hw.2 hc5
      refine m_aldN C dX1_countUp_25 rfl h0 ?_
      obtain ⟨hk7, hw⟩ := hw
      refine m_getR C hW rfl hk7 f_X1_9 rfl dX1_countUp_26 ?_
      refine lv_iload C.1 C.2.1 dX1_countUp_29 h6 ?_
      refine m_aldN C dX1_countUp_31 rfl h1 ?_
      refine m_getR C hW rfl hk4 f_X1_53 rfl dX1_countUp_32 ?_
      refine lv_iload C.1 C.2.1 dX1_countUp_35 h6 ?_
      obtain ⟨b8, ho8, hw⟩ := hw
      obtain ⟨hk9, hw⟩ := hw
      obtain ⟨hi10, hw⟩ := hw
      refine m_iald C hW ho8 hk9 hi10 dX1_countUp_37 ?_
      refine lv_i2l (v := (((hI S b8 (l6 : Int32).toNatClampNeg) : Int32).toInt64)) C.1 C.2.1 dX1_countUp_38 rfl ?_
      refine lv_lload_n C.1 C.2.1 dX1_countUp_39 rfl h2 ?_
      refine lv_lmul C.1 C.2.1 dX1_countUp_40 ?_
      refine lv_ldc2 (v := 100) C.1 C.2.1 C.2.2.2.1 (C.2.2.2.2.1 _ tw_1056) dX1_countUp_41 ?_
      refine lv_ladd C.1 C.2.1 dX1_countUp_44 ?_
      refine lv_lconst (v := 1) C.1 C.2.1 dX1_countUp_45 (by decide) ?_
      refine lv_lsub C.1 C.2.1 dX1_countUp_46 ?_
      refine lv_ldc2 (v := 100) C.1 C.2.1 C.2.2.2.1 (C.2.2.2.2.1 _ tw_1056) dX1_countUp_47 ?_
      refine lv_ldiv C.1 C.2.1 dX1_countUp_50 (by decide) ?_
      obtain ⟨b11, ho11, hw⟩ := hw
      obtain ⟨hk12, hw⟩ := hw
      obtain ⟨hi13, hw⟩ := hw
      refine m_last C hW hS ho11 hk12 hi13 dX1_countUp_51 (fun H locs hW hS => ?_)
      refine lv_lload C.1 C.2.1 dX1_countUp_52 h4 ?_
      refine m_aldN C dX1_countUp_54 rfl h0 ?_
      refine m_getR C hW rfl hk7 f_X1_9 rfl dX1_countUp_55 ?_
      refine lv_iload C.1 C.2.1 dX1_countUp_58 h6 ?_
      obtain ⟨b14, ho14, hw⟩ := hw
      obtain ⟨hk15, hw⟩ := hw
      obtain ⟨hi16, hw⟩ := hw
      refine m_lald C hW ho14 hk15 hi16 dX1_countUp_60 ?_
      refine lv_ladd C.1 C.2.1 dX1_countUp_61 ?_
      refine lv_topl (fun z17 ez17 => ?_)
      have hw := hw z17 ez17
      refine m_lst C hL dX1_countUp_62 (by decide) (fun ls hL hn9 hk9 => ?_)
      have h0 := hk9 0 _ h0 (by decide) (by decide) (Or.inl (by decide))
      have h1 := hk9 1 _ h1 (by decide) (by decide) (Or.inl (by decide))
      have h2 := hk9 2 _ h2 (by decide) (by decide) (Or.inl (by decide))
      have h6 := hk9 6 _ h6 (by decide) (by decide) (Or.inl (by decide))
      have h4 := hn9
      refine m_iinc (v := (l6 + 1)) C hL dX1_countUp_64 h6 rfl (by decide) (fun ls hL hn9 hk9 => ?_)
      have h0 := hk9 0 _ h0 (by decide) (Or.inl (by decide))
      have h1 := hk9 1 _ h1 (by decide) (Or.inl (by decide))
      have h2 := hk9 2 _ h2 (by decide) (Or.inl (by decide))
      have h4 := hk9 4 _ h4 (by decide) (Or.inl (by decide))
      have h6 := hn9
      refine lv_goto (tgt := 16) C.1 C.2.1 dX1_countUp_67 (by decide) ?_
      exact ih (sJ S b11 (l6 : Int32).toNatClampNeg (((((((hI S b8 (l6 : Int32).toNatClampNeg) : Int32).toInt64) * l2) + 100) - 1) / 100)) z17 (l6 + 1) H locs ls hW hS hL h0 h1 h2 h4 h6 hw
set_option maxRecDepth 100000 in
set_option maxHeartbeats 4000000 in
theorem c_X1_countUp {l : Launch} {G : GX} {S : Hp} {a0 : Nat} {a1 : Option Nat} {Q : Hp → Prop} (hw : wp_X1_countUp S a0 a1 Q) : Met l yX1_countUp (Cond.code yX1_countUp cX1_countUp 7 none :: TS) { frames := 0, cells := 0, slots := 0, locals := 0 } (Pk G S [va_rf (some a0), va_rf a1]) (QV G Q) 0 0 G.2.2.1 := by
  refine m_met (by decide) ?_
  intro p e s m below meth c H locs C hW hS
  have C : Cx p s m ([va_rf (some a0), va_rf a1] : List Value).toArray meth c cX1_countUp 7 RX1 none "countUp" G := C
  obtain ⟨ls, hent, hL, hla⟩ := m_entry m (vs := [va_rf (some a0), va_rf a1]) (nn := 7) [1, 1] (by simp only [List.map_cons, List.map_nil, va_rf_cat] <;> rfl) (by decide)
  rw [hent]
  have h0 : ls[0]? = some (.val (va_rf (some a0))) := hla (0, va_rf (some a0)) (List.mem_of_getElem? (i := 0) rfl)
  have h1 : ls[1]? = some (.val (va_rf a1)) := hla (1, va_rf a1) (List.mem_of_getElem? (i := 1) rfl)
  clear hla
  generalize ([va_rf (some a0), va_rf a1] : List Value).toArray = args at C ⊢
  unfold wp_X1_countUp at hw
  refine lv_ldc2 (v := 100) C.1 C.2.1 C.2.2.2.1 (C.2.2.2.2.1 _ tw_1056) dX1_countUp_0 ?_
  refine m_aldN C dX1_countUp_3 rfl h1 ?_
  obtain ⟨b1, ho1, hw⟩ := hw
  obtain ⟨hk2, hw⟩ := hw
  refine m_getI C hW ho1 hk2 f_X1_64 rfl dX1_countUp_4 ?_
  refine lv_i2l (v := (((hI S b1 1) : Int32).toInt64)) C.1 C.2.1 dX1_countUp_7 rfl ?_
  refine lv_ladd C.1 C.2.1 dX1_countUp_8 ?_
  refine lv_topl (fun z3 ez3 => ?_)
  have hw := hw z3 ez3
  refine m_lstN C hL dX1_countUp_9 rfl (by decide) (fun ls hL hn9 hk9 => ?_)
  have h0 := hk9 0 _ h0 (by decide) (by decide) (Or.inl (by decide))
  have h1 := hk9 1 _ h1 (by decide) (by decide) (Or.inr (va_rf_cat _))
  have h2 := hn9
  refine lv_lconst (v := 0) C.1 C.2.1 dX1_countUp_10 (by decide) ?_
  refine m_lst C hL dX1_countUp_11 (by decide) (fun ls hL hn9 hk9 => ?_)
  have h0 := hk9 0 _ h0 (by decide) (by decide) (Or.inl (by decide))
  have h1 := hk9 1 _ h1 (by decide) (by decide) (Or.inl (by decide))
  have h2 := hk9 2 _ h2 (by decide) (by decide) (Or.inl (by decide))
  have h4 := hn9
  refine lv_iconst (v := 0) C.1 C.2.1 dX1_countUp_13 (by decide) ?_
  refine m_ist C hL dX1_countUp_14 (by decide) (fun ls hL hn9 hk9 => ?_)
  have h0 := hk9 0 _ h0 (by decide) (Or.inl (by decide))
  have h1 := hk9 1 _ h1 (by decide) (Or.inl (by decide))
  have h2 := hk9 2 _ h2 (by decide) (Or.inl (by decide))
  have h4 := hk9 4 _ h4 (by decide) (Or.inl (by decide))
  have h6 := hn9
  rw [ho1] at h1
  exact w_X1_countUp_L16 C  FU S 0 0 H locs ls hW hS hL h0 h1 h2 h4 h6 hw
def wp_X1_compute_L2 (l0 : Nat) (l1 : Option Nat) (K21 : Hp → Prop) (Q : Hp → Prop) : Nat → Hp → Int32 → Prop
  | 0, _, _ => False
  | n + 1, S, l2 => (30 ≤ l2 → K21 S) ∧ (¬ (30 ≤ l2) → hK S l0 = 3 ∧ ∃ b3 : Nat, (hR S l0 0) = some b3 ∧ hK S b3 = 16 ∧ vp_in l2 (hN S b3) ∧ wp_X1_compute_L2 l0 l1 K21 Q n (sJ S b3 (l2 : Int32).toNatClampNeg 0) (l2 + 1))
def wp_X1_compute (S : Hp) (a0 : Nat) (a1 : Option Nat) (Q : Hp → Prop) : Prop := wp_X1_compute_L2 a0 a1 (fun (S6 : Hp) => hK S6 a0 = 3 ∧ ∃ b8 : Nat, a1 = some b8 ∧ hK (sI S6 a0 2 0) b8 = 9 ∧ wp_X7_fault (sI S6 a0 2 0) b8 (fun r11 S10 => (r11 = 0 → hK S10 b8 = 9 ∧ ((hI S10 b8 0) = 1 → hK S10 a0 = 3 ∧ wp_X1_cutBoards S10 a0 a1 (fun S15 => Q S15)) ∧ (¬ ((hI S10 b8 0) = 1) → ((hI S10 b8 0) = 2 → hK S10 a0 = 3 ∧ wp_X1_mixParts S10 a0 a1 (fun S18 => Q S18)) ∧ (¬ ((hI S10 b8 0) = 2) → ((hI S10 b8 0) = 3 → hK S10 a0 = 3 ∧ wp_X1_loadPoints S10 a0 a1 (fun S21 => Q S21)) ∧ (¬ ((hI S10 b8 0) = 3) → ((hI S10 b8 0) = 4 → hK S10 a0 = 3 ∧ Q (sI S10 a0 2 (((hI S10 b8 4) + 1) / 2))) ∧ (¬ ((hI S10 b8 0) = 4) → ((hI S10 b8 0) = 5 → hK S10 a0 = 3 ∧ wp_X1_countUp S10 a0 a1 (fun S26 => Q S26)) ∧ (¬ ((hI S10 b8 0) = 5) → Q S10)))))) ∧ (¬ (r11 = 0) → Q S10))) Q FU S 0
set_option maxRecDepth 100000 in
set_option maxHeartbeats 4000000 in
theorem w_X1_compute_L2 {p : Program} {l : Launch} {e : Env} {s : State} {m : MethodId} {args : Array Value} {below : List Frame} {meth : Method} {c : Code} {G : GX} {Q : Hp → Prop} {K21 : Hp → Prop} {l0 : Nat} {l1 : Option Nat} (C : Cx p s m args meth c cX1_compute 3 RX1 none "compute" G)
    (k21 : ∀ (S : Hp) (H : Heap) (locs : List Loc) (ls : Array Slot), wd G S H → va_S G.2.2.1 s.heap H locs → LV ls 3 → ls[0]? = some (.val (va_rf (some l0))) → ls[1]? = some (.val (va_rf l1)) → K21 S → W p l e ({ frames := 3, cells := 0, slots := 0, locals := 76 } : Room) s m args below meth c H locs 0 0 (MQ below (QV G Q) args s 0 0 G.2.2.1) (F0 m 21 ls [])) :
    ∀ (n : Nat) (S : Hp) (l2 : Int32) (H : Heap) (locs : List Loc) (ls : Array Slot), wd G S H → va_S G.2.2.1 s.heap H locs → LV ls 3 → ls[0]? = some (.val (va_rf (some l0))) → ls[1]? = some (.val (va_rf l1)) → ls[2]? = some (.val (.int l2)) → wp_X1_compute_L2 l0 l1 K21 Q n S l2 → W p l e ({ frames := 3, cells := 0, slots := 0, locals := 76 } : Room) s m args below meth c H locs 0 0 (MQ below (QV G Q) args s 0 0 G.2.2.1) (F0 m 2 ls []) := by
  intro n
  induction n with
  | zero =>
    intro S l2 H locs ls hW hS hL h0 h1 h2 hw
    exact False.elim hw
  | succ n ih =>
    intro S l2 H locs ls hW hS hL h0 h1 h2 hw
    unfold wp_X1_compute_L2 at hw
    refine lv_iload_n C.1 C.2.1 dX1_compute_2 rfl h2 ?_
    refine lv_bipush (v := 30) C.1 C.2.1 dX1_compute_3 (by decide) ?_
    refine lv_icmp_ge (tgt := 21) C.1 C.2.1 dX1_compute_5 (by decide) (fun hc1 => ?_) (fun hc1 => ?_)
    · have hw := hw.1 hc1
      exact k21 S H locs ls hW hS hL h0 h1 hw
    · have hw := hw.2 hc1
      refine m_aldN C dX1_compute_8 rfl h0 ?_
      obtain ⟨hk2, hw⟩ := hw
      refine m_getR C hW rfl hk2 f_X1_9 rfl dX1_compute_9 ?_
      refine lv_iload_n C.1 C.2.1 dX1_compute_12 rfl h2 ?_
      refine lv_lconst (v := 0) C.1 C.2.1 dX1_compute_13 (by decide) ?_
      obtain ⟨b3, ho3, hw⟩ := hw
      obtain ⟨hk4, hw⟩ := hw
      obtain ⟨hi5, hw⟩ := hw
      refine m_last C hW hS ho3 hk4 hi5 dX1_compute_14 (fun H locs hW hS => ?_)
      refine m_iinc (v := (l2 + 1)) C hL dX1_compute_15 h2 rfl (by decide) (fun ls hL hn9 hk9 => ?_)
      have h0 := hk9 0 _ h0 (by decide) (Or.inl (by decide))
      have h1 := hk9 1 _ h1 (by decide) (Or.inr (va_rf_cat _))
      have h2 := hn9
      refine lv_goto (tgt := 2) C.1 C.2.1 dX1_compute_18 (by decide) ?_
      exact ih (sJ S b3 (l2 : Int32).toNatClampNeg 0) (l2 + 1) H locs ls hW hS hL h0 h1 h2 hw
set_option maxRecDepth 100000 in
set_option maxHeartbeats 4000000 in
theorem c_X1_compute {l : Launch} {G : GX} {S : Hp} {a0 : Nat} {a1 : Option Nat} {Q : Hp → Prop} (hw : wp_X1_compute S a0 a1 Q) : Met l yX1_compute (Cond.code yX1_compute cX1_compute 3 none :: TS) { frames := 3, cells := 0, slots := 0, locals := 76 } (Pk G S [va_rf (some a0), va_rf a1]) (QV G Q) 0 0 G.2.2.1 := by
  refine m_met (by decide) ?_
  intro p e s m below meth c H locs C hW hS
  have C : Cx p s m ([va_rf (some a0), va_rf a1] : List Value).toArray meth c cX1_compute 3 RX1 none "compute" G := C
  obtain ⟨ls, hent, hL, hla⟩ := m_entry m (vs := [va_rf (some a0), va_rf a1]) (nn := 3) [1, 1] (by simp only [List.map_cons, List.map_nil, va_rf_cat] <;> rfl) (by decide)
  rw [hent]
  have h0 : ls[0]? = some (.val (va_rf (some a0))) := hla (0, va_rf (some a0)) (List.mem_of_getElem? (i := 0) rfl)
  have h1 : ls[1]? = some (.val (va_rf a1)) := hla (1, va_rf a1) (List.mem_of_getElem? (i := 1) rfl)
  clear hla
  generalize ([va_rf (some a0), va_rf a1] : List Value).toArray = args at C ⊢
  unfold wp_X1_compute at hw
  refine lv_iconst (v := 0) C.1 C.2.1 dX1_compute_0 (by decide) ?_
  refine m_istN C hL dX1_compute_1 rfl (by decide) (fun ls hL hn9 hk9 => ?_)
  have h0 := hk9 0 _ h0 (by decide) (Or.inl (by decide))
  have h1 := hk9 1 _ h1 (by decide) (Or.inr (va_rf_cat _))
  have h2 := hn9
  refine w_X1_compute_L2 C ?_ FU S 0 H locs ls hW hS hL h0 h1 h2 hw
  · intro S6 H locs ls hW hS hL h0 h1 hw
    refine m_aldN C dX1_compute_21 rfl h0 ?_
    refine lv_iconst (v := 0) C.1 C.2.1 dX1_compute_22 (by decide) ?_
    obtain ⟨hk7, hw⟩ := hw
    refine m_putI C hW hS rfl hk7 p_X1_18 (fun z => by cases z) rfl dX1_compute_23 (fun H locs hW hS => ?_)
    refine m_aldN C dX1_compute_26 rfl h1 ?_
    obtain ⟨b8, ho8, hw⟩ := hw
    obtain ⟨hk9, hw⟩ := hw
    refine m_rI (m_runV (As := []) (rest := []) C hW hS hL (c_X7_fault hw) v_X1_22 ⟨rfl, rfl⟩ ⟨Nat.le_of_ble_eq_true rfl, Nat.le_of_ble_eq_true rfl⟩ ho8 hk9 rfl rfl (Nat.le_of_ble_eq_true rfl) dX1_compute_27 ⟨Nat.le_of_ble_eq_true rfl, Nat.le_of_ble_eq_true rfl⟩) hS (fun r11 S10 H locs hw hW hS => ?_)
    refine lv_if_eq (tgt := 34) C.1 C.2.1 dX1_compute_30 (by decide) (fun hc12 => ?_) (fun hc12 => ?_)
    · have hw := hw.1 hc12
      refine m_aldN C dX1_compute_34 rfl h1 ?_
      obtain ⟨hk13, hw⟩ := hw
      refine m_getI C hW ho8 hk13 f_X1_28 rfl dX1_compute_35 ?_
      by_cases hc16 : (hI S10 b8 0) = 1
      · have hw := hw.1 hc16
        refine lv_tableIn (tgt := 72) (off := 34) C.1 C.2.1 dX1_compute_38 (by rw [hc16]; decide) (by rw [hc16]; decide) (by rw [hc16]; rfl) (by decide) ?_
        refine m_aldN C dX1_compute_72 rfl h0 ?_
        refine m_aldN C dX1_compute_73 rfl h1 ?_
        obtain ⟨hk14, hw⟩ := hw
        refine m_rV (m_runV (As := [va_rf a1]) (rest := []) C hW hS hL (c_X1_cutBoards hw) v_X1_31 ⟨rfl, rfl⟩ ⟨Nat.le_of_ble_eq_true rfl, Nat.le_of_ble_eq_true rfl⟩ rfl hk14 rfl rfl (Nat.le_of_ble_eq_true rfl) dX1_compute_74 ⟨Nat.le_of_ble_eq_true rfl, Nat.le_of_ble_eq_true rfl⟩) hS (fun S15 H locs hw hW hS => ?_)
        refine lv_goto (tgt := 119) C.1 C.2.1 dX1_compute_77 (by decide) ?_
        exact m_vret C hW hS hw dX1_compute_119
      · have hw := hw.2 hc16
        by_cases hc19 : (hI S10 b8 0) = 2
        · have hw := hw.1 hc19
          refine lv_tableIn (tgt := 80) (off := 42) C.1 C.2.1 dX1_compute_38 (by rw [hc19]; decide) (by rw [hc19]; decide) (by rw [hc19]; rfl) (by decide) ?_
          refine m_aldN C dX1_compute_80 rfl h0 ?_
          refine m_aldN C dX1_compute_81 rfl h1 ?_
          obtain ⟨hk17, hw⟩ := hw
          refine m_rV (m_runV (As := [va_rf a1]) (rest := []) C hW hS hL (c_X1_mixParts hw) v_X1_35 ⟨rfl, rfl⟩ ⟨Nat.le_of_ble_eq_true rfl, Nat.le_of_ble_eq_true rfl⟩ rfl hk17 rfl rfl (Nat.le_of_ble_eq_true rfl) dX1_compute_82 ⟨Nat.le_of_ble_eq_true rfl, Nat.le_of_ble_eq_true rfl⟩) hS (fun S18 H locs hw hW hS => ?_)
          refine lv_goto (tgt := 119) C.1 C.2.1 dX1_compute_85 (by decide) ?_
          exact m_vret C hW hS hw dX1_compute_119
        · have hw := hw.2 hc19
          by_cases hc22 : (hI S10 b8 0) = 3
          · have hw := hw.1 hc22
            refine lv_tableIn (tgt := 88) (off := 50) C.1 C.2.1 dX1_compute_38 (by rw [hc22]; decide) (by rw [hc22]; decide) (by rw [hc22]; rfl) (by decide) ?_
            refine m_aldN C dX1_compute_88 rfl h0 ?_
            refine m_aldN C dX1_compute_89 rfl h1 ?_
            obtain ⟨hk20, hw⟩ := hw
            refine m_rV (m_runV (As := [va_rf a1]) (rest := []) C hW hS hL (c_X1_loadPoints hw) v_X1_38 ⟨rfl, rfl⟩ ⟨Nat.le_of_ble_eq_true rfl, Nat.le_of_ble_eq_true rfl⟩ rfl hk20 rfl rfl (Nat.le_of_ble_eq_true rfl) dX1_compute_90 ⟨Nat.le_of_ble_eq_true rfl, Nat.le_of_ble_eq_true rfl⟩) hS (fun S21 H locs hw hW hS => ?_)
            refine lv_goto (tgt := 119) C.1 C.2.1 dX1_compute_93 (by decide) ?_
            exact m_vret C hW hS hw dX1_compute_119
          · have hw := hw.2 hc22
            by_cases hc24 : (hI S10 b8 0) = 4
            · have hw := hw.1 hc24
              refine lv_tableIn (tgt := 96) (off := 58) C.1 C.2.1 dX1_compute_38 (by rw [hc24]; decide) (by rw [hc24]; decide) (by rw [hc24]; rfl) (by decide) ?_
              refine m_aldN C dX1_compute_96 rfl h0 ?_
              refine m_aldN C dX1_compute_97 rfl h1 ?_
              refine m_getI C hW ho8 hk13 f_X1_41 rfl dX1_compute_98 ?_
              refine lv_iconst (v := 1) C.1 C.2.1 dX1_compute_101 (by decide) ?_
              refine lv_iadd C.1 C.2.1 dX1_compute_102 ?_
              refine lv_iconst (v := 2) C.1 C.2.1 dX1_compute_103 (by decide) ?_
              refine lv_idiv C.1 C.2.1 dX1_compute_104 (by decide) ?_
              obtain ⟨hk23, hw⟩ := hw
              refine m_putI C hW hS rfl hk23 p_X1_18 (fun z => by cases z) rfl dX1_compute_105 (fun H locs hW hS => ?_)
              refine lv_goto (tgt := 119) C.1 C.2.1 dX1_compute_108 (by decide) ?_
              exact m_vret C hW hS hw dX1_compute_119
            · have hw := hw.2 hc24
              by_cases hc27 : (hI S10 b8 0) = 5
              · have hw := hw.1 hc27
                refine lv_tableIn (tgt := 111) (off := 73) C.1 C.2.1 dX1_compute_38 (by rw [hc27]; decide) (by rw [hc27]; decide) (by rw [hc27]; rfl) (by decide) ?_
                refine m_aldN C dX1_compute_111 rfl h0 ?_
                refine m_aldN C dX1_compute_112 rfl h1 ?_
                obtain ⟨hk25, hw⟩ := hw
                refine m_rV (m_runV (As := [va_rf a1]) (rest := []) C hW hS hL (c_X1_countUp hw) v_X1_44 ⟨rfl, rfl⟩ ⟨Nat.le_of_ble_eq_true rfl, Nat.le_of_ble_eq_true rfl⟩ rfl hk25 rfl rfl (Nat.le_of_ble_eq_true rfl) dX1_compute_113 ⟨Nat.le_of_ble_eq_true rfl, Nat.le_of_ble_eq_true rfl⟩) hS (fun S26 H locs hw hW hS => ?_)
                refine lv_goto (tgt := 119) C.1 C.2.1 dX1_compute_116 (by decide) ?_
                exact m_vret C hW hS hw dX1_compute_119
              · have hw := hw.2 hc27
                refine lv_tableOut (tgt := 119) C.1 C.2.1 dX1_compute_38 (tsw_out 1 5 (fun v h1 h2 => ?_)) (by decide) ?_
                · have : v = 1 ∨ v = 2 ∨ v = 3 ∨ v = 4 ∨ v = 5 := by omega
                  rcases this with rfl | rfl | rfl | rfl | rfl
                  · exact lv_neT hc16 (by decide)
                  · exact lv_neT hc19 (by decide)
                  · exact lv_neT hc22 (by decide)
                  · exact lv_neT hc24 (by decide)
                  · exact lv_neT hc27 (by decide)
                · exact m_vret C hW hS hw dX1_compute_119
    · have hw := hw.2 hc12
      exact m_vret C hW hS hw dX1_compute_33
def wp_X2_init (S : Hp) (a0 : Nat) (a1 : Int32) (a2 : Int32) (a3 : Int32) (Q : Hp → Prop) : Prop := hK S a0 = 4 ∧ Q (sI (sI (sI S a0 0 a1) a0 1 a2) a0 2 a3)
set_option maxRecDepth 100000 in
set_option maxHeartbeats 4000000 in
theorem c_X2_init {l : Launch} {G : GX} {S : Hp} {a0 : Nat} {a1 : Int32} {a2 : Int32} {a3 : Int32} {Q : Hp → Prop} (hw : wp_X2_init S a0 a1 a2 a3 Q) : Met l yX2_init (Cond.code yX2_init cX2_init 4 none :: TS) { frames := 1, cells := 0, slots := 0, locals := 20 } (Pk G S [va_rf (some a0), .int a1, .int a2, .int a3]) (QV G Q) 0 0 G.2.2.1 := by
  refine m_met (by decide) ?_
  intro p e s m below meth c H locs C hW hS
  have C : Cx p s m ([va_rf (some a0), .int a1, .int a2, .int a3] : List Value).toArray meth c cX2_init 4 RX2 none "<init>" G := C
  obtain ⟨ls, hent, hL, hla⟩ := m_entry m (vs := [va_rf (some a0), .int a1, .int a2, .int a3]) (nn := 4) [1, 1, 1, 1] rfl (by decide)
  rw [hent]
  have h0 : ls[0]? = some (.val (va_rf (some a0))) := hla (0, va_rf (some a0)) (List.mem_of_getElem? (i := 0) rfl)
  have h1 : ls[1]? = some (.val (.int a1)) := hla (1, .int a1) (List.mem_of_getElem? (i := 1) rfl)
  have h2 : ls[2]? = some (.val (.int a2)) := hla (2, .int a2) (List.mem_of_getElem? (i := 2) rfl)
  have h3 : ls[3]? = some (.val (.int a3)) := hla (3, .int a3) (List.mem_of_getElem? (i := 3) rfl)
  clear hla
  generalize ([va_rf (some a0), .int a1, .int a2, .int a3] : List Value).toArray = args at C ⊢
  unfold wp_X2_init at hw
  refine m_aldN C dX2_init_0 rfl h0 ?_
  refine m_obj C tw_280 tw_33 tw_34 hL.1 ⟨Nat.le_of_ble_eq_true rfl, Nat.le_of_ble_eq_true rfl⟩ (Nat.le_of_ble_eq_true rfl) rfl dX2_init_1 ?_
  refine m_aldN C dX2_init_4 rfl h0 ?_
  refine lv_iload_n C.1 C.2.1 dX2_init_5 rfl h1 ?_
  obtain ⟨hk1, hw⟩ := hw
  refine m_putI C hW hS rfl hk1 p_X2_7 (fun _ => rfl) rfl dX2_init_6 (fun H locs hW hS => ?_)
  refine m_aldN C dX2_init_9 rfl h0 ?_
  refine lv_iload_n C.1 C.2.1 dX2_init_10 rfl h2 ?_
  refine m_putI C hW hS rfl hk1 p_X2_13 (fun _ => rfl) rfl dX2_init_11 (fun H locs hW hS => ?_)
  refine m_aldN C dX2_init_14 rfl h0 ?_
  refine lv_iload_n C.1 C.2.1 dX2_init_15 rfl h3 ?_
  refine m_putI C hW hS rfl hk1 p_X2_16 (fun _ => rfl) rfl dX2_init_16 (fun H locs hW hS => ?_)
  exact m_vret C hW hS hw dX2_init_19
def wp_X3_init (S : Hp) (a0 : Nat) (Q : Hp → Prop) : Prop := ∀ q1 : Nat, hK S q1 = 0 → hK (sN S q1 16 400) a0 = 5 ∧ Q (sR (sN S q1 16 400) a0 0 (some q1))
set_option maxRecDepth 100000 in
set_option maxHeartbeats 4000000 in
theorem c_X3_init {l : Launch} {G : GX} {S : Hp} {a0 : Nat} {Q : Hp → Prop} (hw : wp_X3_init S a0 Q) : Met l yX3_init (Cond.code yX3_init cX3_init 1 none :: TS) { frames := 1, cells := 1, slots := 400, locals := 20 } (Pk G S [va_rf (some a0)]) (QV G Q) 1 400 G.2.2.1 := by
  refine m_met (by decide) ?_
  intro p e s m below meth c H locs C hW hS
  have C : Cx p s m ([va_rf (some a0)] : List Value).toArray meth c cX3_init 1 RX3 none "<init>" G := C
  obtain ⟨ls, hent, hL, hla⟩ := m_entry m (vs := [va_rf (some a0)]) (nn := 1) [1] rfl (by decide)
  rw [hent]
  have h0 : ls[0]? = some (.val (va_rf (some a0))) := hla (0, va_rf (some a0)) (List.mem_of_getElem? (i := 0) rfl)
  clear hla
  generalize ([va_rf (some a0)] : List Value).toArray = args at C ⊢
  unfold wp_X3_init at hw
  refine m_aldN C dX3_init_0 rfl h0 ?_
  refine m_obj C tw_163 tw_33 tw_34 hL.1 ⟨Nat.le_of_ble_eq_true rfl, Nat.le_of_ble_eq_true rfl⟩ (Nat.le_of_ble_eq_true rfl) rfl dX3_init_1 ?_
  refine m_aldN C dX3_init_4 rfl h0 ?_
  refine lv_sipush (v := 400) C.1 C.2.1 dX3_init_5 (by decide) ?_
  refine m_newa (N := 400) C hW hS (Or.inr (Or.inl ⟨rfl, rfl⟩)) tw_87 (by decide) (by decide) (by decide) (Nat.le_of_ble_eq_true rfl) (Nat.le_of_ble_eq_true rfl) dX3_init_8 (fun q1 H hq1 hW hS => ?_)
  have hw := hw q1 hq1
  obtain ⟨hk2, hw⟩ := hw
  refine m_putR C hW hS rfl hk2 p_X3_11 (fun _ => rfl) rfl dX3_init_10 (fun H locs hW hS => ?_)
  exact m_vret C hW hS hw dX3_init_13
def wp_X3_put_L32 (l0 : Nat) (l4 : Int64) (K74 : Hp → Int32 → Prop) (Q : Hp → Prop) : Nat → Hp → Int32 → Prop
  | 0, _, _ => False
  | n + 1, S, l6 => (l6 ≤ 0 → K74 S l6) ∧ (¬ (l6 ≤ 0) → hK S l0 = 5 ∧ ∃ b7 : Nat, (hR S l0 0) = some b7 ∧ hK S b7 = 16 ∧ vp_in (l6 - 1) (hN S b7) ∧ ((hJ S b7 ((l6 - 1) : Int32).toNatClampNeg) ≤ l4 → K74 S l6) ∧ (¬ ((hJ S b7 ((l6 - 1) : Int32).toNatClampNeg) ≤ l4) → vp_in (l6 - 1) (hN S b7) ∧ vp_in l6 (hN S b7) ∧ wp_X3_put_L32 l0 l4 K74 Q n (sJ S b7 (l6 : Int32).toNatClampNeg (hJ S b7 ((l6 - 1) : Int32).toNatClampNeg)) (l6 + (-1))))
def wp_X3_put (S : Hp) (a0 : Nat) (a1 : Int32) (a2 : Int32) (a3 : Int32) (Q : Hp → Prop) : Prop := hK S a0 = 5 ∧ ((hI S a0 1) < 400 → ∀ z3 : Int64, z3 = ((((((a1 : Int32).toInt64) <<< ((3 : Int32).toInt64 &&& 63)) ||| ((a2 : Int32).toInt64)) <<< ((8 : Int32).toInt64 &&& 63)) ||| ((a3 : Int32).toInt64)) → ∀ x4 : Int32, x4 = (hI S a0 1) → wp_X3_put_L32 a0 z3 (fun (S13 : Hp) (x14 : Int32) => hK S13 a0 = 5 ∧ ∃ b16 : Nat, (hR S13 a0 0) = some b16 ∧ hK S13 b16 = 16 ∧ vp_in x14 (hN S13 b16) ∧ Q (sI (sJ S13 b16 (x14 : Int32).toNatClampNeg z3) a0 1 ((hI (sJ S13 b16 (x14 : Int32).toNatClampNeg z3) a0 1) + 1))) Q FU S x4) ∧ (¬ ((hI S a0 1) < 400) → Q S)
set_option maxRecDepth 100000 in
set_option maxHeartbeats 4000000 in
theorem w_X3_put_L32 {p : Program} {l : Launch} {e : Env} {s : State} {m : MethodId} {args : Array Value} {below : List Frame} {meth : Method} {c : Code} {G : GX} {Q : Hp → Prop} {K74 : Hp → Int32 → Prop} {l0 : Nat} {l4 : Int64} (C : Cx p s m args meth c cX3_put 7 RX3 none "put" G)
    (k74 : ∀ (S : Hp) (l6 : Int32) (H : Heap) (locs : List Loc) (ls : Array Slot), wd G S H → va_S G.2.2.1 s.heap H locs → LV ls 7 → ls[0]? = some (.val (va_rf (some l0))) → ls[4]? = some (.val (.long l4)) → ls[6]? = some (.val (.int l6)) → K74 S l6 → W p l e ({ frames := 0, cells := 0, slots := 0, locals := 0 } : Room) s m args below meth c H locs 0 0 (MQ below (QV G Q) args s 0 0 G.2.2.1) (F0 m 74 ls [])) :
    ∀ (n : Nat) (S : Hp) (l6 : Int32) (H : Heap) (locs : List Loc) (ls : Array Slot), wd G S H → va_S G.2.2.1 s.heap H locs → LV ls 7 → ls[0]? = some (.val (va_rf (some l0))) → ls[4]? = some (.val (.long l4)) → ls[6]? = some (.val (.int l6)) → wp_X3_put_L32 l0 l4 K74 Q n S l6 → W p l e ({ frames := 0, cells := 0, slots := 0, locals := 0 } : Room) s m args below meth c H locs 0 0 (MQ below (QV G Q) args s 0 0 G.2.2.1) (F0 m 32 ls []) := by
  intro n
  induction n with
  | zero =>
    intro S l6 H locs ls hW hS hL h0 h4 h6 hw
    exact False.elim hw
  | succ n ih =>
    intro S l6 H locs ls hW hS hL h0 h4 h6 hw
    unfold wp_X3_put_L32 at hw
    refine lv_iload C.1 C.2.1 dX3_put_32 h6 ?_
    refine lv_if_le (tgt := 74) C.1 C.2.1 dX3_put_34 (by decide) (fun hc5 => ?_) (fun hc5 => ?_)
    · have hw := hw.1 hc5
      exact k74 S l6 H locs ls hW hS hL h0 h4 h6 hw
    · have hw := hw.2 hc5
      refine m_aldN C dX3_put_37 rfl h0 ?_
      obtain ⟨hk6, hw⟩ := hw
      refine m_getR C hW rfl hk6 f_X3_11 rfl dX3_put_38 ?_
      refine lv_iload C.1 C.2.1 dX3_put_41 h6 ?_
      refine lv_iconst (v := 1) C.1 C.2.1 dX3_put_43 (by decide) ?_
      refine lv_isub C.1 C.2.1 dX3_put_44 ?_
      obtain ⟨b7, ho7, hw⟩ := hw
      obtain ⟨hk8, hw⟩ := hw
      obtain ⟨hi9, hw⟩ := hw
      refine m_lald C hW ho7 hk8 hi9 dX3_put_45 ?_
      refine lv_lload C.1 C.2.1 dX3_put_46 h4 ?_
      refine W.lcmp C.1 C.2.1 dX3_put_48 ?_
      refine lv_if_le (tgt := 74) C.1 C.2.1 dX3_put_49 (by decide) (fun hc10 => ?_) (fun hc10 => ?_)
      · have hw := hw.1 ((q_le _ _).mp hc10)
        exact k74 S l6 H locs ls hW hS hL h0 h4 h6 hw
      · have hw := hw.2 (fun z => hc10 ((q_le _ _).mpr z))
        refine m_aldN C dX3_put_52 rfl h0 ?_
        refine m_getR C hW rfl hk6 f_X3_11 rfl dX3_put_53 ?_
        refine lv_iload C.1 C.2.1 dX3_put_56 h6 ?_
        refine m_aldN C dX3_put_58 rfl h0 ?_
        refine m_getR C hW rfl hk6 f_X3_11 rfl dX3_put_59 ?_
        refine lv_iload C.1 C.2.1 dX3_put_62 h6 ?_
        refine lv_iconst (v := 1) C.1 C.2.1 dX3_put_64 (by decide) ?_
        refine lv_isub C.1 C.2.1 dX3_put_65 ?_
        obtain ⟨hi11, hw⟩ := hw
        refine m_lald C hW ho7 hk8 hi11 dX3_put_66 ?_
        obtain ⟨hi12, hw⟩ := hw
        refine m_last C hW hS ho7 hk8 hi12 dX3_put_67 (fun H locs hW hS => ?_)
        refine m_iinc (v := (l6 + (-1))) C hL dX3_put_68 h6 rfl (by decide) (fun ls hL hn9 hk9 => ?_)
        have h0 := hk9 0 _ h0 (by decide) (Or.inl (by decide))
        have h4 := hk9 4 _ h4 (by decide) (Or.inl (by decide))
        have h6 := hn9
        refine lv_goto (tgt := 32) C.1 C.2.1 dX3_put_71 (by decide) ?_
        exact ih (sJ S b7 (l6 : Int32).toNatClampNeg (hJ S b7 ((l6 - 1) : Int32).toNatClampNeg)) (l6 + (-1)) H locs ls hW hS hL h0 h4 h6 hw
set_option maxRecDepth 100000 in
set_option maxHeartbeats 4000000 in
theorem c_X3_put {l : Launch} {G : GX} {S : Hp} {a0 : Nat} {a1 : Int32} {a2 : Int32} {a3 : Int32} {Q : Hp → Prop} (hw : wp_X3_put S a0 a1 a2 a3 Q) : Met l yX3_put (Cond.code yX3_put cX3_put 7 none :: TS) { frames := 0, cells := 0, slots := 0, locals := 0 } (Pk G S [va_rf (some a0), .int a1, .int a2, .int a3]) (QV G Q) 0 0 G.2.2.1 := by
  refine m_met (by decide) ?_
  intro p e s m below meth c H locs C hW hS
  have C : Cx p s m ([va_rf (some a0), .int a1, .int a2, .int a3] : List Value).toArray meth c cX3_put 7 RX3 none "put" G := C
  obtain ⟨ls, hent, hL, hla⟩ := m_entry m (vs := [va_rf (some a0), .int a1, .int a2, .int a3]) (nn := 7) [1, 1, 1, 1] rfl (by decide)
  rw [hent]
  have h0 : ls[0]? = some (.val (va_rf (some a0))) := hla (0, va_rf (some a0)) (List.mem_of_getElem? (i := 0) rfl)
  have h1 : ls[1]? = some (.val (.int a1)) := hla (1, .int a1) (List.mem_of_getElem? (i := 1) rfl)
  have h2 : ls[2]? = some (.val (.int a2)) := hla (2, .int a2) (List.mem_of_getElem? (i := 2) rfl)
  have h3 : ls[3]? = some (.val (.int a3)) := hla (3, .int a3) (List.mem_of_getElem? (i := 3) rfl)
  clear hla
  generalize ([va_rf (some a0), .int a1, .int a2, .int a3] : List Value).toArray = args at C ⊢
  unfold wp_X3_put at hw
  refine m_aldN C dX3_put_0 rfl h0 ?_
  obtain ⟨hk1, hw⟩ := hw
  refine m_getI C hW rfl hk1 f_X3_15 rfl dX3_put_1 ?_
  refine lv_sipush (v := 400) C.1 C.2.1 dX3_put_4 (by decide) ?_
  refine lv_icmp_lt (tgt := 11) C.1 C.2.1 dX3_put_7 (by decide) (fun hc2 => ?_) (fun hc2 => ?_)
  · have hw := hw.1 hc2
    refine lv_iload_n C.1 C.2.1 dX3_put_11 rfl h1 ?_
    refine lv_i2l (v := ((a1 : Int32).toInt64)) C.1 C.2.1 dX3_put_12 rfl ?_
    refine lv_iconst (v := 3) C.1 C.2.1 dX3_put_13 (by decide) ?_
    refine lv_lshl (v := (((a1 : Int32).toInt64) <<< ((3 : Int32).toInt64 &&& 63))) C.1 C.2.1 dX3_put_14 rfl ?_
    refine lv_iload_n C.1 C.2.1 dX3_put_15 rfl h2 ?_
    refine lv_i2l (v := ((a2 : Int32).toInt64)) C.1 C.2.1 dX3_put_16 rfl ?_
    refine lv_lor C.1 C.2.1 dX3_put_17 ?_
    refine lv_bipush (v := 8) C.1 C.2.1 dX3_put_18 (by decide) ?_
    refine lv_lshl (v := (((((a1 : Int32).toInt64) <<< ((3 : Int32).toInt64 &&& 63)) ||| ((a2 : Int32).toInt64)) <<< ((8 : Int32).toInt64 &&& 63))) C.1 C.2.1 dX3_put_20 rfl ?_
    refine lv_iload_n C.1 C.2.1 dX3_put_21 rfl h3 ?_
    refine lv_i2l (v := ((a3 : Int32).toInt64)) C.1 C.2.1 dX3_put_22 rfl ?_
    refine lv_lor C.1 C.2.1 dX3_put_23 ?_
    refine lv_topl (fun z3 ez3 => ?_)
    have hw := hw z3 ez3
    refine m_lst C hL dX3_put_24 (by decide) (fun ls hL hn9 hk9 => ?_)
    have h0 := hk9 0 _ h0 (by decide) (by decide) (Or.inl (by decide))
    have h4 := hn9
    refine m_aldN C dX3_put_26 rfl h0 ?_
    refine m_getI C hW rfl hk1 f_X3_15 rfl dX3_put_27 ?_
    refine lv_topi (fun x4 ex4 => ?_)
    have hw := hw x4 ex4
    refine m_ist C hL dX3_put_30 (by decide) (fun ls hL hn9 hk9 => ?_)
    have h0 := hk9 0 _ h0 (by decide) (Or.inl (by decide))
    have h4 := hk9 4 _ h4 (by decide) (Or.inl (by decide))
    have h6 := hn9
    refine w_X3_put_L32 C ?_ FU S x4 H locs ls hW hS hL h0 h4 h6 hw
    · intro S13 x14 H locs ls hW hS hL h0 h4 h6 hw
      refine m_aldN C dX3_put_74 rfl h0 ?_
      obtain ⟨hk15, hw⟩ := hw
      refine m_getR C hW rfl hk15 f_X3_11 rfl dX3_put_75 ?_
      refine lv_iload C.1 C.2.1 dX3_put_78 h6 ?_
      refine lv_lload C.1 C.2.1 dX3_put_80 h4 ?_
      obtain ⟨b16, ho16, hw⟩ := hw
      obtain ⟨hk17, hw⟩ := hw
      obtain ⟨hi18, hw⟩ := hw
      refine m_last C hW hS ho16 hk17 hi18 dX3_put_82 (fun H locs hW hS => ?_)
      refine m_aldN C dX3_put_83 rfl h0 ?_
      refine lv_dup C.1 C.2.1 dX3_put_84 (va_rf_cat _) ?_
      refine m_getI C hW rfl hk15 f_X3_15 rfl dX3_put_85 ?_
      refine lv_iconst (v := 1) C.1 C.2.1 dX3_put_88 (by decide) ?_
      refine lv_iadd C.1 C.2.1 dX3_put_89 ?_
      refine m_putI C hW hS rfl hk15 p_X3_15 (fun z => by cases z) rfl dX3_put_90 (fun H locs hW hS => ?_)
      exact m_vret C hW hS hw dX3_put_93
  · have hw := hw.2 hc2
    exact m_vret C hW hS hw dX3_put_10
