def wp_X12_nextOfChain_L4 (S : Hp) (l0 : Nat) (l1 : Int32) (Q : Int32 → Hp → Prop) : Nat → Int32 → Int32 → Prop
  | 0, _, _ => False
  | n + 1, l2, l3 => hK S l0 = 14 ∧ ((hI S l0 4) ≤ l3 → Q l2 S) ∧ (¬ ((hI S l0 4) ≤ l3) → ∃ J4 : Prop, J4 = ((l2 = (-1) → wp_X12_nextOfChain_L4 S l0 l1 Q n l3 (l3 + 1)) ∧ (¬ (l2 = (-1)) → ∃ b10 : Nat, (hR S l0 46) = some b10 ∧ hK S b10 = 15 ∧ vp_in l3 (hN S b10) ∧ vp_in l2 (hN S b10) ∧ ((hI S b10 (l3 : Int32).toNatClampNeg) ≤ (hI S b10 (l2 : Int32).toNatClampNeg) → wp_X12_nextOfChain_L4 S l0 l1 Q n l2 (l3 + 1)) ∧ (¬ ((hI S b10 (l3 : Int32).toNatClampNeg) ≤ (hI S b10 (l2 : Int32).toNatClampNeg)) → wp_X12_nextOfChain_L4 S l0 l1 Q n l3 (l3 + 1)))) ∧ (l1 = (-1) → J4 ) ∧ (¬ (l1 = (-1)) → ∃ b5 : Nat, (hR S l0 10) = some b5 ∧ hK S b5 = 17 ∧ vp_in ((200 * l3) + l1) (hN S b5) ∧ ((hI S b5 (((200 * l3) + l1) : Int32).toNatClampNeg) = 0 → wp_X12_nextOfChain_L4 S l0 l1 Q n l2 (l3 + 1)) ∧ (¬ ((hI S b5 (((200 * l3) + l1) : Int32).toNatClampNeg) = 0) → J4 )))
def wp_X12_nextOfChain (S : Hp) (a0 : Nat) (a1 : Int32) (Q : Int32 → Hp → Prop) : Prop := wp_X12_nextOfChain_L4 S a0 a1 Q FU (-1) 0
set_option maxRecDepth 100000 in
set_option maxHeartbeats 4000000 in
theorem w_X12_nextOfChain_L4 {p : Program} {l : Launch} {e : Env} {s : State} {m : MethodId} {args : Array Value} {below : List Frame} {meth : Method} {c : Code} {G : GX} {Q : Int32 → Hp → Prop} {l0 : Nat} {l1 : Int32} {S : Hp} {H : Heap} {locs : List Loc} (C : Cx p s m args meth c cX12_nextOfChain 4 RX12 (some .int) "nextOfChain" G) (hW : wd G S H) (hS : va_S G.2.2.1 s.heap H locs) :
    ∀ (n : Nat) (l2 : Int32) (l3 : Int32) (ls : Array Slot), LV ls 4 → ls[0]? = some (.val (va_rf (some l0))) → ls[1]? = some (.val (.int l1)) → ls[2]? = some (.val (.int l2)) → ls[3]? = some (.val (.int l3)) → wp_X12_nextOfChain_L4 S l0 l1 Q n l2 l3 → W p l e ({ frames := 0, cells := 0, slots := 0, locals := 0 } : Room) s m args below meth c H locs 0 0 (MQ below (QI G Q) args s 0 0 G.2.2.1) (F0 m 4 ls []) := by
  intro n
  induction n with
  | zero =>
    intro l2 l3 ls hL h0 h1 h2 h3 hw
    exact False.elim hw
  | succ n ih =>
    intro l2 l3 ls hL h0 h1 h2 h3 hw
    unfold wp_X12_nextOfChain_L4 at hw
    refine lv_iload_n C.1 C.2.1 dX12_nextOfChain_4 rfl h3 ?_
    refine m_aldN C dX12_nextOfChain_5 rfl h0 ?_
    obtain ⟨hk1, hw⟩ := hw
    refine m_getI C hW rfl hk1 f_X12_128 rfl dX12_nextOfChain_6 ?_
    refine lv_icmp_ge (tgt := 60) C.1 C.2.1 dX12_nextOfChain_9 (by decide) (fun hc2 => ?_) (fun hc2 => ?_)
    · have hw := hw.1 hc2
      refine lv_iload_n C.1 C.2.1 dX12_nextOfChain_60 rfl h2 ?_
      exact m_iret C hW hS hw dX12_nextOfChain_61
    · have hw := hw.2 hc2
      refine lv_iload_n C.1 C.2.1 dX12_nextOfChain_12 rfl h1 ?_
      refine lv_iconst (v := (-1)) C.1 C.2.1 dX12_nextOfChain_13 (by decide) ?_
      obtain ⟨J4, eJ4, hw⟩ := hw
      have wJ4 : ∀  (ls : Array Slot), LV ls 4 → ls[0]? = some (.val (va_rf (some l0))) → ls[1]? = some (.val (.int l1)) → ls[2]? = some (.val (.int l2)) → ls[3]? = some (.val (.int l3)) → J4  → W p l e ({ frames := 0, cells := 0, slots := 0, locals := 0 } : Room) s m args below meth c H locs 0 0 (MQ below (QI G Q) args s 0 0 G.2.2.1) (F0 m 32 ls []) := by
        intro  ls hL h0 h1 h2 h3 hw
        rw [eJ4] at hw
        refine lv_iload_n C.1 C.2.1 dX12_nextOfChain_32 rfl h2 ?_
        refine lv_iconst (v := (-1)) C.1 C.2.1 dX12_nextOfChain_33 (by decide) ?_
        refine lv_icmp_eq (tgt := 52) C.1 C.2.1 dX12_nextOfChain_34 (by decide) (fun hc9 => ?_) (fun hc9 => ?_)
        · have hw := hw.1 hc9
          refine lv_iload_n C.1 C.2.1 dX12_nextOfChain_52 rfl h3 ?_
          refine m_istN C hL dX12_nextOfChain_53 rfl (by decide) (fun ls hL hn9 hk9 => ?_)
          have h0 := hk9 0 _ h0 (by decide) (Or.inl (by decide))
          have h1 := hk9 1 _ h1 (by decide) (Or.inr (rfl))
          have h3 := hk9 3 _ h3 (by decide) (Or.inl (by decide))
          have h2 := hn9
          refine m_iinc (v := (l3 + 1)) C hL dX12_nextOfChain_54 h3 rfl (by decide) (fun ls hL hn9 hk9 => ?_)
          have h0 := hk9 0 _ h0 (by decide) (Or.inl (by decide))
          have h1 := hk9 1 _ h1 (by decide) (Or.inl (by decide))
          have h2 := hk9 2 _ h2 (by decide) (Or.inr (rfl))
          have h3 := hn9
          refine lv_goto (tgt := 4) C.1 C.2.1 dX12_nextOfChain_57 (by decide) ?_
          exact ih l3 (l3 + 1) ls hL h0 h1 h2 h3 hw
        · have hw := hw.2 hc9
          refine m_aldN C dX12_nextOfChain_37 rfl h0 ?_
          refine m_getR C hW rfl hk1 f_X12_118 rfl dX12_nextOfChain_38 ?_
          refine lv_iload_n C.1 C.2.1 dX12_nextOfChain_41 rfl h3 ?_
          obtain ⟨b10, ho10, hw⟩ := hw
          obtain ⟨hk11, hw⟩ := hw
          obtain ⟨hi12, hw⟩ := hw
          refine m_iald C hW ho10 hk11 hi12 dX12_nextOfChain_42 ?_
          refine m_aldN C dX12_nextOfChain_43 rfl h0 ?_
          refine m_getR C hW rfl hk1 f_X12_118 rfl dX12_nextOfChain_44 ?_
          refine lv_iload_n C.1 C.2.1 dX12_nextOfChain_47 rfl h2 ?_
          obtain ⟨hi13, hw⟩ := hw
          refine m_iald C hW ho10 hk11 hi13 dX12_nextOfChain_48 ?_
          refine lv_icmp_le (tgt := 54) C.1 C.2.1 dX12_nextOfChain_49 (by decide) (fun hc14 => ?_) (fun hc14 => ?_)
          · have hw := hw.1 hc14
            refine m_iinc (v := (l3 + 1)) C hL dX12_nextOfChain_54 h3 rfl (by decide) (fun ls hL hn9 hk9 => ?_)
            have h0 := hk9 0 _ h0 (by decide) (Or.inl (by decide))
            have h1 := hk9 1 _ h1 (by decide) (Or.inl (by decide))
            have h2 := hk9 2 _ h2 (by decide) (Or.inr (rfl))
            have h3 := hn9
            refine lv_goto (tgt := 4) C.1 C.2.1 dX12_nextOfChain_57 (by decide) ?_
            exact ih l2 (l3 + 1) ls hL h0 h1 h2 h3 hw
          · have hw := hw.2 hc14
            refine lv_iload_n C.1 C.2.1 dX12_nextOfChain_52 rfl h3 ?_
            refine m_istN C hL dX12_nextOfChain_53 rfl (by decide) (fun ls hL hn9 hk9 => ?_)
            have h0 := hk9 0 _ h0 (by decide) (Or.inl (by decide))
            have h1 := hk9 1 _ h1 (by decide) (Or.inr (rfl))
            have h3 := hk9 3 _ h3 (by decide) (Or.inl (by decide))
            have h2 := hn9
            refine m_iinc (v := (l3 + 1)) C hL dX12_nextOfChain_54 h3 rfl (by decide) (fun ls hL hn9 hk9 => ?_)
            have h0 := hk9 0 _ h0 (by decide) (Or.inl (by decide))
            have h1 := hk9 1 _ h1 (by decide) (Or.inl (by decide))
            have h2 := hk9 2 _ h2 (by decide) (Or.inr (rfl))
            have h3 := hn9
            refine lv_goto (tgt := 4) C.1 C.2.1 dX12_nextOfChain_57 (by decide) ?_
            exact ih l3 (l3 + 1) ls hL h0 h1 h2 h3 hw
      refine lv_icmp_eq (tgt := 32) C.1 C.2.1 dX12_nextOfChain_14 (by decide) (fun hc3 => ?_) (fun hc3 => ?_)
      · have hw := hw.1 hc3
        exact wJ4  ls hL h0 h1 h2 h3 hw
      · have hw := hw.2 hc3
        refine m_aldN C dX12_nextOfChain_17 rfl h0 ?_
        refine m_getR C hW rfl hk1 f_X12_26 rfl dX12_nextOfChain_18 ?_
        refine lv_sipush (v := 200) C.1 C.2.1 dX12_nextOfChain_21 (by decide) ?_
        refine lv_iload_n C.1 C.2.1 dX12_nextOfChain_24 rfl h3 ?_
        refine lv_imul C.1 C.2.1 dX12_nextOfChain_25 ?_
        refine lv_iload_n C.1 C.2.1 dX12_nextOfChain_26 rfl h1 ?_
        refine lv_iadd C.1 C.2.1 dX12_nextOfChain_27 ?_
        obtain ⟨b5, ho5, hw⟩ := hw
        obtain ⟨hk6, hw⟩ := hw
        obtain ⟨hi7, hw⟩ := hw
        refine m_zald C hW ho5 hk6 hi7 dX12_nextOfChain_28 ?_
        refine lv_if_eq (tgt := 54) C.1 C.2.1 dX12_nextOfChain_29 (by decide) (fun hc8 => ?_) (fun hc8 => ?_)
        · have hw := hw.1 hc8
          refine m_iinc (v := (l3 + 1)) C hL dX12_nextOfChain_54 h3 rfl (by decide) (fun ls hL hn9 hk9 => ?_)
          have h0 := hk9 0 _ h0 (by decide) (Or.inl (by decide))
          have h1 := hk9 1 _ h1 (by decide) (Or.inl (by decide))
          have h2 := hk9 2 _ h2 (by decide) (Or.inr (rfl))
          have h3 := hn9
          refine lv_goto (tgt := 4) C.1 C.2.1 dX12_nextOfChain_57 (by decide) ?_
          exact ih l2 (l3 + 1) ls hL h0 h1 h2 h3 hw
        · have hw := hw.2 hc8
          exact wJ4  ls hL h0 h1 h2 h3 hw
set_option maxRecDepth 100000 in
set_option maxHeartbeats 4000000 in
theorem c_X12_nextOfChain {l : Launch} {G : GX} {S : Hp} {a0 : Nat} {a1 : Int32} {Q : Int32 → Hp → Prop} (hw : wp_X12_nextOfChain S a0 a1 Q) : Met l yX12_nextOfChain (Cond.code yX12_nextOfChain cX12_nextOfChain 4 (some .int) :: TS) { frames := 0, cells := 0, slots := 0, locals := 0 } (Pk G S [va_rf (some a0), .int a1]) (QI G Q) 0 0 G.2.2.1 := by
  refine m_met (by decide) ?_
  intro p e s m below meth c H locs C hW hS
  have C : Cx p s m ([va_rf (some a0), .int a1] : List Value).toArray meth c cX12_nextOfChain 4 RX12 (some .int) "nextOfChain" G := C
  obtain ⟨ls, hent, hL, hla⟩ := m_entry m (vs := [va_rf (some a0), .int a1]) (nn := 4) [1, 1] rfl (by decide)
  rw [hent]
  have h0 : ls[0]? = some (.val (va_rf (some a0))) := hla (0, va_rf (some a0)) (List.mem_of_getElem? (i := 0) rfl)
  have h1 : ls[1]? = some (.val (.int a1)) := hla (1, .int a1) (List.mem_of_getElem? (i := 1) rfl)
  clear hla
  generalize ([va_rf (some a0), .int a1] : List Value).toArray = args at C ⊢
  unfold wp_X12_nextOfChain at hw
  refine lv_iconst (v := (-1)) C.1 C.2.1 dX12_nextOfChain_0 (by decide) ?_
  refine m_istN C hL dX12_nextOfChain_1 rfl (by decide) (fun ls hL hn9 hk9 => ?_)
  have h0 := hk9 0 _ h0 (by decide) (Or.inl (by decide))
  have h1 := hk9 1 _ h1 (by decide) (Or.inr (rfl))
  have h2 := hn9
  refine lv_iconst (v := 0) C.1 C.2.1 dX12_nextOfChain_2 (by decide) ?_
  refine m_istN C hL dX12_nextOfChain_3 rfl (by decide) (fun ls hL hn9 hk9 => ?_)
  have h0 := hk9 0 _ h0 (by decide) (Or.inl (by decide))
  have h1 := hk9 1 _ h1 (by decide) (Or.inl (by decide))
  have h2 := hk9 2 _ h2 (by decide) (Or.inr (rfl))
  have h3 := hn9
  exact w_X12_nextOfChain_L4 C hW hS  FU (-1) 0 ls hL h0 h1 h2 h3 hw
def wp_X12_critical_L24 (l0 : Nat) (l1 : Int32) (Q : Int32 → Hp → Prop) : Nat → Hp → Int32 → Int32 → Prop
  | 0, _, _, _ => False
  | n + 1, S, l2, l3 => (l1 ≤ l3 → Q l2 S) ∧ (¬ (l1 ≤ l3) → (l2 = (-1) → Q l2 S) ∧ (¬ (l2 = (-1)) → hK S l0 = 14 ∧ wp_X12_nextOfChain S l0 l2 (fun r12 S11 => wp_X12_critical_L24 l0 l1 Q n S11 r12 (l3 + 1))))
def wp_X12_critical (S : Hp) (a0 : Nat) (a1 : Int32) (Q : Int32 → Hp → Prop) : Prop := hK S a0 = 14 ∧ (0 ≤ a1 → wp_X12_lengths (sI S a0 0 0) a0 (fun r4 S3 => hK S3 a0 = 14 ∧ wp_X12_nextOfChain S3 a0 (-1) (fun r7 S6 => wp_X12_critical_L24 a0 a1 Q FU S6 r7 0))) ∧ (¬ (0 ≤ a1) → Q (-1) (sI S a0 0 0))
set_option maxRecDepth 100000 in
set_option maxHeartbeats 4000000 in
theorem w_X12_critical_L24 {p : Program} {l : Launch} {e : Env} {s : State} {m : MethodId} {args : Array Value} {below : List Frame} {meth : Method} {c : Code} {G : GX} {Q : Int32 → Hp → Prop} {l0 : Nat} {l1 : Int32} (C : Cx p s m args meth c cX12_critical 4 RX12 (some .int) "critical" G) :
    ∀ (n : Nat) (S : Hp) (l2 : Int32) (l3 : Int32) (H : Heap) (locs : List Loc) (ls : Array Slot), wd G S H → va_S G.2.2.1 s.heap H locs → LV ls 4 → ls[0]? = some (.val (va_rf (some l0))) → ls[1]? = some (.val (.int l1)) → ls[2]? = some (.val (.int l2)) → ls[3]? = some (.val (.int l3)) → wp_X12_critical_L24 l0 l1 Q n S l2 l3 → W p l e ({ frames := 2, cells := 0, slots := 0, locals := 44 } : Room) s m args below meth c H locs 0 0 (MQ below (QI G Q) args s 0 0 G.2.2.1) (F0 m 24 ls []) := by
  intro n
  induction n with
  | zero =>
    intro S l2 l3 H locs ls hW hS hL h0 h1 h2 h3 hw
    exact False.elim hw
  | succ n ih =>
    intro S l2 l3 H locs ls hW hS hL h0 h1 h2 h3 hw
    unfold wp_X12_critical_L24 at hw
    refine lv_iload_n C.1 C.2.1 dX12_critical_24 rfl h3 ?_
    refine lv_iload_n C.1 C.2.1 dX12_critical_25 rfl h1 ?_
    refine lv_icmp_ge (tgt := 46) C.1 C.2.1 dX12_critical_26 (by decide) (fun hc8 => ?_) (fun hc8 => ?_)
    · have hw := hw.1 hc8
      refine lv_iload_n C.1 C.2.1 dX12_critical_46 rfl h2 ?_
      exact m_iret C hW hS hw dX12_critical_47
    · have hw := hw.2 hc8
      refine lv_iload_n C.1 C.2.1 dX12_critical_29 rfl h2 ?_
      refine lv_iconst (v := (-1)) C.1 C.2.1 dX12_critical_30 (by decide) ?_
      refine lv_icmp_eq (tgt := 46) C.1 C.2.1 dX12_critical_31 (by decide) (fun hc9 => ?_) (fun hc9 => ?_)
      · have hw := hw.1 hc9
        refine lv_iload_n C.1 C.2.1 dX12_critical_46 rfl h2 ?_
        exact m_iret C hW hS hw dX12_critical_47
      · have hw := hw.2 hc9
        refine m_aldN C dX12_critical_34 rfl h0 ?_
        refine lv_iload_n C.1 C.2.1 dX12_critical_35 rfl h2 ?_
        obtain ⟨hk10, hw⟩ := hw
        refine m_rI (m_runV (As := [.int l2]) (rest := []) C hW hS hL (c_X12_nextOfChain hw) v_X12_298 ⟨rfl, rfl⟩ ⟨Nat.le_of_ble_eq_true rfl, Nat.le_of_ble_eq_true rfl⟩ rfl hk10 rfl rfl (Nat.le_of_ble_eq_true rfl) dX12_critical_36 ⟨Nat.le_of_ble_eq_true rfl, Nat.le_of_ble_eq_true rfl⟩) hS (fun r12 S11 H locs hw hW hS => ?_)
        refine m_istN C hL dX12_critical_39 rfl (by decide) (fun ls hL hn9 hk9 => ?_)
        have h0 := hk9 0 _ h0 (by decide) (Or.inl (by decide))
        have h1 := hk9 1 _ h1 (by decide) (Or.inr (rfl))
        have h3 := hk9 3 _ h3 (by decide) (Or.inl (by decide))
        have h2 := hn9
        refine m_iinc (v := (l3 + 1)) C hL dX12_critical_40 h3 rfl (by decide) (fun ls hL hn9 hk9 => ?_)
        have h0 := hk9 0 _ h0 (by decide) (Or.inl (by decide))
        have h1 := hk9 1 _ h1 (by decide) (Or.inl (by decide))
        have h2 := hk9 2 _ h2 (by decide) (Or.inr (rfl))
        have h3 := hn9
        refine lv_goto (tgt := 24) C.1 C.2.1 dX12_critical_43 (by decide) ?_
        exact ih S11 r12 (l3 + 1) H locs ls hW hS hL h0 h1 h2 h3 hw
set_option maxRecDepth 100000 in
set_option maxHeartbeats 4000000 in
theorem c_X12_critical {l : Launch} {G : GX} {S : Hp} {a0 : Nat} {a1 : Int32} {Q : Int32 → Hp → Prop} (hw : wp_X12_critical S a0 a1 Q) : Met l yX12_critical (Cond.code yX12_critical cX12_critical 4 (some .int) :: TS) { frames := 2, cells := 0, slots := 0, locals := 44 } (Pk G S [va_rf (some a0), .int a1]) (QI G Q) 0 0 G.2.2.1 := by
  refine m_met (by decide) ?_
  intro p e s m below meth c H locs C hW hS
  have C : Cx p s m ([va_rf (some a0), .int a1] : List Value).toArray meth c cX12_critical 4 RX12 (some .int) "critical" G := C
  obtain ⟨ls, hent, hL, hla⟩ := m_entry m (vs := [va_rf (some a0), .int a1]) (nn := 4) [1, 1] rfl (by decide)
  rw [hent]
  have h0 : ls[0]? = some (.val (va_rf (some a0))) := hla (0, va_rf (some a0)) (List.mem_of_getElem? (i := 0) rfl)
  have h1 : ls[1]? = some (.val (.int a1)) := hla (1, .int a1) (List.mem_of_getElem? (i := 1) rfl)
  clear hla
  generalize ([va_rf (some a0), .int a1] : List Value).toArray = args at C ⊢
  unfold wp_X12_critical at hw
  refine m_aldN C dX12_critical_0 rfl h0 ?_
  refine lv_iconst (v := 0) C.1 C.2.1 dX12_critical_1 (by decide) ?_
  obtain ⟨hk1, hw⟩ := hw
  refine m_putI C hW hS rfl hk1 p_X12_124 (fun z => by cases z) rfl dX12_critical_2 (fun H locs hW hS => ?_)
  refine lv_iload_n C.1 C.2.1 dX12_critical_5 rfl h1 ?_
  refine lv_if_ge (tgt := 11) C.1 C.2.1 dX12_critical_6 (by decide) (fun hc2 => ?_) (fun hc2 => ?_)
  · have hw := hw.1 hc2
    refine m_aldN C dX12_critical_11 rfl h0 ?_
    refine m_rI (m_runV (As := []) (rest := []) C hW hS hL (c_X12_lengths hw) v_X12_294 ⟨rfl, rfl⟩ ⟨Nat.le_of_ble_eq_true rfl, Nat.le_of_ble_eq_true rfl⟩ rfl hk1 rfl rfl (Nat.le_of_ble_eq_true rfl) dX12_critical_12 ⟨Nat.le_of_ble_eq_true rfl, Nat.le_of_ble_eq_true rfl⟩) hS (fun r4 S3 H locs hw hW hS => ?_)
    refine lv_pop C.1 C.2.1 dX12_critical_15 (rfl) ?_
    refine m_aldN C dX12_critical_16 rfl h0 ?_
    refine lv_iconst (v := (-1)) C.1 C.2.1 dX12_critical_17 (by decide) ?_
    obtain ⟨hk5, hw⟩ := hw
    refine m_rI (m_runV (As := [.int (-1)]) (rest := []) C hW hS hL (c_X12_nextOfChain hw) v_X12_298 ⟨rfl, rfl⟩ ⟨Nat.le_of_ble_eq_true rfl, Nat.le_of_ble_eq_true rfl⟩ rfl hk5 rfl rfl (Nat.le_of_ble_eq_true rfl) dX12_critical_18 ⟨Nat.le_of_ble_eq_true rfl, Nat.le_of_ble_eq_true rfl⟩) hS (fun r7 S6 H locs hw hW hS => ?_)
    refine m_istN C hL dX12_critical_21 rfl (by decide) (fun ls hL hn9 hk9 => ?_)
    have h0 := hk9 0 _ h0 (by decide) (Or.inl (by decide))
    have h1 := hk9 1 _ h1 (by decide) (Or.inr (rfl))
    have h2 := hn9
    refine lv_iconst (v := 0) C.1 C.2.1 dX12_critical_22 (by decide) ?_
    refine m_istN C hL dX12_critical_23 rfl (by decide) (fun ls hL hn9 hk9 => ?_)
    have h0 := hk9 0 _ h0 (by decide) (Or.inl (by decide))
    have h1 := hk9 1 _ h1 (by decide) (Or.inl (by decide))
    have h2 := hk9 2 _ h2 (by decide) (Or.inr (rfl))
    have h3 := hn9
    exact w_X12_critical_L24 C  FU S6 r7 0 H locs ls hW hS hL h0 h1 h2 h3 hw
  · have hw := hw.2 hc2
    refine lv_iconst (v := (-1)) C.1 C.2.1 dX12_critical_9 (by decide) ?_
    exact m_iret C hW hS hw dX12_critical_10
def wp_X12_slack (S : Hp) (a0 : Nat) (a1 : Int32) (Q : Int32 → Hp → Prop) : Prop := hK S a0 = 14 ∧ wp_X12_isJob S a0 a1 (fun r3 S2 => ∃ J5 : Option Nat → Int32 → Prop, J5 = (fun (o6 : Option Nat) (x7 : Int32) => ∃ b8 : Nat, o6 = some b8 ∧ hK S2 b8 = 14 ∧ hK (sI S2 b8 0 x7) a0 = 14 ∧ ((hI (sI S2 b8 0 x7) a0 0) ≤ 0 → wp_X12_lengths (sI S2 b8 0 x7) a0 (fun r13 S12 => hK S12 a0 = 14 ∧ ∃ b15 : Nat, (hR S12 a0 47) = some b15 ∧ hK S12 b15 = 15 ∧ vp_in a1 (hN S12 b15) ∧ ∃ b18 : Nat, (hR S12 a0 46) = some b18 ∧ hK S12 b18 = 15 ∧ vp_in a1 (hN S12 b18) ∧ ∃ b21 : Nat, (hR S12 a0 8) = some b21 ∧ hK S12 b21 = 15 ∧ vp_in a1 (hN S12 b21) ∧ Q (((r13 - (hI S12 b15 (a1 : Int32).toNatClampNeg)) - (hI S12 b18 (a1 : Int32).toNatClampNeg)) + (hI S12 b21 (a1 : Int32).toNatClampNeg)) S12)) ∧ (¬ ((hI (sI S2 b8 0 x7) a0 0) ≤ 0) → Q 0 (sI S2 b8 0 x7))) ∧ (r3 = 0 → J5 (some a0) 1) ∧ (¬ (r3 = 0) → J5 (some a0) 0))
set_option maxRecDepth 100000 in
set_option maxHeartbeats 4000000 in
theorem c_X12_slack {l : Launch} {G : GX} {S : Hp} {a0 : Nat} {a1 : Int32} {Q : Int32 → Hp → Prop} (hw : wp_X12_slack S a0 a1 Q) : Met l yX12_slack (Cond.code yX12_slack cX12_slack 2 (some .int) :: TS) { frames := 2, cells := 0, slots := 0, locals := 44 } (Pk G S [va_rf (some a0), .int a1]) (QI G Q) 0 0 G.2.2.1 := by
  refine m_met (by decide) ?_
  intro p e s m below meth c H locs C hW hS
  have C : Cx p s m ([va_rf (some a0), .int a1] : List Value).toArray meth c cX12_slack 2 RX12 (some .int) "slack" G := C
  obtain ⟨ls, hent, hL, hla⟩ := m_entry m (vs := [va_rf (some a0), .int a1]) (nn := 2) [1, 1] rfl (by decide)
  rw [hent]
  have h0 : ls[0]? = some (.val (va_rf (some a0))) := hla (0, va_rf (some a0)) (List.mem_of_getElem? (i := 0) rfl)
  have h1 : ls[1]? = some (.val (.int a1)) := hla (1, .int a1) (List.mem_of_getElem? (i := 1) rfl)
  clear hla
  generalize ([va_rf (some a0), .int a1] : List Value).toArray = args at C ⊢
  unfold wp_X12_slack at hw
  refine m_aldN C dX12_slack_0 rfl h0 ?_
  refine m_aldN C dX12_slack_1 rfl h0 ?_
  refine lv_iload_n C.1 C.2.1 dX12_slack_2 rfl h1 ?_
  obtain ⟨hk1, hw⟩ := hw
  refine m_rI (m_runV (As := [.int a1]) (rest := [va_rf (some a0)]) C hW hS hL (c_X12_isJob hw) v_X12_154 ⟨rfl, rfl⟩ ⟨Nat.le_of_ble_eq_true rfl, Nat.le_of_ble_eq_true rfl⟩ rfl hk1 rfl rfl (by simp only [List.map_cons, List.map_nil, va_rf_cat, List.sum_cons, List.sum_nil] <;> exact Nat.le_of_ble_eq_true rfl) dX12_slack_3 ⟨Nat.le_of_ble_eq_true rfl, Nat.le_of_ble_eq_true rfl⟩) hS (fun r3 S2 H locs hw hW hS => ?_)
  obtain ⟨J5, eJ5, hw⟩ := hw
  have wJ5 : ∀ (o6 : Option Nat) (x7 : Int32) (ls : Array Slot), LV ls 2 → ls[0]? = some (.val (va_rf (some a0))) → ls[1]? = some (.val (.int a1)) → J5 o6 x7 → W p l e ({ frames := 2, cells := 0, slots := 0, locals := 44 } : Room) s m args below meth c H locs 0 0 (MQ below (QI G Q) args s 0 0 G.2.2.1) (F0 m 14 ls [.int x7, va_rf o6]) := by
    intro o6 x7 ls hL h0 h1 hw
    rw [eJ5] at hw
    obtain ⟨b8, ho8, hw⟩ := hw
    obtain ⟨hk9, hw⟩ := hw
    refine m_putI C hW hS ho8 hk9 p_X12_124 (fun z => by cases z) rfl dX12_slack_14 (fun H locs hW hS => ?_)
    refine m_aldN C dX12_slack_17 rfl h0 ?_
    obtain ⟨hk10, hw⟩ := hw
    refine m_getI C hW rfl hk10 f_X12_124 rfl dX12_slack_18 ?_
    refine lv_if_le (tgt := 26) C.1 C.2.1 dX12_slack_21 (by decide) (fun hc11 => ?_) (fun hc11 => ?_)
    · have hw := hw.1 hc11
      refine m_aldN C dX12_slack_26 rfl h0 ?_
      refine m_rI (m_runV (As := []) (rest := []) C hW hS hL (c_X12_lengths hw) v_X12_294 ⟨rfl, rfl⟩ ⟨Nat.le_of_ble_eq_true rfl, Nat.le_of_ble_eq_true rfl⟩ rfl hk10 rfl rfl (Nat.le_of_ble_eq_true rfl) dX12_slack_27 ⟨Nat.le_of_ble_eq_true rfl, Nat.le_of_ble_eq_true rfl⟩) hS (fun r13 S12 H locs hw hW hS => ?_)
      refine m_aldN C dX12_slack_30 rfl h0 ?_
      obtain ⟨hk14, hw⟩ := hw
      refine m_getR C hW rfl hk14 f_X12_121 rfl dX12_slack_31 ?_
      refine lv_iload_n C.1 C.2.1 dX12_slack_34 rfl h1 ?_
      obtain ⟨b15, ho15, hw⟩ := hw
      obtain ⟨hk16, hw⟩ := hw
      obtain ⟨hi17, hw⟩ := hw
      refine m_iald C hW ho15 hk16 hi17 dX12_slack_35 ?_
      refine lv_isub C.1 C.2.1 dX12_slack_36 ?_
      refine m_aldN C dX12_slack_37 rfl h0 ?_
      refine m_getR C hW rfl hk14 f_X12_118 rfl dX12_slack_38 ?_
      refine lv_iload_n C.1 C.2.1 dX12_slack_41 rfl h1 ?_
      obtain ⟨b18, ho18, hw⟩ := hw
      obtain ⟨hk19, hw⟩ := hw
      obtain ⟨hi20, hw⟩ := hw
      refine m_iald C hW ho18 hk19 hi20 dX12_slack_42 ?_
      refine lv_isub C.1 C.2.1 dX12_slack_43 ?_
      refine m_aldN C dX12_slack_44 rfl h0 ?_
      refine m_getR C hW rfl hk14 f_X12_19 rfl dX12_slack_45 ?_
      refine lv_iload_n C.1 C.2.1 dX12_slack_48 rfl h1 ?_
      obtain ⟨b21, ho21, hw⟩ := hw
      obtain ⟨hk22, hw⟩ := hw
      obtain ⟨hi23, hw⟩ := hw
      refine m_iald C hW ho21 hk22 hi23 dX12_slack_49 ?_
      refine lv_iadd C.1 C.2.1 dX12_slack_50 ?_
      exact m_iret C hW hS hw dX12_slack_51
    · have hw := hw.2 hc11
      refine lv_iconst (v := 0) C.1 C.2.1 dX12_slack_24 (by decide) ?_
      exact m_iret C hW hS hw dX12_slack_25
  refine lv_if_eq (tgt := 13) C.1 C.2.1 dX12_slack_6 (by decide) (fun hc4 => ?_) (fun hc4 => ?_)
  · have hw := hw.1 hc4
    refine lv_iconst (v := 1) C.1 C.2.1 dX12_slack_13 (by decide) ?_
    exact wJ5 (some a0) 1 ls hL h0 h1 hw
  · have hw := hw.2 hc4
    refine lv_iconst (v := 0) C.1 C.2.1 dX12_slack_9 (by decide) ?_
    refine lv_goto (tgt := 14) C.1 C.2.1 dX12_slack_10 (by decide) ?_
    exact wJ5 (some a0) 0 ls hL h0 h1 hw
def wp_X12_leans (S : Hp) (a0 : Nat) (a1 : Int32) (a2 : Int32) (Q : Int32 → Hp → Prop) : Prop := hK S a0 = 14 ∧ wp_X12_isJob S a0 a1 (fun r3 S2 => ∃ J6 : Hp → Option Nat → Int32 → Prop, J6 = (fun (S13 : Hp) (o14 : Option Nat) (x15 : Int32) => ∃ b16 : Nat, o14 = some b16 ∧ hK S13 b16 = 14 ∧ hK (sI S13 b16 0 x15) a0 = 14 ∧ ((hI (sI S13 b16 0 x15) a0 0) = 0 → ∃ b20 : Nat, (hR (sI S13 b16 0 x15) a0 11) = some b20 ∧ hK (sI S13 b16 0 x15) b20 = 17 ∧ vp_in ((200 * a1) + a2) (hN (sI S13 b16 0 x15) b20) ∧ ((hI (sI S13 b16 0 x15) b20 (((200 * a1) + a2) : Int32).toNatClampNeg) = 0 → Q 0 (sI S13 b16 0 x15)) ∧ (¬ ((hI (sI S13 b16 0 x15) b20 (((200 * a1) + a2) : Int32).toNatClampNeg) = 0) → Q 1 (sI S13 b16 0 x15))) ∧ (¬ ((hI (sI S13 b16 0 x15) a0 0) = 0) → Q 0 (sI S13 b16 0 x15))) ∧ ∃ J5 : Hp → Option Nat → Prop, J5 = (fun (S11 : Hp) (o12 : Option Nat) => J6 S11 o12 1) ∧ (r3 = 0 → J5 S2 (some a0)) ∧ (¬ (r3 = 0) → hK S2 a0 = 14 ∧ wp_X12_isJob S2 a0 a2 (fun r9 S8 => (r9 = 0 → J5 S8 (some a0)) ∧ (¬ (r9 = 0) → J6 S8 (some a0) 0))))
set_option maxRecDepth 100000 in
set_option maxHeartbeats 4000000 in
theorem c_X12_leans {l : Launch} {G : GX} {S : Hp} {a0 : Nat} {a1 : Int32} {a2 : Int32} {Q : Int32 → Hp → Prop} (hw : wp_X12_leans S a0 a1 a2 Q) : Met l yX12_leans (Cond.code yX12_leans cX12_leans 3 (some .boolean) :: TS) { frames := 1, cells := 0, slots := 0, locals := 21 } (Pk G S [va_rf (some a0), .int a1, .int a2]) (QI G Q) 0 0 G.2.2.1 := by
  refine m_met (by decide) ?_
  intro p e s m below meth c H locs C hW hS
  have C : Cx p s m ([va_rf (some a0), .int a1, .int a2] : List Value).toArray meth c cX12_leans 3 RX12 (some .boolean) "leans" G := C
  obtain ⟨ls, hent, hL, hla⟩ := m_entry m (vs := [va_rf (some a0), .int a1, .int a2]) (nn := 3) [1, 1, 1] rfl (by decide)
  rw [hent]
  have h0 : ls[0]? = some (.val (va_rf (some a0))) := hla (0, va_rf (some a0)) (List.mem_of_getElem? (i := 0) rfl)
  have h1 : ls[1]? = some (.val (.int a1)) := hla (1, .int a1) (List.mem_of_getElem? (i := 1) rfl)
  have h2 : ls[2]? = some (.val (.int a2)) := hla (2, .int a2) (List.mem_of_getElem? (i := 2) rfl)
  clear hla
  generalize ([va_rf (some a0), .int a1, .int a2] : List Value).toArray = args at C ⊢
  unfold wp_X12_leans at hw
  refine m_aldN C dX12_leans_0 rfl h0 ?_
  refine m_aldN C dX12_leans_1 rfl h0 ?_
  refine lv_iload_n C.1 C.2.1 dX12_leans_2 rfl h1 ?_
  obtain ⟨hk1, hw⟩ := hw
  refine m_rI (m_runV (As := [.int a1]) (rest := [va_rf (some a0)]) C hW hS hL (c_X12_isJob hw) v_X12_154 ⟨rfl, rfl⟩ ⟨Nat.le_of_ble_eq_true rfl, Nat.le_of_ble_eq_true rfl⟩ rfl hk1 rfl rfl (by simp only [List.map_cons, List.map_nil, va_rf_cat, List.sum_cons, List.sum_nil] <;> exact Nat.le_of_ble_eq_true rfl) dX12_leans_3 ⟨Nat.le_of_ble_eq_true rfl, Nat.le_of_ble_eq_true rfl⟩) hS (fun r3 S2 H locs hw hW hS => ?_)
  obtain ⟨J6, eJ6, hw⟩ := hw
  have wJ6 : ∀ (S13 : Hp) (o14 : Option Nat) (x15 : Int32) (H : Heap) (locs : List Loc) (ls : Array Slot), wd G S13 H → va_S G.2.2.1 s.heap H locs → LV ls 3 → ls[0]? = some (.val (va_rf (some a0))) → ls[1]? = some (.val (.int a1)) → ls[2]? = some (.val (.int a2)) → J6 S13 o14 x15 → W p l e ({ frames := 1, cells := 0, slots := 0, locals := 21 } : Room) s m args below meth c H locs 0 0 (MQ below (QI G Q) args s 0 0 G.2.2.1) (F0 m 22 ls [.int x15, va_rf o14]) := by
    intro S13 o14 x15 H locs ls hW hS hL h0 h1 h2 hw
    rw [eJ6] at hw
    obtain ⟨b16, ho16, hw⟩ := hw
    obtain ⟨hk17, hw⟩ := hw
    refine m_putI C hW hS ho16 hk17 p_X12_124 (fun z => by cases z) rfl dX12_leans_22 (fun H locs hW hS => ?_)
    refine m_aldN C dX12_leans_25 rfl h0 ?_
    obtain ⟨hk18, hw⟩ := hw
    refine m_getI C hW rfl hk18 f_X12_124 rfl dX12_leans_26 ?_
    refine lv_if_ne (tgt := 51) C.1 C.2.1 dX12_leans_29 (by decide) (fun hc19 => ?_) (fun hc19 => ?_)
    · have hw := hw.2 hc19
      refine lv_iconst (v := 0) C.1 C.2.1 dX12_leans_51 (by decide) ?_
      exact m_zret C hW hS (by decide) hw dX12_leans_52
    · have hw := hw.1 hc19
      refine m_aldN C dX12_leans_32 rfl h0 ?_
      refine m_getR C hW rfl hk18 f_X12_30 rfl dX12_leans_33 ?_
      refine lv_sipush (v := 200) C.1 C.2.1 dX12_leans_36 (by decide) ?_
      refine lv_iload_n C.1 C.2.1 dX12_leans_39 rfl h1 ?_
      refine lv_imul C.1 C.2.1 dX12_leans_40 ?_
      refine lv_iload_n C.1 C.2.1 dX12_leans_41 rfl h2 ?_
      refine lv_iadd C.1 C.2.1 dX12_leans_42 ?_
      obtain ⟨b20, ho20, hw⟩ := hw
      obtain ⟨hk21, hw⟩ := hw
      obtain ⟨hi22, hw⟩ := hw
      refine m_zald C hW ho20 hk21 hi22 dX12_leans_43 ?_
      refine lv_if_eq (tgt := 51) C.1 C.2.1 dX12_leans_44 (by decide) (fun hc23 => ?_) (fun hc23 => ?_)
      · have hw := hw.1 hc23
        refine lv_iconst (v := 0) C.1 C.2.1 dX12_leans_51 (by decide) ?_
        exact m_zret C hW hS (by decide) hw dX12_leans_52
      · have hw := hw.2 hc23
        refine lv_iconst (v := 1) C.1 C.2.1 dX12_leans_47 (by decide) ?_
        refine lv_goto (tgt := 52) C.1 C.2.1 dX12_leans_48 (by decide) ?_
        exact m_zret C hW hS (by decide) hw dX12_leans_52
  obtain ⟨J5, eJ5, hw⟩ := hw
  have wJ5 : ∀ (S11 : Hp) (o12 : Option Nat) (H : Heap) (locs : List Loc) (ls : Array Slot), wd G S11 H → va_S G.2.2.1 s.heap H locs → LV ls 3 → ls[0]? = some (.val (va_rf (some a0))) → ls[1]? = some (.val (.int a1)) → ls[2]? = some (.val (.int a2)) → J5 S11 o12 → W p l e ({ frames := 1, cells := 0, slots := 0, locals := 21 } : Room) s m args below meth c H locs 0 0 (MQ below (QI G Q) args s 0 0 G.2.2.1) (F0 m 21 ls [va_rf o12]) := by
    intro S11 o12 H locs ls hW hS hL h0 h1 h2 hw
    rw [eJ5] at hw
    refine lv_iconst (v := 1) C.1 C.2.1 dX12_leans_21 (by decide) ?_
    exact wJ6 S11 o12 1 H locs ls hW hS hL h0 h1 h2 hw
  refine lv_if_eq (tgt := 21) C.1 C.2.1 dX12_leans_6 (by decide) (fun hc4 => ?_) (fun hc4 => ?_)
  · have hw := hw.1 hc4
    exact wJ5 S2 (some a0) H locs ls hW hS hL h0 h1 h2 hw
  · have hw := hw.2 hc4
    refine m_aldN C dX12_leans_9 rfl h0 ?_
    refine lv_iload_n C.1 C.2.1 dX12_leans_10 rfl h2 ?_
    obtain ⟨hk7, hw⟩ := hw
    refine m_rI (m_runV (As := [.int a2]) (rest := [va_rf (some a0)]) C hW hS hL (c_X12_isJob hw) v_X12_154 ⟨rfl, rfl⟩ ⟨Nat.le_of_ble_eq_true rfl, Nat.le_of_ble_eq_true rfl⟩ rfl hk7 rfl rfl (by simp only [List.map_cons, List.map_nil, va_rf_cat, List.sum_cons, List.sum_nil] <;> exact Nat.le_of_ble_eq_true rfl) dX12_leans_11 ⟨Nat.le_of_ble_eq_true rfl, Nat.le_of_ble_eq_true rfl⟩) hS (fun r9 S8 H locs hw hW hS => ?_)
    refine lv_if_eq (tgt := 21) C.1 C.2.1 dX12_leans_14 (by decide) (fun hc10 => ?_) (fun hc10 => ?_)
    · have hw := hw.1 hc10
      exact wJ5 S8 (some a0) H locs ls hW hS hL h0 h1 h2 hw
    · have hw := hw.2 hc10
      refine lv_iconst (v := 0) C.1 C.2.1 dX12_leans_17 (by decide) ?_
      refine lv_goto (tgt := 22) C.1 C.2.1 dX12_leans_18 (by decide) ?_
      exact wJ6 S8 (some a0) 0 H locs ls hW hS hL h0 h1 h2 hw
def wp_X12_audit (S : Hp) (a0 : Nat) (Q : Int32 → Hp → Prop) : Prop := hK S a0 = 14 ∧ ((hI (sI S a0 0 0) a0 22) = 0 → Q 0 (sI S a0 0 0)) ∧ (¬ ((hI (sI S a0 0 0) a0 22) = 0) → Q (hI (sI S a0 0 0) a0 39) (sI S a0 0 0))
set_option maxRecDepth 100000 in
set_option maxHeartbeats 4000000 in
theorem c_X12_audit {l : Launch} {G : GX} {S : Hp} {a0 : Nat} {Q : Int32 → Hp → Prop} (hw : wp_X12_audit S a0 Q) : Met l yX12_audit (Cond.code yX12_audit cX12_audit 1 (some .int) :: TS) { frames := 0, cells := 0, slots := 0, locals := 0 } (Pk G S [va_rf (some a0)]) (QI G Q) 0 0 G.2.2.1 := by
  refine m_met (by decide) ?_
  intro p e s m below meth c H locs C hW hS
  have C : Cx p s m ([va_rf (some a0)] : List Value).toArray meth c cX12_audit 1 RX12 (some .int) "audit" G := C
  obtain ⟨ls, hent, hL, hla⟩ := m_entry m (vs := [va_rf (some a0)]) (nn := 1) [1] rfl (by decide)
  rw [hent]
  have h0 : ls[0]? = some (.val (va_rf (some a0))) := hla (0, va_rf (some a0)) (List.mem_of_getElem? (i := 0) rfl)
  clear hla
  generalize ([va_rf (some a0)] : List Value).toArray = args at C ⊢
  unfold wp_X12_audit at hw
  refine m_aldN C dX12_audit_0 rfl h0 ?_
  refine lv_iconst (v := 0) C.1 C.2.1 dX12_audit_1 (by decide) ?_
  obtain ⟨hk1, hw⟩ := hw
  refine m_putI C hW hS rfl hk1 p_X12_124 (fun z => by cases z) rfl dX12_audit_2 (fun H locs hW hS => ?_)
  refine m_aldN C dX12_audit_5 rfl h0 ?_
  refine m_getI C hW rfl hk1 f_X12_131 rfl dX12_audit_6 ?_
  refine lv_if_eq (tgt := 19) C.1 C.2.1 dX12_audit_9 (by decide) (fun hc2 => ?_) (fun hc2 => ?_)
  · have hw := hw.1 hc2
    refine lv_iconst (v := 0) C.1 C.2.1 dX12_audit_19 (by decide) ?_
    exact m_iret C hW hS hw dX12_audit_20
  · have hw := hw.2 hc2
    refine m_aldN C dX12_audit_12 rfl h0 ?_
    refine m_getI C hW rfl hk1 f_X12_205 rfl dX12_audit_13 ?_
    refine lv_goto (tgt := 20) C.1 C.2.1 dX12_audit_16 (by decide) ?_
    exact m_iret C hW hS hw dX12_audit_20
def wp_X12_count_L153 (l0 : Nat) (Q : Int32 → Hp → Prop) : Nat → Hp → Int32 → Int32 → Prop
  | 0, _, _, _ => False
  | n + 1, S, l2, l3 => (l3 = (-1) → Q l2 S) ∧ (¬ (l3 = (-1)) → hK S l0 = 14 ∧ wp_X12_nextOfChain S l0 l3 (fun r24 S23 => wp_X12_count_L153 l0 Q n S23 (l2 + 1) r24))
def wp_X12_count (S : Hp) (a0 : Nat) (a1 : Int32) (Q : Int32 → Hp → Prop) : Prop := hK S a0 = 14 ∧ (a1 = 0 → Q (hI (sI S a0 0 0) a0 1) (sI S a0 0 0)) ∧ (¬ (a1 = 0) → (a1 = 1 → Q (hI (sI S a0 0 0) a0 2) (sI S a0 0 0)) ∧ (¬ (a1 = 1) → (a1 = 2 → Q (hI (sI S a0 0 0) a0 3) (sI S a0 0 0)) ∧ (¬ (a1 = 2) → (a1 = 3 → Q (hI (sI S a0 0 0) a0 4) (sI S a0 0 0)) ∧ (¬ (a1 = 3) → (a1 = 4 → ((hI (sI S a0 0 0) a0 22) = 0 → Q (-1) (sI S a0 0 0)) ∧ (¬ ((hI (sI S a0 0 0) a0 22) = 0) → Q (hI (sI S a0 0 0) a0 23) (sI S a0 0 0))) ∧ (¬ (a1 = 4) → (a1 = 5 → ((hI (sI S a0 0 0) a0 22) = 0 → Q 0 (sI S a0 0 0)) ∧ (¬ ((hI (sI S a0 0 0) a0 22) = 0) → Q (hI (sI S a0 0 0) a0 25) (sI S a0 0 0))) ∧ (¬ (a1 = 5) → (a1 = 6 → ((hI (sI S a0 0 0) a0 22) = 0 → Q 0 (sI S a0 0 0)) ∧ (¬ ((hI (sI S a0 0 0) a0 22) = 0) → ((hI (sI S a0 0 0) a0 25) ≤ 0 → Q 0 (sI S a0 0 0)) ∧ (¬ ((hI (sI S a0 0 0) a0 25) ≤ 0) → ∃ b12 : Nat, (hR (sI S a0 0 0) a0 36) = some b12 ∧ hK (sI S a0 0 0) b12 = 15 ∧ vp_in ((hI (sI S a0 0 0) a0 25) - 1) (hN (sI S a0 0 0) b12) ∧ Q (hI (sI S a0 0 0) b12 (((hI (sI S a0 0 0) a0 25) - 1) : Int32).toNatClampNeg) (sI S a0 0 0)))) ∧ (¬ (a1 = 6) → (a1 = 7 → wp_X12_lengths (sI S a0 0 0) a0 (fun r17 S16 => hK S16 a0 = 14 ∧ wp_X12_nextOfChain S16 a0 (-1) (fun r20 S19 => wp_X12_count_L153 a0 Q FU S19 0 r20))) ∧ (¬ (a1 = 7) → (a1 = 8 → wp_X12_lengths (sI S a0 0 0) a0 (fun r27 S26 => Q r27 S26)) ∧ (¬ (a1 = 8) → Q (-1) (sI S a0 0 0))))))))))
set_option maxRecDepth 100000 in
set_option maxHeartbeats 4000000 in
theorem w_X12_count_L153 {p : Program} {l : Launch} {e : Env} {s : State} {m : MethodId} {args : Array Value} {below : List Frame} {meth : Method} {c : Code} {G : GX} {Q : Int32 → Hp → Prop} {l0 : Nat} (C : Cx p s m args meth c cX12_count 4 RX12 (some .int) "count" G) :
    ∀ (n : Nat) (S : Hp) (l2 : Int32) (l3 : Int32) (H : Heap) (locs : List Loc) (ls : Array Slot), wd G S H → va_S G.2.2.1 s.heap H locs → LV ls 4 → ls[0]? = some (.val (va_rf (some l0))) → ls[2]? = some (.val (.int l2)) → ls[3]? = some (.val (.int l3)) → wp_X12_count_L153 l0 Q n S l2 l3 → W p l e ({ frames := 2, cells := 0, slots := 0, locals := 44 } : Room) s m args below meth c H locs 0 0 (MQ below (QI G Q) args s 0 0 G.2.2.1) (F0 m 153 ls []) := by
  intro n
  induction n with
  | zero =>
    intro S l2 l3 H locs ls hW hS hL h0 h2 h3 hw
    exact False.elim hw
  | succ n ih =>
    intro S l2 l3 H locs ls hW hS hL h0 h2 h3 hw
    unfold wp_X12_count_L153 at hw
    refine lv_iload_n C.1 C.2.1 dX12_count_153 rfl h3 ?_
    refine lv_iconst (v := (-1)) C.1 C.2.1 dX12_count_154 (by decide) ?_
    refine lv_icmp_eq (tgt := 170) C.1 C.2.1 dX12_count_155 (by decide) (fun hc21 => ?_) (fun hc21 => ?_)
    · have hw := hw.1 hc21
      refine lv_iload_n C.1 C.2.1 dX12_count_170 rfl h2 ?_
      exact m_iret C hW hS hw dX12_count_171
    · have hw := hw.2 hc21
      refine m_iinc (v := (l2 + 1)) C hL dX12_count_158 h2 rfl (by decide) (fun ls hL hn9 hk9 => ?_)
      have h0 := hk9 0 _ h0 (by decide) (Or.inl (by decide))
      have h3 := hk9 3 _ h3 (by decide) (Or.inl (by decide))
      have h2 := hn9
      refine m_aldN C dX12_count_161 rfl h0 ?_
      refine lv_iload_n C.1 C.2.1 dX12_count_162 rfl h3 ?_
      obtain ⟨hk22, hw⟩ := hw
      refine m_rI (m_runV (As := [.int l3]) (rest := []) C hW hS hL (c_X12_nextOfChain hw) v_X12_298 ⟨rfl, rfl⟩ ⟨Nat.le_of_ble_eq_true rfl, Nat.le_of_ble_eq_true rfl⟩ rfl hk22 rfl rfl (Nat.le_of_ble_eq_true rfl) dX12_count_163 ⟨Nat.le_of_ble_eq_true rfl, Nat.le_of_ble_eq_true rfl⟩) hS (fun r24 S23 H locs hw hW hS => ?_)
      refine m_istN C hL dX12_count_166 rfl (by decide) (fun ls hL hn9 hk9 => ?_)
      have h0 := hk9 0 _ h0 (by decide) (Or.inl (by decide))
      have h2 := hk9 2 _ h2 (by decide) (Or.inr (rfl))
      have h3 := hn9
      refine lv_goto (tgt := 153) C.1 C.2.1 dX12_count_167 (by decide) ?_
      exact ih S23 (l2 + 1) r24 H locs ls hW hS hL h0 h2 h3 hw
set_option maxRecDepth 100000 in
set_option maxHeartbeats 4000000 in
theorem c_X12_count {l : Launch} {G : GX} {S : Hp} {a0 : Nat} {a1 : Int32} {Q : Int32 → Hp → Prop} (hw : wp_X12_count S a0 a1 Q) : Met l yX12_count (Cond.code yX12_count cX12_count 4 (some .int) :: TS) { frames := 2, cells := 0, slots := 0, locals := 44 } (Pk G S [va_rf (some a0), .int a1]) (QI G Q) 0 0 G.2.2.1 := by
  refine m_met (by decide) ?_
  intro p e s m below meth c H locs C hW hS
  have C : Cx p s m ([va_rf (some a0), .int a1] : List Value).toArray meth c cX12_count 4 RX12 (some .int) "count" G := C
  obtain ⟨ls, hent, hL, hla⟩ := m_entry m (vs := [va_rf (some a0), .int a1]) (nn := 4) [1, 1] rfl (by decide)
  rw [hent]
  have h0 : ls[0]? = some (.val (va_rf (some a0))) := hla (0, va_rf (some a0)) (List.mem_of_getElem? (i := 0) rfl)
  have h1 : ls[1]? = some (.val (.int a1)) := hla (1, .int a1) (List.mem_of_getElem? (i := 1) rfl)
  clear hla
  generalize ([va_rf (some a0), .int a1] : List Value).toArray = args at C ⊢
  unfold wp_X12_count at hw
  refine m_aldN C dX12_count_0 rfl h0 ?_
  refine lv_iconst (v := 0) C.1 C.2.1 dX12_count_1 (by decide) ?_
  obtain ⟨hk1, hw⟩ := hw
  refine m_putI C hW hS rfl hk1 p_X12_124 (fun z => by cases z) rfl dX12_count_2 (fun H locs hW hS => ?_)
  refine lv_iconst (v := 0) C.1 C.2.1 dX12_count_5 (by decide) ?_
  refine m_istN C hL dX12_count_6 rfl (by decide) (fun ls hL hn9 hk9 => ?_)
  have h0 := hk9 0 _ h0 (by decide) (Or.inl (by decide))
  have h1 := hk9 1 _ h1 (by decide) (Or.inr (rfl))
  have h2 := hn9
  refine lv_iload_n C.1 C.2.1 dX12_count_7 rfl h1 ?_
  by_cases hc2 : a1 = 0
  · have hw := hw.1 hc2
    refine lv_tableIn (tgt := 60) (off := 52) C.1 C.2.1 dX12_count_8 (by rw [hc2]; decide) (by rw [hc2]; decide) (by rw [hc2]; rfl) (by decide) ?_
    refine m_aldN C dX12_count_60 rfl h0 ?_
    refine m_getI C hW rfl hk1 f_X12_135 rfl dX12_count_61 ?_
    exact m_iret C hW hS hw dX12_count_64
  · have hw := hw.2 hc2
    by_cases hc3 : a1 = 1
    · have hw := hw.1 hc3
      refine lv_tableIn (tgt := 65) (off := 57) C.1 C.2.1 dX12_count_8 (by rw [hc3]; decide) (by rw [hc3]; decide) (by rw [hc3]; rfl) (by decide) ?_
      refine m_aldN C dX12_count_65 rfl h0 ?_
      refine m_getI C hW rfl hk1 f_X12_138 rfl dX12_count_66 ?_
      exact m_iret C hW hS hw dX12_count_69
    · have hw := hw.2 hc3
      by_cases hc4 : a1 = 2
      · have hw := hw.1 hc4
        refine lv_tableIn (tgt := 70) (off := 62) C.1 C.2.1 dX12_count_8 (by rw [hc4]; decide) (by rw [hc4]; decide) (by rw [hc4]; rfl) (by decide) ?_
        refine m_aldN C dX12_count_70 rfl h0 ?_
        refine m_getI C hW rfl hk1 f_X12_145 rfl dX12_count_71 ?_
        exact m_iret C hW hS hw dX12_count_74
      · have hw := hw.2 hc4
        by_cases hc5 : a1 = 3
        · have hw := hw.1 hc5
          refine lv_tableIn (tgt := 75) (off := 67) C.1 C.2.1 dX12_count_8 (by rw [hc5]; decide) (by rw [hc5]; decide) (by rw [hc5]; rfl) (by decide) ?_
          refine m_aldN C dX12_count_75 rfl h0 ?_
          refine m_getI C hW rfl hk1 f_X12_128 rfl dX12_count_76 ?_
          exact m_iret C hW hS hw dX12_count_79
        · have hw := hw.2 hc5
          by_cases hc7 : a1 = 4
          · have hw := hw.1 hc7
            refine lv_tableIn (tgt := 80) (off := 72) C.1 C.2.1 dX12_count_8 (by rw [hc7]; decide) (by rw [hc7]; decide) (by rw [hc7]; rfl) (by decide) ?_
            refine m_aldN C dX12_count_80 rfl h0 ?_
            refine m_getI C hW rfl hk1 f_X12_131 rfl dX12_count_81 ?_
            refine lv_if_eq (tgt := 94) C.1 C.2.1 dX12_count_84 (by decide) (fun hc6 => ?_) (fun hc6 => ?_)
            · have hw := hw.1 hc6
              refine lv_iconst (v := (-1)) C.1 C.2.1 dX12_count_94 (by decide) ?_
              exact m_iret C hW hS hw dX12_count_95
            · have hw := hw.2 hc6
              refine m_aldN C dX12_count_87 rfl h0 ?_
              refine m_getI C hW rfl hk1 f_X12_278 rfl dX12_count_88 ?_
              refine lv_goto (tgt := 95) C.1 C.2.1 dX12_count_91 (by decide) ?_
              exact m_iret C hW hS hw dX12_count_95
          · have hw := hw.2 hc7
            by_cases hc9 : a1 = 5
            · have hw := hw.1 hc9
              refine lv_tableIn (tgt := 96) (off := 88) C.1 C.2.1 dX12_count_8 (by rw [hc9]; decide) (by rw [hc9]; decide) (by rw [hc9]; rfl) (by decide) ?_
              refine m_aldN C dX12_count_96 rfl h0 ?_
              refine m_getI C hW rfl hk1 f_X12_131 rfl dX12_count_97 ?_
              refine lv_if_eq (tgt := 110) C.1 C.2.1 dX12_count_100 (by decide) (fun hc8 => ?_) (fun hc8 => ?_)
              · have hw := hw.1 hc8
                refine lv_iconst (v := 0) C.1 C.2.1 dX12_count_110 (by decide) ?_
                exact m_iret C hW hS hw dX12_count_111
              · have hw := hw.2 hc8
                refine m_aldN C dX12_count_103 rfl h0 ?_
                refine m_getI C hW rfl hk1 f_X12_199 rfl dX12_count_104 ?_
                refine lv_goto (tgt := 111) C.1 C.2.1 dX12_count_107 (by decide) ?_
                exact m_iret C hW hS hw dX12_count_111
            · have hw := hw.2 hc9
              by_cases hc15 : a1 = 6
              · have hw := hw.1 hc15
                refine lv_tableIn (tgt := 112) (off := 104) C.1 C.2.1 dX12_count_8 (by rw [hc15]; decide) (by rw [hc15]; decide) (by rw [hc15]; rfl) (by decide) ?_
                refine m_aldN C dX12_count_112 rfl h0 ?_
                refine m_getI C hW rfl hk1 f_X12_131 rfl dX12_count_113 ?_
                refine lv_if_eq (tgt := 140) C.1 C.2.1 dX12_count_116 (by decide) (fun hc10 => ?_) (fun hc10 => ?_)
                · have hw := hw.1 hc10
                  refine lv_iconst (v := 0) C.1 C.2.1 dX12_count_140 (by decide) ?_
                  exact m_iret C hW hS hw dX12_count_141
                · have hw := hw.2 hc10
                  refine m_aldN C dX12_count_119 rfl h0 ?_
                  refine m_getI C hW rfl hk1 f_X12_199 rfl dX12_count_120 ?_
                  refine lv_if_le (tgt := 140) C.1 C.2.1 dX12_count_123 (by decide) (fun hc11 => ?_) (fun hc11 => ?_)
                  · have hw := hw.1 hc11
                    refine lv_iconst (v := 0) C.1 C.2.1 dX12_count_140 (by decide) ?_
                    exact m_iret C hW hS hw dX12_count_141
                  · have hw := hw.2 hc11
                    refine m_aldN C dX12_count_126 rfl h0 ?_
                    refine m_getR C hW rfl hk1 f_X12_94 rfl dX12_count_127 ?_
                    refine m_aldN C dX12_count_130 rfl h0 ?_
                    refine m_getI C hW rfl hk1 f_X12_199 rfl dX12_count_131 ?_
                    refine lv_iconst (v := 1) C.1 C.2.1 dX12_count_134 (by decide) ?_
                    refine lv_isub C.1 C.2.1 dX12_count_135 ?_
                    obtain ⟨b12, ho12, hw⟩ := hw
                    obtain ⟨hk13, hw⟩ := hw
                    obtain ⟨hi14, hw⟩ := hw
                    refine m_iald C hW ho12 hk13 hi14 dX12_count_136 ?_
                    refine lv_goto (tgt := 141) C.1 C.2.1 dX12_count_137 (by decide) ?_
                    exact m_iret C hW hS hw dX12_count_141
              · have hw := hw.2 hc15
                by_cases hc25 : a1 = 7
                · have hw := hw.1 hc25
                  refine lv_tableIn (tgt := 142) (off := 134) C.1 C.2.1 dX12_count_8 (by rw [hc25]; decide) (by rw [hc25]; decide) (by rw [hc25]; rfl) (by decide) ?_
                  refine m_aldN C dX12_count_142 rfl h0 ?_
                  refine m_rI (m_runV (As := []) (rest := []) C hW hS hL (c_X12_lengths hw) v_X12_294 ⟨rfl, rfl⟩ ⟨Nat.le_of_ble_eq_true rfl, Nat.le_of_ble_eq_true rfl⟩ rfl hk1 rfl rfl (Nat.le_of_ble_eq_true rfl) dX12_count_143 ⟨Nat.le_of_ble_eq_true rfl, Nat.le_of_ble_eq_true rfl⟩) hS (fun r17 S16 H locs hw hW hS => ?_)
                  refine lv_pop C.1 C.2.1 dX12_count_146 (rfl) ?_
                  refine m_aldN C dX12_count_147 rfl h0 ?_
                  refine lv_iconst (v := (-1)) C.1 C.2.1 dX12_count_148 (by decide) ?_
                  obtain ⟨hk18, hw⟩ := hw
                  refine m_rI (m_runV (As := [.int (-1)]) (rest := []) C hW hS hL (c_X12_nextOfChain hw) v_X12_298 ⟨rfl, rfl⟩ ⟨Nat.le_of_ble_eq_true rfl, Nat.le_of_ble_eq_true rfl⟩ rfl hk18 rfl rfl (Nat.le_of_ble_eq_true rfl) dX12_count_149 ⟨Nat.le_of_ble_eq_true rfl, Nat.le_of_ble_eq_true rfl⟩) hS (fun r20 S19 H locs hw hW hS => ?_)
                  refine m_istN C hL dX12_count_152 rfl (by decide) (fun ls hL hn9 hk9 => ?_)
                  have h0 := hk9 0 _ h0 (by decide) (Or.inl (by decide))
                  have h2 := hk9 2 _ h2 (by decide) (Or.inr (rfl))
                  have h3 := hn9
                  exact w_X12_count_L153 C  FU S19 0 r20 H locs ls hW hS hL h0 h2 h3 hw
                · have hw := hw.2 hc25
                  by_cases hc28 : a1 = 8
                  · have hw := hw.1 hc28
                    refine lv_tableIn (tgt := 172) (off := 164) C.1 C.2.1 dX12_count_8 (by rw [hc28]; decide) (by rw [hc28]; decide) (by rw [hc28]; rfl) (by decide) ?_
                    refine m_aldN C dX12_count_172 rfl h0 ?_
                    refine m_rI (m_runV (As := []) (rest := []) C hW hS hL (c_X12_lengths hw) v_X12_294 ⟨rfl, rfl⟩ ⟨Nat.le_of_ble_eq_true rfl, Nat.le_of_ble_eq_true rfl⟩ rfl hk1 rfl rfl (Nat.le_of_ble_eq_true rfl) dX12_count_173 ⟨Nat.le_of_ble_eq_true rfl, Nat.le_of_ble_eq_true rfl⟩) hS (fun r27 S26 H locs hw hW hS => ?_)
                    exact m_iret C hW hS hw dX12_count_176
                  · have hw := hw.2 hc28
                    refine lv_tableOut (tgt := 177) C.1 C.2.1 dX12_count_8 (tsw_out 0 8 (fun v h1 h2 => ?_)) (by decide) ?_
                    · have : v = 0 ∨ v = 1 ∨ v = 2 ∨ v = 3 ∨ v = 4 ∨ v = 5 ∨ v = 6 ∨ v = 7 ∨ v = 8 := by omega
                      rcases this with rfl | rfl | rfl | rfl | rfl | rfl | rfl | rfl | rfl
                      · exact lv_neT hc2 (by decide)
                      · exact lv_neT hc3 (by decide)
                      · exact lv_neT hc4 (by decide)
                      · exact lv_neT hc5 (by decide)
                      · exact lv_neT hc7 (by decide)
                      · exact lv_neT hc9 (by decide)
                      · exact lv_neT hc15 (by decide)
                      · exact lv_neT hc25 (by decide)
                      · exact lv_neT hc28 (by decide)
                    · refine lv_iconst (v := (-1)) C.1 C.2.1 dX12_count_177 (by decide) ?_
                      exact m_iret C hW hS hw dX12_count_178
