def wp_X12_nextOfChain_L4 (S : Hp) (l0 : Nat) (l1 : Int32) (Q : Int32 → Hp → Prop) : Nat → Int32 → Int32 → Prop
  | 0, _, _ => False
  | n + 1, l2, l3 => hK S l0 = 14 ∧ ((hI S l0 4) ≤ l3 → Q l2 S) ∧ (¬ ((hI S l0 4) ≤ l3) → ∃ J4 : Prop, J4 = ((l2 = (-1) → wp_X12_nextOfChain_L4 S l0 l1 Q n l3 (l3 + 1)) ∧ (¬ (l2 = (-1)) → ∃ b10 : Nat, (hR S l0 46) = some b10 ∧ hK S b10 = 15 ∧ vp_in l3 (hN S b10) ∧ vp_in l2 (hN S b10) ∧ ((hI S b10 (l3 : Int32).toNatClampNeg) ≤ (hI S b10 (l2 : Int32).toNatClampNeg) → wp_X12_nextOfChain_L4 S l0 l1 Q n l2 (l3 + 1)) ∧ (¬ ((hI S b10 (l3 : Int32).toNatClampNeg) ≤ (hI S b10 (l2 : Int32).toNatClampNeg)) → wp_X12_nextOfChain_L4 S l0 l1 Q n l3 (l3 + 1)))) ∧ (l1 = (-1) → J4 ) ∧ (¬ (l1 = (-1)) → ∃ b5 : Nat, (hR S l0 10) = some b5 ∧ hK S b5 = 17 ∧ vp_in ((200 * l3) + l1) (hN S b5) ∧ ((hI S b5 (((200 * l3) + l1) : Int32).toNatClampNeg) = 0 → wp_X12_nextOfChain_L4 S l0 l1 Q n l2 (l3 + 1)) ∧ (¬ ((hI S b5 (((200 * l3) + l1) : Int32).toNatClampNeg) = 0) → J4 )))
def wp_X12_nextOfChain (S : Hp) (a0 : Nat) (a1 : Int32) (Q : Int32 → Hp → Prop) : Prop := wp_X12_nextOfChain_L4 S a0 a1 Q FU (-1) 0
set_option maxRecDepth 100000 in
set_option maxHeartbeats 4000000 in
theorem w_X12_nextOfChain_L4 {p : Program} {l : Launch} {e : Env} {s : State} {m : MethodId} {args : Array Value} {below : List Frame} {meth : Method} {c : Code} {G : GX} {Q : Int32 → Hp → Prop} {l0 : Nat} {l1 : Int32} {S : Hp} {H : Heap} {locs : List Loc} (C : Cx p s m args meth c cX12_nextOfChain 4 RX12 (some .int) "nextOfChain" G) (hW : wd G S H) (hS : va_S G.2.2.1 s.heap H locs) :
    ∀ (n : Nat) (l2 : Int32) (l3 : Int32) (ls : Array Slot), LV ls 4 → ls[0]? = some (.val (va_rf (some l0))) → ls[1]? = some (.val (.int l1)) → ls[2]? = some (.val (.int l2)) → ls[3]? = some (.val (.int l3)) → wp_X12_nextOfChain_L4 S l0 l1 Q n l2 l3 → W p l e ({ frames := 0, cells := 0, slots := 0, locals := 0 } : Room) s m args below meth c H locs 0 0 (MQ below (QI G Q) args s 0 0 G.2.2.1) (F0 m 4 ls []) := by
  intro n
  induction n with
  | zero =>
    intro l2 l3 ls hL h0 h1 h2 h3 hw
    exact False.elim hw
  | succ n ih =>
    intro l2 l3 ls hL h0 h1 h2 h3 hw
    unfold wp_X12_nextOfChain_L4 at hw
    refine lv_iload_n C.1 C.2.1 dX12_nextOfChain_4 rfl h3 ?_
    refine m_aldN C dX12_nextOfChain_5 rfl h0 ?_
    obtain ⟨hk1, hw⟩ := hw
    refine m_getI C hW rfl hk1 f_X12_128 rfl dX12_nextOfChain_6 ?_
    refine lv_icmp_ge (tgt := 60) C.1 C.2.1 dX12_nextOfChain_9 (by decide) (fun hc2 => ?_) (fun hc2 => ?_)
    · have hw := hw.1 hc2
      refine lv_iload_n C.1 C.2.1 dX12_nextOfChain_60 rfl h2 ?_
      exact m_iret C hW hS hw dX12_nextOfChain_61
    · have hw := hw.2 hc2
      refine lv_iload_n C.1 C.2.1 dX12_nextOfChain_12 rfl h1 ?_
      refine lv_iconst (v := (-1)) C.1 C.2.1 dX12_nextOfChain_13 (by decide) ?_
      obtain ⟨J4, eJ4, hw⟩ := hw
      have wJ4 : ∀  (ls : Array Slot), LV ls 4 → ls[0]? = some (.val (va_rf (some l0))) → ls[1]? = some (.val (.int l1)) → ls[2]? = some (.val (.int l2)) → ls[3]? = some (.val (.int l3)) → J4  → W p l e ({ frames := 0, cells := 0, slots := 0, locals := 0 } : Room) s m args below meth c H locs 0 0 (MQ below (QI G Q) args s 0 0 G.2.2.1) (F0 m 32 ls []) := by
        intro  ls hL h0 h1 h2 h3 hw
        rw [eJ4] at hw
        refine lv_iload_n C.1 C.2.1 dX12_nextOfChain_32 rfl h2 ?_
        refine lv_iconst (v := (-1)) C.1 C.2.1 dX12_nextOfChain_33 (by decide) ?_
        refine lv_icmp_eq (tgt := 52) C.1 C.2.1 dX12_nextOfChain_34 (by decide) (fun hc9 => ?_) (fun hc9 => ?_)
        · have hw := hw.1 hc9
          refine lv_iload_n C.1 C.2.1 dX12_nextOfChain_52 rfl h3 ?_
          refine m_istN C hL dX12_nextOfChain_53 rfl (by decide) (fun ls hL hn9 hk9 => ?_)
          have h0 := hk9 0 _ h0 (by decide) (Or.inl (by decide))
          have h1 := hk9 1 _ h1 (by decide) (Or.inr (rfl))
          have h3 := hk9 3 _ h3 (by decide) (Or.inl (by decide))
          have h2 := hn9
          refine m_iinc (v := (l3 + 1)) C hL dX12_nextOfChain_54 h3 rfl (by decide) (fun ls hL hn9 hk9 => ?_)
          have h0 := hk9 0 _ h0 (by decide) (Or.inl (by decide))
          have h1 := hk9 1 _ h1 (by decide) (Or.inl (by decide))
          have h2 := hk9 2 _ h2 (by decide) (Or.inr (rfl))
          have h3 := hn9
          refine lv_goto (tgt := 4) C.1 C.2.1 dX12_nextOfChain_57 (by decide) ?_
          exact ih l3 (l3 + 1) ls hL h0 h1 h2 h3 hw
        · have hw := hw.2 hc9
          refine m_aldN C dX12_nextOfChain_37 rfl h0 ?_
          refine m_getR C hW rfl hk1 f_X12_118 rfl dX12_nextOfChain_38 ?_
          refine lv_iload_n C.1 C.2.1 dX12_nextOfChain_41 rfl h3 ?_
          obtain ⟨b10, ho10, hw⟩ := hw
          obtain ⟨hk11, hw⟩ := hw
          obtain ⟨hi12, hw⟩ := hw
          refine m_iald C hW ho10 hk11 hi12 dX12_nextOfChain_42 ?_
          refine m_aldN C dX12_nextOfChain_43 rfl h0 ?_
          refine m_getR C hW rfl hk1 f_X12_118 rfl dX12_nextOfChain_44 ?_
          refine lv_iload_n C.1 C.2.1 dX12_nextOfChain_47 rfl h2 ?_
          obtain ⟨hi13, hw⟩ := hw
          refine m_iald C hW ho10 hk11 hi13 dX12_nextOfChain_48 ?_
          refine lv_icmp_le (tgt := 54) C.1 C.2.1 dX12_nextOfChain_49 (by decide) (fun hc14 => ?_) (fun hc14 => ?_)
          · have hw := hw.1 hc14
            refine m_iinc (v := (l3 + 1)) C hL dX12_nextOfChain_54 h3 rfl (by decide) (fun ls hL hn9 hk9 => ?_)
            have h0 := hk9 0 _ h0 (by decide) (Or.inl (by decide))
            have h1 := hk9 1 _ h1 (by decide) (Or.inl (by decide))
            have h2 := hk9 2 _ h2 (by decide) (Or.inr (rfl))
            have h3 := hn9
            refine lv_goto (tgt := 4) C.1 C.2.1 dX12_nextOfChain_57 (by decide) ?_
            exact ih l2 (l3 + 1) ls hL h0 h1 h2 h3 hw
          · have hw := hw.2 hc14
            refine lv_iload_n C.1 C.2.1 dX12_nextOfChain_52 rfl h3 ?_
            refine m_istN C hL dX12_nextOfChain_53 rfl (by decide) (fun ls hL hn9 hk9 => ?_)
            have h0 := hk9 0 _ h0 (by decide) (Or.inl (by decide))
            have h1 := hk9 1 _ h1 (by decide) (Or.inr (rfl))
            have h3 := hk9 3 _ h3 (by decide) (Or.inl (by decide))
            have h2 := hn9
            refine m_iinc (v := (l3 + 1)) C hL dX12_nextOfChain_54 h3 rfl (by decide) (fun ls hL hn9 hk9 => ?_)
            have h0 := hk9 0 _ h0 (by decide) (Or.inl (by decide))
            have h1 := hk9 1 _ h1 (by decide) (Or.inl (by decide))
            have h2 := hk9 2 _ h2 (by decide) (Or.inr (rfl))
            have h3 := hn9
            refine lv_goto (tgt := 4) C.1 C.2.1 dX12_nextOfChain_57 (by decide) ?_
            exact ih l3 (l3 + 1) ls hL h0 h1 h2 h3 hw
      refine lv_icmp_eq (tgt := 32) C.1 C.2.1 dX12_nextOfChain_14 (by decide) (fun hc3 => ?_) (fun hc3 => ?_)
      · have hw := hw.1 hc3
        exact wJ4  ls hL h0 h1 h2 h3 hw
      · have hw := hw.2 hc3
        refine m_aldN C dX12_nextOfChain_17 rfl h0 ?_
        refine m_getR C hW rfl hk1 f_X12_26 rfl dX12_nextOfChain_18 ?_
        refine lv_sipush (v := 200) C.1 C.2.1 dX12_nextOfChain_21 (by decide) ?_
        refine lv_iload_n C.1 C.2.1 dX12_nextOfChain_24 rfl h3 ?_
        refine lv_imul C.1 C.2.1 dX12_nextOfChain_25 ?_
        refine lv_iload_n C.1 C.2.1 dX12_nextOfChain_26 rfl h1 ?_
        refine lv_iadd C.1 C.2.1 dX12_nextOfChain_27 ?_
        obtain ⟨b5, ho5, hw⟩ := hw
        obtain ⟨hk6, hw⟩ := hw
        obtain ⟨hi7, hw⟩ := hw
        refine m_zald C hW ho5 hk6 hi7 dX12_nextOfChain_28 ?_
        refine lv_if_eq (tgt := 54) C.1 C.2.1 dX12_nextOfChain_29 (by decide) (fun hc8 => ?_) (fun hc8 => ?_)
        · have hw := hw.1 hc8
          refine m_iinc (v := (l3 + 1)) C hL dX12_nextOfChain_54 h3 rfl (by decide) (fun ls hL hn9 hk9 => ?_)
          have h0 := hk9 0 _ h0 (by decide) (Or.inl (by decide))
          have h1 := hk9 1 _ h1 (by decide) (Or.inl (by decide))
          have h2 := hk9 2 _ h2 (by decide) (Or.inr (rfl))
          have h3 := hn9
          refine lv_goto (tgt := 4) C.1 C.2.1 dX12_nextOfChain_57 (by decide) ?_
          exact ih l2 (l3 + 1) ls hL h0 h1 h2 h3 hw
        · have hw := hw.2 hc8
          exact wJ4  ls hL h0 h1 h2 h3 hw
set_option maxRecDepth 100000 in
set_option maxHeartbeats 4000000 in
theorem c_X12_nextOfChain {l : Launch} {G : GX} {S : Hp} {a0 : Nat} {a1 : Int32} {Q : Int32 → Hp → Prop} (hw : wp_X12_nextOfChain S a0 a1 Q) : Met l yX12_nextOfChain (Cond.code yX12_nextOfChain cX12_nextOfChain 4 (some .int) :: TS) { frames := 0, cells := 0, slots := 0, locals := 0 } (Pk G S [va_rf (some a0), .int a1]) (QI G Q) 0 0 G.2.2.1 := by
  refine m_met (by decide) ?_
  intro p e s m below meth c H locs C hW hS
  have C : Cx p s m ([va_rf (some a0), .int a1] : List Value).toArray meth c cX12_nextOfChain 4 RX12 (some .int) "nextOfChain" G := C
  obtain ⟨ls, hent, hL, hla⟩ := m_entry m (vs := [va_rf (some a0), .int a1]) (nn := 4) [1, 1] rfl (by decide)
  rw [hent]
  have h0 : ls[0]? = some (.val (va_rf (some a0))) := hla (0, va_rf (some a0)) (List.mem_of_getElem? (i := 0) rfl)
  have h1 : ls[1]? = some (.val (.int a1)) := hla (1, .int a1) (List.mem_of_getElem? (i := 1) rfl)
  clear hla
  generalize ([va_rf (some a0), .int a1] : List Value).toArray = args at C ⊢
  unfold wp_X12_nextOfChain at hw
  refine lv_iconst (v := (-1)) C.1 C.2.1 dX12_nextOfChain_0 (by decide) ?_
  refine m_istN C hL dX12_nextOfChain_1 rfl (by decide) (fun ls hL hn9 hk9 => ?_)
  have h0 := hk9 0 _ h0 (by decide) (Or.inl (by decide))
  have h1 := hk9 1 _ h1 (by decide) (Or.inr (rfl))
  have h2 := hn9
  refine lv_iconst (v := 0) C.1 C.2.1 dX12_nextOfChain_2 (by decide) ?_
  refine m_istN C hL dX12_nextOfChain_3 rfl (by decide) (fun ls hL hn9 hk9 => ?_)
  have h0 := hk9 0 _ h0 (by decide) (Or.inl (by decide))
  have h1 := hk9 1 _ h1 (by decide) (Or.inl (by decide))
  have h2 := hk9 2 _ h2 (by decide) (Or.inr (rfl))
  have h3 := hn9
  exact w_X12_nextOfChain_L4 C hW hS  FU (-1) 0 ls hL h0 h1 h2 h3 hw
def wp_X12_critical_L24 (l0 : Nat) (l1 : Int32) (Q : Int32 → Hp → Prop) : Nat → Hp → Int32 → Int32 → Prop
  | 0, _, _, _ => False
  | n + 1, S, l2, l3 => (l1 ≤ l3 → Q l2 S) ∧ (¬ (l1 ≤ l3) → (l2 = (-1) → Q l2 S) ∧ (¬ (l2 = (-1)) → hK S l0 = 14 ∧ wp_X12_nextOfChain S l0 l2 (fun r12 S11 => wp_X12_critical_L24 l0 l1 Q n S11 r12 (l3 + 1))))
def wp_X12_critical (S : Hp) (a0 : Nat) (a1 : Int32) (Q : Int32 → Hp → Prop) : Prop := hK S a0 = 14 ∧ (0 ≤ a1 → wp_X12_lengths (sI S a0 0 0) a0 (fun r4 S3 => hK S3 a0 = 14 ∧ wp_X12_nextOfChain S3 a0 (-1) (fun r7 S6 => wp_X12_critical_L24 a0 a1 Q FU S6 r7 0))) ∧ (¬ (0 ≤ a1) → Q (-1) (sI S a0 0 0))
set_option maxRecDepth 100000 in
set_option maxHeartbeats 4000000 in
theorem w_X12_critical_L24 {p : Program} {l : Launch} {e : Env} {s : State} {m : MethodId} {args : Array Value} {below : List Frame} {meth : Method} {c : Code} {G : GX} {Q : Int32 → Hp → Prop} {l0 : Nat} {l1 : Int32} (C : Cx p s m args meth c cX12_critical 4 RX12 (some .int) "critical" G) :
    ∀ (n : Nat) (S : Hp) (l2 : Int32) (l3 : Int32) (H : Heap) (locs : List Loc) (ls : Array Slot), wd G S H → va_S G.2.2.1 s.heap H locs → LV ls 4 → ls[0]? = some (.val (va_rf (some l0))) → ls[1]? = some (.val (.int l1)) → ls[2]? = some (.val (.int l2)) → ls[3]? = some (.val (.int l3)) → wp_X12_critical_L24 l0 l1 Q n S l2 l3 → W p l e ({ frames := 2, cells := 0, slots := 0, locals := 44 } : Room) s m args below meth c H locs 0 0 (MQ below (QI G Q) args s 0 0 G.2.2.1) (F0 m 24 ls []) := by
  intro n
  induction n with
  | zero =>
    intro S l2 l3 H locs ls hW hS hL h0 h1 h2 h3 hw
    exact False.elim hw
  | succ n ih =>
    intro S l2 l3 H locs ls hW hS hL h0 h1 h2 h3 hw
    unfold wp_X12_critical_L24 at hw
    refine lv_iload_n C.1 C.2.1 dX12_critical_24 rfl h3 ?_
    refine lv_iload_n C.1 C.2.1 dX12_critical_25 rfl h1 ?_
    refine lv_icmp_ge (tgt := 46) C.1 C.2.1 dX12_critical_26 (by decide) (fun hc8 => ?_) (fun hc8 => ?_)
    · have hw := hw.1 hc8
      refine lv_iload_n C.1 C.2.1 dX12_critical_46 rfl h2 ?_
      exact m_iret C hW hS hw dX12_critical_47
    · have hw := hw.2 hc8
      refine lv_iload_n C.1 C.2.1 dX12_critical_29 rfl h2 ?_
      refine lv_iconst (v := (-1)) C.1 C.2.1 dX12_critical_30 (by decide) ?_
      refine lv_icmp_eq (tgt := 46) C.1 C.2.1 dX12_critical_31 (by decide) (fun hc9 => ?_) (fun hc9 => ?_)
      · have hw := hw.1 hc9
        refine lv_iload_n C.1 C.2.1 dX12_critical_46 rfl h2 ?_
        exact m_iret C hW hS hw dX12_critical_47
      · have hw := hw.2 hc9
        refine m_aldN C dX12_critical_34 rfl h0 ?_
        refine lv_iload_n C.1 C.2.1 dX12_critical_35 rfl h2 ?_
        obtain ⟨hk10, hw⟩ := hw
        refine m_rI (m_runV (As := [.int l2]) (rest := []) C hW hS hL (c_X12_nextOfChain hw) v_X12_298 ⟨rfl, rfl⟩ ⟨Nat.le_of_ble_eq_true rfl, Nat.le_of_ble_eq_true rfl⟩ rfl hk10 rfl rfl (Nat.le_of_ble_eq_true rfl) dX12_critical_36 ⟨Nat.le_of_ble_eq_true rfl, Nat.le_of_ble_eq_true rfl⟩) hS (fun r12 S11 H locs hw hW hS => ?_)
        refine m_istN C hL dX12_critical_39 rfl (by decide) (fun ls hL hn9 hk9 => ?_)
        have h0 := hk9 0 _ h0 (by decide) (Or.inl (by decide))
        have h1 := hk9 1 _ h1 (by decide) (Or.inr (rfl))
        have h3 := hk9 3 _ h3 (by decide) (Or.inl (by decide))
        have h2 := hn9
        refine m_iinc (v := (l3 + 1)) C hL dX12_critical_40 h3 rfl (by decide) (fun ls hL hn9 hk9 => ?_)
        have h0 := hk9 0 _ h0 (by decide) (Or.inl (by decide))
        have h1 := hk9 1 _ h1 (by decide) (Or.inl (by decide))
        have h2 := hk9 2 _ h2 (by decide) (Or.inr (rfl))
        have h3 := hn9
        refine lv_goto (tgt := 24) C.1 C.2.1 dX12_critical_43 (by decide) ?_
        exact ih S11 r12 (l3 + 1) H locs ls hW hS hL h0 h1 h2 h3 hw
set_option maxRecDepth 100000 in
set_option maxHeartbeats 4000000 in
theorem c_X12_critical {l : Launch} {G : GX} {S : Hp} {a0 : Nat} {a1 : Int32} {Q : Int32 → Hp → Prop} (hw : wp_X12_critical S a0 a1 Q) : Met l yX12_critical (Cond.code yX12_critical cX12_critical 4 (some .int) :: TS) { frames := 2, cells := 0, slots := 0, locals := 44 } (Pk G S [va_rf (some a0), .int a1]) (QI G Q) 0 0 G.2.2.1 := by
  refine m_met (by decide) ?_
  intro p e s m below meth c H locs C hW hS
  have C : Cx p s m ([va_rf (some a0), .int a1] : List Value).toArray meth c cX12_critical 4 RX12 (some .int) "critical" G := C
  obtain ⟨ls, hent, hL, hla⟩ := m_entry m (vs := [va_rf (some a0), .int a1]) (nn := 4) [1, 1] rfl (by decide)
  rw [hent]
  have h0 : ls[0]? = some (.val (va_rf (some a0))) := hla (0, va_rf (some a0)) (List.mem_of_getElem? (i := 0) rfl)
  have h1 : ls[1]? = some (.val (.int a1)) := hla (1, .int a1) (List.mem_of_getElem? (i := 1) rfl)
  clear hla
  generalize ([va_rf (some a0), .int a1] : List Value).toArray = args at C ⊢
  unfold wp_X12_critical at hw
  refine m_aldN C dX12_critical_0 rfl h0 ?_
  refine lv_iconst (v := 0) C.1 C.2.1 dX12_critical_1 (by decide) ?_
  obtain ⟨hk1, hw⟩ := hw
  refine m_putI C hW hS rfl hk1 p_X12_124 (fun z => by cases z) rfl dX12_critical_2 (fun H locs hW hS => ?_)
  refine lv_iload_n C.1 C.2.1 dX12_critical_5 rfl h1 ?_
  refine lv_if_ge (tgt := 11) C.1 C.2.1 dX12_critical_6 (by decide) (fun hc2 => ?_) (fun hc2 => ?_)
  · have hw := hw.1 hc2
    refine m_aldN C dX12_critical_11 rfl h0 ?_
    refine m_rI (m_runV (As := []) (rest := []) C hW hS hL (c_X12_lengths hw) v_X12_294 ⟨rfl, rfl⟩ ⟨Nat.le_of_ble_eq_true rfl, Nat.le_of_ble_eq_true rfl⟩ rfl hk1 rfl rfl (Nat.le_of_ble_eq_true rfl) dX12_critical_12 ⟨Nat.le_of_ble_eq_true rfl, Nat.le_of_ble_eq_true rfl⟩) hS (fun r4 S3 H locs hw hW hS => ?_)
    refine lv_pop C.1 C.2.1 dX12_critical_15 (rfl) ?_
    refine m_aldN C dX12_critical_16 rfl h0 ?_
    refine lv_iconst (v := (-1)) C.1 C.2.1 dX12_critical_17 (by decide) ?_
    obtain ⟨hk5, hw⟩ := hw
    refine m_rI (m_runV (As := [.int (-1)]) (rest := []) C hW hS hL (c_X12_nextOfChain hw) v_X12_298 ⟨rfl, rfl⟩ ⟨Nat.le_of_ble_eq_true rfl, Nat.le_of_ble_eq_true rfl⟩ rfl hk5 rfl rfl (Nat.le_of_ble_eq_true rfl) dX12_critical_18 ⟨Nat.le_of_ble_eq_true rfl, Nat.le_of_ble_eq_true rfl⟩) hS (fun r7 S6 H locs hw hW hS => ?_)
    refine m_istN C hL dX12_critical_21 rfl (by decide) (fun ls hL hn9 hk9 => ?_)
    have h0 := hk9 0 _ h0 (by decide) (Or.inl (by decide))
    have h1 := hk9 1 _ h1 (by decide) (Or.inr (rfl))
    have h2 := hn9
    refine lv_iconst (v := 0) C.1 C.2.1 dX12_critical_22 (by decide) ?_
    refine m_istN C hL dX12_critical_23 rfl (by decide) (fun ls hL hn9 hk9 => ?_)
    have h0 := hk9 0 _ h0 (by decide) (Or.inl (by decide))
    have h1 := hk9 1 _ h1 (by decide) (Or.inl (by decide))
    have h2 := hk9 2 _ h2 (by decide) (Or.inr (rfl))
    have h3 := hn9
    exact w_X12_critical_L24 C  FU S6 r7 0 H locs ls hW hS hL h0 h1 h2 h3 hw
  · have hw := hw.2 hc2
    refine lv_iconst (v := (-1)) C.1 C.2.1 dX12_critical_9 (by decide) ?_
    exact m_iret C hW hS hw dX12_critical_10
def wp_X12_slack (S : Hp) (a0 : Nat) (a1 : Int32) (Q : Int32 → Hp → Prop) : Prop := hK S a0 = 14 ∧ wp_X12_isJob S a0 a1 (fun r3 S2 => ∃ J5 : Option Nat → Int32 → Prop, J5 = (fun (o6 : Option Nat) (x7 : Int32) => ∃ b8 : Nat, o6 = some b8 ∧ hK S2 b8 = 14 ∧ hK (sI S2 b8 0 x7) a0 = 14 ∧ ((hI (sI S2 b8 0 x7) a0 0) ≤ 0 → wp_X12_lengths (sI S2 b8 0 x7) a0 (fun r13 S12 => hK S12 a0 = 14 ∧ ∃ b15 : Nat, (hR S12 a0 47) = some b15 ∧ hK S12 b15 = 15 ∧ vp_in a1 (hN S12 b15) ∧ ∃ b18 : Nat, (hR S12 a0 46) = some b18 ∧ hK S12 b18 = 15 ∧ vp_in a1 (hN S12 b18) ∧ ∃ b21 : Nat, (hR S12 a0 8) = some b21 ∧ hK S12 b21 = 15 ∧ vp_in a1 (hN S12 b21) ∧ Q (((r13 - (hI S12 b15 (a1 : Int32).toNatClampNeg)) - (hI S12 b18 (a1 : Int32).toNatClampNeg)) + (hI S12 b21 (a1 : Int32).toNatClampNeg)) S12)) ∧ (¬ ((hI (sI S2 b8 0 x7) a0 0) ≤ 0) → Q 0 (sI S2 b8 0 x7))) ∧ (r3 = 0 → J5 (some a0) 1) ∧ (¬ (r3 = 0) → J5 (some a0) 0))
set_option maxRecDepth 100000 in
set_option maxHeartbeats 4000000 in
theorem c_X12_slack {l : Launch} {G : GX} {S : Hp} {a0 : Nat} {a1 : Int32} {Q : Int32 → Hp → Prop} (hw : wp_X12_slack S a0 a1 Q) : Met l yX12_slack (Cond.code yX12_slack cX12_slack 2 (some .int) :: TS) { frames := 2, cells := 0, slots := 0, locals := 44 } (Pk G S [va_rf (some a0), .int a1]) (QI G Q) 0 0 G.2.2.1 := by
  refine m_met (by decide) ?_
  intro p e s m below meth c H locs C hW hS
  have C : Cx p s m ([va_rf (some a0), .int a1] : List Value).toArray meth c cX12_slack 2 RX12 (some .int) "slack" G := C
  obtain ⟨ls, hent, hL, hla⟩ := m_entry m (vs := [va_rf (some a0), .int a1]) (nn := 2) [1, 1] rfl (by decide)
  rw [hent]
  have h0 : ls[0]? = some (.val (va_rf (some a0))) := hla (0, va_rf (some a0)) (List.mem_of_getElem? (i := 0) rfl)
  have h1 : ls[1]? = some (.val (.int a1)) := hla (1, .int a1) (List.mem_of_getElem? (i := 1) rfl)
  clear hla
  generalize ([va_rf (some a0), .int a1] : List Value).toArray = args at C ⊢
  unfold wp_X12_slack at hw
  refine m_aldN C dX12_slack_0 rfl h0 ?_
  refine m_aldN C dX12_slack_1 rfl h0 ?_
  refine lv_iload_n C.1 C.2.1 dX12_slack_2 rfl h1 ?_
  obtain ⟨hk1, hw⟩ := hw
  refine m_rI (m_runV (As := [.int a1]) (rest := [va_rf (some a0)]) C hW hS hL (c_X12_isJob hw) v_X12_154 ⟨rfl, rfl⟩ ⟨Nat.le_of_ble_eq_true rfl, Nat.le_of_ble_eq_true rfl⟩ rfl hk1 rfl rfl (by simp only [List.map_cons, List.map_nil, va_rf_cat, List.sum_cons, List.sum_nil] <;> exact Nat.le_of_ble_eq_true rfl) dX12_slack_3 ⟨Nat.le_of_ble_eq_true rfl, Nat.le_of_ble_eq_true rfl⟩) hS (fun r3 S2 H locs hw hW hS => ?_)
  obtain ⟨J5, eJ5, hw⟩ := hw
  have wJ5 : ∀ (o6 : Option Nat) (x7 : Int32) (ls : Array Slot), LV ls 2 → ls[0]? = some (.val (va_rf (some a0))) → ls[1]? = some (.val (.int a1)) → J5 o6 x7 → W p l e ({ frames := 2, cells := 0, slots := 0, locals := 44 } : Room) s m args below meth c H locs 0 0 (MQ below (QI G Q) args s 0 0 G.2.2.1) (F0 m 14 ls [.int x7, va_rf o6]) := by
    intro o6 x7 ls hL h0 h1 hw
    rw [eJ5] at hw
    obtain ⟨b8, ho8, hw⟩ := hw
    obtain ⟨hk9, hw⟩ := hw
    refine m_putI C hW hS ho8 hk9 p_X12_124 (fun z => by cases z) rfl dX12_slack_14 (fun H locs hW hS => ?_)
    refine m_aldN C dX12_slack_17 rfl h0 ?_
    obtain ⟨hk10, hw⟩ := hw
    refine m_getI C hW rfl hk10 f_X12_124 rfl dX12_slack_18 ?_
    refine lv_if_le (tgt := 26) C.1 C.2.1 dX12_slack_21 (by decide) (fun hc11 => ?_) (fun hc11 => ?_)
    · have hw := hw.1 hc11
      refine m_aldN C dX12_slack_26 rfl h0 ?_
      refine m_rI (m_runV (As := []) (rest := []) C hW hS hL (c_X12_lengths hw) v_X12_294 ⟨rfl, rfl⟩ ⟨Nat.le_of_ble_eq_true rfl, Nat.le_of_ble_eq_true rfl⟩ rfl hk10 rfl rfl (Nat.le_of_ble_eq_true rfl) dX12_slack_27 ⟨Nat.le_of_ble_eq_true rfl, Nat.le_of_ble_eq_true rfl⟩) hS (fun r13 S12 H locs hw hW hS => ?_)
      refine m_aldN C dX12_slack_30 rfl h0 ?_
      obtain ⟨hk14, hw⟩ := hw
      refine m_getR C hW rfl hk14 f_X12_121 rfl dX12_slack_31 ?_
      refine lv_iload_n C.1 C.2.1 dX12_slack_34 rfl h1 ?_
      obtain ⟨b15, ho15, hw⟩ := hw
      obtain ⟨hk16, hw⟩ := hw
      obtain ⟨hi17, hw⟩ := hw
      refine m_iald C hW ho15 hk16 hi17 dX12_slack_35 ?_
      refine lv_isub C.1 C.2.1 dX12_slack_36 ?_
      refine m_aldN C dX12_slack_37 rfl h0 ?_
      refine m_getR C hW rfl hk14 f_X12_118 rfl dX12_slack_38 ?_
      refine lv_iload_n C.1 C.2.1 dX12_slack_41 rfl h1 ?_
      obtain ⟨b18, ho18, hw⟩ := hw
      obtain ⟨hk19, hw⟩ := hw
      obtain ⟨hi20, hw⟩ := hw
      refine m_iald C hW ho18 hk19 hi20 dX12_slack_42 ?_
      refine lv_isub C.1 C.2.1 dX12_slack_43 ?_
      refine m_aldN C dX12_slack_44 rfl h0 ?_
      refine m_getR C hW rfl hk14 f_X12_19 rfl dX12_slack_45 ?_
      refine lv_iload_n C.1 C.2.1 dX12_slack_48 rfl h1 ?_
      obtain ⟨b21, ho21, hw⟩ := hw
      obtain ⟨hk22, hw⟩ := hw
      obtain ⟨hi23, hw⟩ := hw
      refine m_iald C hW ho21 hk22 hi23 dX12_slack_49 ?_
      refine lv_iadd C.1 C.2.1 dX12_slack_50 ?_
      exact m_iret C hW hS hw dX12_slack_51
    · have hw := hw.2 hc11
      refine lv_iconst (v := 0) C.1 C.2.1 dX12_slack_24 (by decide) ?_
      exact m_iret C hW hS hw dX12_slack_25
  refine lv_if_eq (tgt := 13) C.1 C.2.1 dX12_slack_6 (by decide) (fun hc4 => ?_) (fun hc4 => ?_)
  · have hw := hw.1 hc4
    refine lv_iconst (v := 1) C.1 C.2.1 dX12_slack_13 (by decide) ?_
    exact wJ5 (some a0) 1 ls hL h0 h1 hw
  · have hw := hw.2 hc4
    refine lv_iconst (v := 0) C.1 C.2.1 dX12_slack_9 (by decide) ?_
    refine lv_goto (tgt := 14) C.1 C.2.1 dX12_slack_10 (by decide) ?_
    exact wJ5 (some a0) 0 ls hL h0 h1 hw
def wp_X12_leans (S : Hp) (a0 : Nat) (a1 : Int32) (a2 : Int32) (Q : Int32 → Hp → Prop) : Prop := hK S a0 = 14 ∧ wp_X12_isJob S a0 a1 (fun r3 S2 => ∃ J6 : Hp → Option Nat → Int32 → Prop, J6 = (fun (S13 : Hp) (o14 : Option Nat) (x15 : Int32) => ∃ b16 : Nat, o14 = some b16 ∧ hK S13 b16 = 14 ∧ hK (sI S13 b16 0 x15) a0 = 14 ∧ ((hI (sI S13 b16 0 x15) a0 0) = 0 → ∃ b20 : Nat, (hR (sI S13 b16 0 x15) a0 11) = some b20 ∧ hK (sI S13 b16 0 x15) b20 = 17 ∧ vp_in ((200 * a1) + a2) (hN (sI S13 b16 0 x15) b20) ∧ ((hI (sI S13 b16 0 x15) b20 (((200 * a1) + a2) : Int32).toNatClampNeg) = 0 → Q 0 (sI S13 b16 0 x15)) ∧ (¬ ((hI (sI S13 b16 0 x15) b20 (((200 * a1) + a2) : Int32).toNatClampNeg) = 0) → Q 1 (sI S13 b16 0 x15))) ∧ (¬ ((hI (sI S13 b16 0 x15) a0 0) = 0) → Q 0 (sI S13 b16 0 x15))) ∧ ∃ J5 : Hp → Option Nat → Prop, J5 = (fun (S11 : Hp) (o12 : Option Nat) => J6 S11 o12 1) ∧ (r3 = 0 → J5 S2 (some a0)) ∧ (¬ (r3 = 0) → hK S2 a0 = 14 ∧ wp_X12_isJob S2 a0 a2 (fun r9 S8 => (r9 = 0 → J5 S8 (some a0)) ∧ (¬ (r9 = 0) → J6 S8 (some a0) 0))))
set_option maxRecDepth 100000 in
set_option maxHeartbeats 4000000 in
theorem c_X12_leans {l : Launch} {G : GX} {S : Hp} {a0 : Nat} {a1 : Int32} {a2 : Int32} {Q : Int32 → Hp → Prop} (hw : wp_X12_leans S a0 a1 a2 Q) : Met l yX12_leans (Cond.code yX12_leans cX12_leans 3 (some .boolean) :: TS) { frames := 1, cells := 0, slots := 0, locals := 21 } (Pk G S [va_rf (some a0), .int a1, .int a2]) (QI G Q) 0 0 G.2.2.1 := by
  refine m_met (by decide) ?_
  intro p e s m below meth c H locs C hW hS
  have C : Cx p s m ([va_rf (some a0), .int a1, .int a2] : List Value).toArray meth c cX12_leans 3 RX12 (some .boolean) "leans" G := C
  obtain ⟨ls, hent, hL, hla⟩ := m_entry m (vs := [va_rf (some a0), .int a1, .int a2]) (nn := 3) [1, 1, 1] rfl (by decide)
  rw [hent]
  have h0 : ls[0]? = some (.val (va_rf (some a0))) := hla (0, va_rf (some a0)) (List.mem_of_getElem? (i := 0) rfl)
  have h1 : ls[1]? = some (.val (.int a1)) := hla (1, .int a1) (List.mem_of_getElem? (i := 1) rfl)
  have h2 : ls[2]? = some (.val (.int a2)) := hla (2, .int a2) (List.mem_of_getElem? (i := 2) rfl)
  clear hla
  generalize ([va_rf (some a0), .int a1, .int a2] : List Value).toArray = args at C ⊢
  unfold wp_X12_leans at hw
  refine m_aldN C dX12_leans_0 rfl h0 ?_
  refine m_aldN C dX12_leans_1 rfl h0 ?_
  refine lv_iload_n C.1 C.2.1 dX12_leans_2 rfl h1 ?_
  obtain ⟨hk1, hw⟩ := hw
  refine m_rI (m_runV (As := [.int a1]) (rest := [va_rf (some a0)]) C hW hS hL (c_X12_isJob hw) v_X12_154 ⟨rfl, rfl⟩ ⟨Nat.le_of_ble_eq_true rfl, Nat.le_of_ble_eq_true rfl⟩ rfl hk1 rfl rfl (by simp only [List.map_cons, List.map_nil, va_rf_cat, List.sum_cons, List.sum_nil] <;> exact Nat.le_of_ble_eq_true rfl) dX12_leans_3 ⟨Nat.le_of_ble_eq_true rfl, Nat.le_of_ble_eq_true rfl⟩) hS (fun r3 S2 H locs hw hW hS => ?_)
  obtain ⟨J6, eJ6, hw⟩ := hw
  have wJ6 : ∀ (S13 : Hp) (o14 : Option Nat) (x15 : Int32) (H : Heap) (locs : List Loc) (ls : Array Slot), wd G S13 H → va_S G.2.2.1 s.heap H locs → LV ls 3 → ls[0]? = some (.val (va_rf (some a0))) → ls[1]? = some (.val (.int a1)) → ls[2]? = some (.val (.int a2)) → J6 S13 o14 x15 → W p l e ({ frames := 1, cells := 0, slots := 0, locals := 21 } : Room) s m args below meth c H locs 0 0 (MQ below (QI G Q) args s 0 0 G.2.2.1) (F0 m 22 ls [.int x15, va_rf o14]) := by
    intro S13 o14 x15 H locs ls hW hS hL h0 h1 h2 hw
    rw [eJ6] at hw
    obtain ⟨b16, ho16, hw⟩ := hw
    obtain ⟨hk17, hw⟩ := hw
    refine m_putI C hW hS ho16 hk17 p_X12_124 (fun z => by cases z) rfl dX12_leans_22 (fun H locs hW hS => ?_)
    refine m_aldN C dX12_leans_25 rfl h0 ?_
    obtain ⟨hk18, hw⟩ := hw
    refine m_getI C hW rfl hk18 f_X12_124 rfl dX12_leans_26 ?_
    refine lv_if_ne (tgt := 51) C.1 C.2.1 dX12_leans_29 (by decide) (fun hc19 => ?_) (fun hc19 => ?_)
    · have hw := hw.2 hc19
      refine lv_iconst (v := 0) C.1 C.2.1 dX12_leans_51 (by decide) ?_
      exact m_zret C hW hS (by decide) hw dX12_leans_52
    · have hw := hw.1 hc19
      refine m_aldN C dX12_leans_32 rfl h0 ?_
      refine m_getR C hW rfl hk18 f_X12_30 rfl dX12_leans_33 ?_
      refine lv_sipush (v := 200) C.1 C.2.1 dX12_leans_36 (by decide) ?_
      refine lv_iload_n C.1 C.2.1 dX12_leans_39 rfl h1 ?_
      refine lv_imul C.1 C.2.1 dX12_leans_40 ?_
      refine lv_iload_n C.1 C.2.1 dX12_leans_41 rfl h2 ?_
      refine lv_iadd C.1 C.2.1 dX12_leans_42 ?_
      obtain ⟨b20, ho20, hw⟩ := hw
      obtain ⟨hk21, hw⟩ := hw
      obtain ⟨hi22, hw⟩ := hw
      refine m_zald C hW ho20 hk21 hi22 dX12_leans_43 ?_
      refine lv_if_eq (tgt := 51) C.1 C.2.1 dX12_leans_44 (by decide) (fun hc23 => ?_) (fun hc23 => ?_)
      · have hw := hw.1 hc23
        refine lv_iconst (v := 0) C.1 C.2.1 dX12_leans_51 (by decide) ?_
        exact m_zret C hW hS (by decide) hw dX12_leans_52
      · have hw := hw.2 hc23
        refine lv_iconst (v := 1) C.1 C.2.1 dX12_leans_47 (by decide) ?_
        refine lv_goto (tgt := 52) C.1 C.2.1 dX12_leans_48 (by decide) ?_
        exact m_zret C hW hS (by decide) hw dX12_leans_52
  obtain ⟨J5, eJ5, hw⟩ := hw
  have wJ5 : ∀ (S11 : Hp) (o12 : Option Nat) (H : Heap) (locs : List Loc) (ls : Array Slot), wd G S11 H → va_S G.2.2.1 s.heap H locs → LV ls 3 → ls[0]? = some (.val (va_rf (some a0))) → ls[1]? = some (.val (.int a1)) → ls[2]? = some (.val (.int a2)) → J5 S11 o12 → W p l e ({ frames := 1, cells := 0, slots := 0, locals := 21 } : Room) s m args below meth c H locs 0 0 (MQ below (QI G Q) args s 0 0 G.2.2.1) (F0 m 21 ls [va_rf o12]) := by
    intro S11 o12 H locs ls hW hS hL h0 h1 h2 hw
    rw [eJ5] at hw
    refine lv_iconst (v := 1) C.1 C.2.1 dX12_leans_21 (by decide) ?_
    exact wJ6 S11 o12 1 H locs ls hW hS hL h0 h1 h2 hw
  refine lv_if_eq (tgt := 21) C.1 C.2.1 dX12_leans_6 (by decide) (fun hc4 => ?_) (fun hc4 => ?_)
  · have hw := hw.1 hc4
    exact wJ5 S2 (some a0) H locs ls hW hS hL h0 h1 h2 hw
  · have hw := hw.2 hc4
    refine m_aldN C dX12_leans_9 rfl h0 ?_
    refine lv_iload_n C.1 C.2.1 dX12_leans_10 rfl h2 ?_
    obtain ⟨hk7, hw⟩ := hw
    refine m_rI (m_runV (As := [.int a2]) (rest := [va_rf (some a0)]) C hW hS hL (c_X12_isJob hw) v_X12_154 ⟨rfl, rfl⟩ ⟨Nat.le_of_ble_eq_true rfl, Nat.le_of_ble_eq_true rfl⟩ rfl hk7 rfl rfl (by simp only [List.map_cons, List.map_nil, va_rf_cat, List.sum_cons, List.sum_nil] <;> exact Nat.le_of_ble_eq_true rfl) dX12_leans_11 ⟨Nat.le_of_ble_eq_true rfl, Nat.le_of_ble_eq_true rfl⟩) hS (fun r9 S8 H locs hw hW hS => ?_)
    refine lv_if_eq (tgt := 21) C.1 C.2.1 dX12_leans_14 (by decide) (fun hc10 => ?_) (fun hc10 => ?_)
    · have hw := hw.1 hc10
      exact wJ5 S8 (some a0) H locs ls hW hS hL h0 h1 h2 hw
    · have hw := hw.2 hc10
      refine lv_iconst (v := 0) C.1 C.2.1 dX12_leans_17 (by decide) ?_
      refine lv_goto (tgt := 22) C.1 C.2.1 dX12_leans_18 (by decide) ?_
      exact wJ6 S8 (some a0) 0 H locs ls hW hS hL h0 h1 h2 hw
def wp_X12_audit (S : Hp) (a0 : Nat) (Q : Int32 → Hp → Prop) : Prop := hK S a0 = 14 ∧ ((hI (sI S a0 0 0) a0 22) = 0 → Q 0 (sI S a0 0 0)) ∧ (¬ ((hI (sI S a0 0 0) a0 22) = 0) → Q (hI (sI S a0 0 0) a0 39) (sI S a0 0 0))
set_option maxRecDepth 100000 in
set_option maxHeartbeats 4000000 in
theorem c_X12_audit {l : Launch} {G : GX} {S : Hp} {a0 : Nat} {Q : Int32 → Hp → Prop} (hw : wp_X12_audit S a0 Q) : Met l yX12_audit (Cond.code yX12_audit cX12_audit 1 (some .int) :: TS) { frames := 0, cells := 0, slots := 0, locals := 0 } (Pk G S [va_rf (some a0)]) (QI G Q) 0 0 G.2.2.1 := by
  refine m_met (by decide) ?_
  intro p e s m below meth c H locs C hW hS
  have C : Cx p s m ([va_rf (some a0)] : List Value).toArray meth c cX12_audit 1 RX12 (some .int) "audit" G := C
  obtain ⟨ls, hent, hL, hla⟩ := m_entry m (vs := [va_rf (some a0)]) (nn := 1) [1] rfl (by decide)
  rw [hent]
  have h0 : ls[0]? = some (.val (va_rf (some a0))) := hla (0, va_rf (some a0)) (List.mem_of_getElem? (i := 0) rfl)
  clear hla
  generalize ([va_rf (some a0)] : List Value).toArray = args at C ⊢
  unfold wp_X12_audit at hw
  refine m_aldN C dX12_audit_0 rfl h0 ?_
  refine lv_iconst (v := 0) C.1 C.2.1 dX12_audit_1 (by decide) ?_
  obtain ⟨hk1, hw⟩ := hw
  refine m_putI C hW hS rfl hk1 p_X12_124 (fun z => by cases z) rfl dX12_audit_2 (fun H locs hW hS => ?_)
  refine m_aldN C dX12_audit_5 rfl h0 ?_
  refine m_getI C hW rfl hk1 f_X12_131 rfl dX12_audit_6 ?_
  refine lv_if_eq (tgt := 19) C.1 C.2.1 dX12_audit_9 (by decide) (fun hc2 => ?_) (fun hc2 => ?_)
  · have hw := hw.1 hc2
    refine lv_iconst (v := 0) C.1 C.2.1 dX12_audit_19 (by decide) ?_
    exact m_iret C hW hS hw dX12_audit_20
  · have hw := hw.2 hc2
    refine m_aldN C dX12_audit_12 rfl h0 ?_
    refine m_getI C hW rfl hk1 f_X12_205 rfl dX12_audit_13 ?_
    refine lv_goto (tgt := 20) C.1 C.2.1 dX12_audit_16 (by decide) ?_
    exact m_iret C hW hS hw dX12_audit_20
def wp_X12_count_L153 (l0 : Nat) (Q : Int32 → Hp → Prop) : Nat → Hp → Int32 → Int32 → Prop
  | 0, _, _, _ => False
  | n + 1, S, l2, l3 => (l3 = (-1) → Q l2 S) ∧ (¬ (l3 = (-1)) → hK S l0 = 14 ∧ wp_X12_nextOfChain S l0 l3 (fun r24 S23 => wp_X12_count_L153 l0 Q n S23 (l2 + 1) r24))
def wp_X12_count (S : Hp) (a0 : Nat) (a1 : Int32) (Q : Int32 → Hp → Prop) : Prop := hK S a0 = 14 ∧ (a1 = 0 → Q (hI (sI S a0 0 0) a0 1) (sI S a0 0 0)) ∧ (¬ (a1 = 0) → (a1 = 1 → Q (hI (sI S a0 0 0) a0 2) (sI S a0 0 0)) ∧ (¬ (a1 = 1) → (a1 = 2 → Q (hI (sI S a0 0 0) a0 3) (sI S a0 0 0)) ∧ (¬ (a1 = 2) → (a1 = 3 → Q (hI (sI S a0 0 0) a0 4) (sI S a0 0 0)) ∧ (¬ (a1 = 3) → (a1 = 4 → ((hI (sI S a0 0 0) a0 22) = 0 → Q (-1) (sI S a0 0 0)) ∧ (¬ ((hI (sI S a0 0 0) a0 22) = 0) → Q (hI (sI S a0 0 0) a0 23) (sI S a0 0 0))) ∧ (¬ (a1 = 4) → (a1 = 5 → ((hI (sI S a0 0 0) a0 22) = 0 → Q 0 (sI S a0 0 0)) ∧ (¬ ((hI (sI S a0 0 0) a0 22) = 0) → Q (hI (sI S a0 0 0) a0 25) (sI S a0 0 0))) ∧ (¬ (a1 = 5) → (a1 = 6 → ((hI (sI S a0 0 0) a0 22) = 0 → Q 0 (sI S a0 0 0)) ∧ (¬ ((hI (sI S a0 0 0) a0 22) = 0) → ((hI (sI S a0 0 0) a0 25) ≤ 0 → Q 0 (sI S a0 0 0)) ∧ (¬ ((hI (sI S a0 0 0) a0 25) ≤ 0) → ∃ b12 : Nat, (hR (sI S a0 0 0) a0 36) = some b12 ∧ hK (sI S a0 0 0) b12 = 15 ∧ vp_in ((hI (sI S a0 0 0) a0 25) - 1) (hN (sI S a0 0 0) b12) ∧ Q (hI (sI S a0 0 0) b12 (((hI (sI S a0 0 0) a0 25) - 1) : Int32).toNatClampNeg) (sI S a0 0 0)))) ∧ (¬ (a1 = 6) → (a1 = 7 → wp_X12_lengths (sI S a0 0 0) a0 (fun r17 S16 => hK S16 a0 = 14 ∧ wp_X12_nextOfChain S16 a0 (-1) (fun r20 S19 => wp_X12_count_L153 a0 Q FU S19 0 r20))) ∧ (¬ (a1 = 7) → (a1 = 8 → wp_X12_lengths (sI S a0 0 0) a0 (fun r27 S26 => Q r27 S26)) ∧ (¬ (a1 = 8) → Q (-1) (sI S a0 0 0))))))))))
set_option maxRecDepth 100000 in
set_option maxHeartbeats 4000000 in
theorem w_X12_count_L153 {p : Program} {l : Launch} {e : Env} {s : State} {m : MethodId} {args : Array Value} {below : List Frame} {meth : Method} {c : Code} {G : GX} {Q : Int32 → Hp → Prop} {l0 : Nat} (C : Cx p s m args meth c cX12_count 4 RX12 (some .int) "count" G) :
    ∀ (n : Nat) (S : Hp) (l2 : Int32) (l3 : Int32) (H : Heap) (locs : List Loc) (ls : Array Slot), wd G S H → va_S G.2.2.1 s.heap H locs → LV ls 4 → ls[0]? = some (.val (va_rf (some l0))) → ls[2]? = some (.val (.int l2)) → ls[3]? = some (.val (.int l3)) → wp_X12_count_L153 l0 Q n S l2 l3 → W p l e ({ frames := 2, cells := 0, slots := 0, locals := 44 } : Room) s m args below meth c H locs 0 0 (MQ below (QI G Q) args s 0 0 G.2.2.1) (F0 m 153 ls []) := by
  intro n
  induction n with
  | zero =>
    intro S l2 l3 H locs ls hW hS hL h0 h2 h3 hw
    exact False.elim hw
  | succ n ih =>
    intro S l2 l3 H locs ls hW hS hL h0 h2 h3 hw
    unfold wp_X12_count_L153 at hw
    refine lv_iload_n C.1 C.2.1 dX12_count_153 rfl h3 ?_
    refine lv_iconst (v := (-1)) C.1 C.2.1 dX12_count_154 (by decide) ?_
    refine lv_icmp_eq (tgt := 170) C.1 C.2.1 dX12_count_155 (by decide) (fun hc21 => ?_) (fun hc21 => ?_)
    · have hw := hw.1 hc21
      refine lv_iload_n C.1 C.2.1 dX12_count_170 rfl h2 ?_
      exact m_iret C hW hS hw dX12_count_171
    · have hw := hw.2 hc21
      refine m_iinc (v := (l2 + 1)) C hL dX12_count_158 h2 rfl (by decide) (fun ls hL hn9 hk9 => ?_)
      have h0 := hk9 0 _ h0 (by decide) (Or.inl (by decide))
      have h3 := hk9 3 _ h3 (by decide) (Or.inl (by decide))
      have h2 := hn9
      refine m_aldN C dX12_count_161 rfl h0 ?_
      refine lv_iload_n C.1 C.2.1 dX12_count_162 rfl h3 ?_
      obtain ⟨hk22, hw⟩ := hw
      refine m_rI (m_runV (As := [.int l3]) (rest := []) C hW hS hL (c_X12_nextOfChain hw) v_X12_298 ⟨rfl, rfl⟩ ⟨Nat.le_of_ble_eq_true rfl, Nat.le_of_ble_eq_true rfl⟩ rfl hk22 rfl rfl (Nat.le_of_ble_eq_true rfl) dX12_count_163 ⟨Nat.le_of_ble_eq_true rfl, Nat.le_of_ble_eq_true rfl⟩) hS (fun r24 S23 H locs hw hW hS => ?_)
      refine m_istN C hL dX12_count_166 rfl (by decide) (fun ls hL hn9 hk9 => ?_)
      have h0 := hk9 0 _ h0 (by decide) (Or.inl (by decide))
      have h2 := hk9 2 _ h2 (by decide) (Or.inr (rfl))
      have h3 := hn9
      refine lv_goto (tgt := 153) C.1 C.2.1 dX12_count_167 (by decide) ?_
      exact ih S23 (l2 + 1) r24 H locs ls hW hS hL h0 h2 h3 hw
set_option maxRecDepth 100000 in
set_option maxHeartbeats 4000000 in
theorem c_X12_count {l : Launch} {G : GX} {S : Hp} {a0 : Nat} {a1 : Int32} {Q : Int32 → Hp → Prop} (hw : wp_X12_count S a0 a1 Q) : Met l yX12_count (Cond.code yX12_count cX12_count 4 (some .int) :: TS) { frames := 2, cells := 0, slots := 0, locals := 44 } (Pk G S [va_rf (some a0), .int a1]) (QI G Q) 0 0 G.2.2.1 := by
  refine m_met (by decide) ?_
  intro p e s m below meth c H locs C hW hS
  have C : Cx p s m ([va_rf (some a0), .int a1] : List Value).toArray meth c cX12_count 4 RX12 (some .int) "count" G := C
  obtain ⟨ls, hent, hL, hla⟩ := m_entry m (vs := [va_rf (some a0), .int a1]) (nn := 4) [1, 1] rfl (by decide)
  rw [hent]
  have h0 : ls[0]? = some (.val (va_rf (some a0))) := hla (0, va_rf (some a0)) (List.mem_of_getElem? (i := 0) rfl)
  have h1 : ls[1]? = some (.val (.int a1)) := hla (1, .int a1) (List.mem_of_getElem? (i := 1) rfl)
  clear hla
  generalize ([va_rf (some a0), .int a1] : List Value).toArray = args at C ⊢
  unfold wp_X12_count at hw
  refine m_aldN C dX12_count_0 rfl h0 ?_
  refine lv_iconst (v := 0) C.1 C.2.1 dX12_count_1 (by decide) ?_
  obtain ⟨hk1, hw⟩ := hw
  refine m_putI C hW hS rfl hk1 p_X12_124 (fun z => by cases z) rfl dX12_count_2 (fun H locs hW hS => ?_)
  refine lv_iconst (v := 0) C.1 C.2.1 dX12_count_5 (by decide) ?_
  refine m_istN C hL dX12_count_6 rfl (by decide) (fun ls hL hn9 hk9 => ?_)
  have h0 := hk9 0 _ h0 (by decide) (Or.inl (by decide))
  have h1 := hk9 1 _ h1 (by decide) (Or.inr (rfl))
  have h2 := hn9
  refine lv_iload_n C.1 C.2.1 dX12_count_7 rfl h1 ?_
  by_cases hc2 : a1 = 0
  · have hw := hw.1 hc2
    refine lv_tableIn (tgt := 60) (off := 52) C.1 C.2.1 dX12_count_8 (by rw [hc2]; decide) (by rw [hc2]; decide) (by rw [hc2]; rfl) (by decide) ?_
    refine m_aldN C dX12_count_60 rfl h0 ?_
    refine m_getI C hW rfl hk1 f_X12_135 rfl dX12_count_61 ?_
    exact m_iret C hW hS hw dX12_count_64
  · have hw := hw.2 hc2
    by_cases hc3 : a1 = 1
    · have hw := hw.1 hc3
      refine lv_tableIn (tgt := 65) (off := 57) C.1 C.2.1 dX12_count_8 (by rw [hc3]; decide) (by rw [hc3]; decide) (by rw [hc3]; rfl) (by decide) ?_
      refine m_aldN C dX12_count_65 rfl h0 ?_
      refine m_getI C hW rfl hk1 f_X12_138 rfl dX12_count_66 ?_
      exact m_iret C hW hS hw dX12_count_69
    · have hw := hw.2 hc3
      by_cases hc4 : a1 = 2
      · have hw := hw.1 hc4
        refine lv_tableIn (tgt := 70) (off := 62) C.1 C.2.1 dX12_count_8 (by rw [hc4]; decide) (by rw [hc4]; decide) (by rw [hc4]; rfl) (by decide) ?_
        refine m_aldN C dX12_count_70 rfl h0 ?_
        refine m_getI C hW rfl hk1 f_X12_145 rfl dX12_count_71 ?_
        exact m_iret C hW hS hw dX12_count_74
      · have hw := hw.2 hc4
        by_cases hc5 : a1 = 3
        · have hw := hw.1 hc5
          refine lv_tableIn (tgt := 75) (off := 67) C.1 C.2.1 dX12_count_8 (by rw [hc5]; decide) (by rw [hc5]; decide) (by rw [hc5]; rfl) (by decide) ?_
          refine m_aldN C dX12_count_75 rfl h0 ?_
          refine m_getI C hW rfl hk1 f_X12_128 rfl dX12_count_76 ?_
          exact m_iret C hW hS hw dX12_count_79
        · have hw := hw.2 hc5
          by_cases hc7 : a1 = 4
          · have hw := hw.1 hc7
            refine lv_tableIn (tgt := 80) (off := 72) C.1 C.2.1 dX12_count_8 (by rw [hc7]; decide) (by rw [hc7]; decide) (by rw [hc7]; rfl) (by decide) ?_
            refine m_aldN C dX12_count_80 rfl h0 ?_
            refine m_getI C hW rfl hk1 f_X12_131 rfl dX12_count_81 ?_
            refine lv_if_eq (tgt := 94) C.1 C.2.1 dX12_count_84 (by decide) (fun hc6 => ?_) (fun hc6 => ?_)
            · have hw := hw.1 hc6
              refine lv_iconst (v := (-1)) C.1 C.2.1 dX12_count_94 (by decide) ?_
              exact m_iret C hW hS hw dX12_count_95
            · have hw := hw.2 hc6
              refine m_aldN C dX12_count_87 rfl h0 ?_
              refine m_getI C hW rfl hk1 f_X12_278 rfl dX12_count_88 ?_
              refine lv_goto (tgt := 95) C.1 C.2.1 dX12_count_91 (by decide) ?_
              exact m_iret C hW hS hw dX12_count_95
          · have hw := hw.2 hc7
            by_cases hc9 : a1 = 5
            · have hw := hw.1 hc9
              refine lv_tableIn (tgt := 96) (off := 88) C.1 C.2.1 dX12_count_8 (by rw [hc9]; decide) (by rw [hc9]; decide) (by rw [hc9]; rfl) (by decide) ?_
              refine m_aldN C dX12_count_96 rfl h0 ?_
              refine m_getI C hW rfl hk1 f_X12_131 rfl dX12_count_97 ?_
              refine lv_if_eq (tgt := 110) C.1 C.2.1 dX12_count_100 (by decide) (fun hc8 => ?_) (fun hc8 => ?_)
              · have hw := hw.1 hc8
                refine lv_iconst (v := 0) C.1 C.2.1 dX12_count_110 (by decide) ?_
                exact m_iret C hW hS hw dX12_count_111
              · have hw := hw.2 hc8
                refine m_aldN C dX12_count_103 rfl h0 ?_
                refine m_getI C hW rfl hk1 f_X12_199 rfl dX12_count_104 ?_
                refine lv_goto (tgt := 111) C.1 C.2.1 dX12_count_107 (by decide) ?_
                exact m_iret C hW hS hw dX12_count_111
            · have hw := hw.2 hc9
              by_cases hc15 : a1 = 6
              · have hw := hw.1 hc15
                refine lv_tableIn (tgt := 112) (off := 104) C.1 C.2.1 dX12_count_8 (by rw [hc15]; decide) (by rw [hc15]; decide) (by rw [hc15]; rfl) (by decide) ?_
                refine m_aldN C dX12_count_112 rfl h0 ?_
                refine m_getI C hW rfl hk1 f_X12_131 rfl dX12_count_113 ?_
                refine lv_if_eq (tgt := 140) C.1 C.2.1 dX12_count_116 (by decide) (fun hc10 => ?_) (fun hc10 => ?_)
                · have hw := hw.1 hc10
                  refine lv_iconst (v := 0) C.1 C.2.1 dX12_count_140 (by decide) ?_
                  exact m_iret C hW hS hw dX12_count_141
                · have hw := hw.2 hc10
                  refine m_aldN C dX12_count_119 rfl h0 ?_
                  refine m_getI C hW rfl hk1 f_X12_199 rfl dX12_count_120 ?_
                  refine lv_if_le (tgt := 140) C.1 C.2.1 dX12_count_123 (by decide) (fun hc11 => ?_) (fun hc11 => ?_)
                  · have hw := hw.1 hc11
                    refine lv_iconst (v := 0) C.1 C.2.1 dX12_count_140 (by decide) ?_
                    exact m_iret C hW hS hw dX12_count_141
                  · have hw := hw.2 hc11
                    refine m_aldN C dX12_count_126 rfl h0 ?_
                    refine m_getR C hW rfl hk1 f_X12_94 rfl dX12_count_127 ?_
                    refine m_aldN C dX12_count_130 rfl h0 ?_
                    refine m_getI C hW rfl hk1 f_X12_199 rfl dX12_count_131 ?_
                    refine lv_iconst (v := 1) C.1 C.2.1 dX12_count_134 (by decide) ?_
                    refine lv_isub C.1 C.2.1 dX12_count_135 ?_
                    obtain ⟨b12, ho12, hw⟩ := hw
                    obtain ⟨hk13, hw⟩ := hw
                    obtain ⟨hi14, hw⟩ := hw
                    refine m_iald C hW ho12 hk13 hi14 dX12_count_136 ?_
                    refine lv_goto (tgt := 141) C.1 C.2.1 dX12_count_137 (by decide) ?_
                    exact m_iret C hW hS hw dX12_count_141
              · have hw := hw.2 hc15
                by_cases hc25 : a1 = 7
                · have hw := hw.1 hc25
                  refine lv_tableIn (tgt := 142) (off := 134) C.1 C.2.1 dX12_count_8 (by rw [hc25]; decide) (by rw [hc25]; decide) (by rw [hc25]; rfl) (by decide) ?_
                  refine m_aldN C dX12_count_142 rfl h0 ?_
                  refine m_rI (m_runV (As := []) (rest := []) C hW hS hL (c_X12_lengths hw) v_X12_294 ⟨rfl, rfl⟩ ⟨Nat.le_of_ble_eq_true rfl, Nat.le_of_ble_eq_true rfl⟩ rfl hk1 rfl rfl (Nat.le_of_ble_eq_true rfl) dX12_count_143 ⟨Nat.le_of_ble_eq_true rfl, Nat.le_of_ble_eq_true rfl⟩) hS (fun r17 S16 H locs hw hW hS => ?_)
                  refine lv_pop C.1 C.2.1 dX12_count_146 (rfl) ?_
                  refine m_aldN C dX12_count_147 rfl h0 ?_
                  refine lv_iconst (v := (-1)) C.1 C.2.1 dX12_count_148 (by decide) ?_
                  obtain ⟨hk18, hw⟩ := hw
                  refine m_rI (m_runV (As := [.int (-1)]) (rest := []) C hW hS hL (c_X12_nextOfChain hw) v_X12_298 ⟨rfl, rfl⟩ ⟨Nat.le_of_ble_eq_true rfl, Nat.le_of_ble_eq_true rfl⟩ rfl hk18 rfl rfl (Nat.le_of_ble_eq_true rfl) dX12_count_149 ⟨Nat.le_of_ble_eq_true rfl, Nat.le_of_ble_eq_true rfl⟩) hS (fun r20 S19 H locs hw hW hS => ?_)
                  refine m_istN C hL dX12_count_152 rfl (by decide) (fun ls hL hn9 hk9 => ?_)
                  have h0 := hk9 0 _ h0 (by decide) (Or.inl (by decide))
                  have h2 := hk9 2 _ h2 (by decide) (Or.inr (rfl))
                  have h3 := hn9
                  exact w_X12_count_L153 C  FU S19 0 r20 H locs ls hW hS hL h0 h2 h3 hw
                · have hw := hw.2 hc25
                  by_cases hc28 : a1 = 8
                  · have hw := hw.1 hc28
                    refine lv_tableIn (tgt := 172) (off := 164) C.1 C.2.1 dX12_count_8 (by rw [hc28]; decide) (by rw [hc28]; decide) (by rw [hc28]; rfl) (by decide) ?_
                    refine m_aldN C dX12_count_172 rfl h0 ?_
                    refine m_rI (m_runV (As := []) (rest := []) C hW hS hL (c_X12_lengths hw) v_X12_294 ⟨rfl, rfl⟩ ⟨Nat.le_of_ble_eq_true rfl, Nat.le_of_ble_eq_true rfl⟩ rfl hk1 rfl rfl (Nat.le_of_ble_eq_true rfl) dX12_count_173 ⟨Nat.le_of_ble_eq_true rfl, Nat.le_of_ble_eq_true rfl⟩) hS (fun r27 S26 H locs hw hW hS => ?_)
                    exact m_iret C hW hS hw dX12_count_176
                  · have hw := hw.2 hc28
                    refine lv_tableOut (tgt := 177) C.1 C.2.1 dX12_count_8 (tsw_out 0 8 (fun v h1 h2 => ?_)) (by decide) ?_
                    · have : v = 0 ∨ v = 1 ∨ v = 2 ∨ v = 3 ∨ v = 4 ∨ v = 5 ∨ v = 6 ∨ v = 7 ∨ v = 8 := by omega
                      rcases this with rfl | rfl | rfl | rfl | rfl | rfl | rfl | rfl | rfl
                      · exact lv_neT hc2 (by decide)
                      · exact lv_neT hc3 (by decide)
                      · exact lv_neT hc4 (by decide)
                      · exact lv_neT hc5 (by decide)
                      · exact lv_neT hc7 (by decide)
                      · exact lv_neT hc9 (by decide)
                      · exact lv_neT hc15 (by decide)
                      · exact lv_neT hc25 (by decide)
                      · exact lv_neT hc28 (by decide)
                    · refine lv_iconst (v := (-1)) C.1 C.2.1 dX12_count_177 (by decide) ?_
                      exact m_iret C hW hS hw dX12_count_178
def wp_X11_knownJob (S : Hp) (a0 : Nat) (a1 : Int32) (Q : Option Nat → Hp → Prop) (QX : Hp → Prop) : Prop := hK S a0 = 13 ∧ ∃ b2 : Nat, (hR S a0 0) = some b2 ∧ hK S b2 = 11 ∧ wp_X9_hasJob S b2 a1 (fun r5 S4 => (r5 = 0 → QX S4) ∧ (¬ (r5 = 0) → hK S4 a0 = 13 ∧ ∃ b8 : Nat, (hR S4 a0 0) = some b8 ∧ hK S4 b8 = 11 ∧ ∃ b10 : Nat, (hR S4 b8 5) = some b10 ∧ hK S4 b10 = 19 ∧ vp_in a1 (hN S4 b10) ∧ Q (hR S4 b10 (a1 : Int32).toNatClampNeg) S4))
set_option maxRecDepth 100000 in
set_option maxHeartbeats 4000000 in
theorem c_X11_knownJob {l : Launch} (hl : l.stackTraces = false) {G : GX} {S : Hp} {a0 : Nat} {a1 : Int32} {Q : Option Nat → Hp → Prop} {QX : Hp → Prop} (hw : wp_X11_knownJob S a0 a1 Q QX) : vx_Met l yX11_knownJob (Cond.code yX11_knownJob cX11_knownJob 2 (some (.object "SetWorkshop$Job")) :: TS) { frames := 6, cells := 1, slots := 6, locals := 82 } (Pk G S [va_rf (some a0), .int a1]) (QR G Q) (XT G QX) 1 6 G.2.2.1 := by
  refine m_metX (by decide) ?_
  intro p e s m below meth c H locs C hET hW hS
  have C : Cx p s m ([va_rf (some a0), .int a1] : List Value).toArray meth c cX11_knownJob 2 RX11 (some (.object "SetWorkshop$Job")) "knownJob" G := C
  obtain ⟨ls, hent, hL, hla⟩ := m_entry m (vs := [va_rf (some a0), .int a1]) (nn := 2) [1, 1] rfl (by decide)
  rw [hent]
  have h0 : ls[0]? = some (.val (va_rf (some a0))) := hla (0, va_rf (some a0)) (List.mem_of_getElem? (i := 0) rfl)
  have h1 : ls[1]? = some (.val (.int a1)) := hla (1, .int a1) (List.mem_of_getElem? (i := 1) rfl)
  clear hla
  generalize ([va_rf (some a0), .int a1] : List Value).toArray = args at C ⊢
  unfold wp_X11_knownJob at hw
  refine m_aldN C dX11_knownJob_0 rfl h0 ?_
  obtain ⟨hk1, hw⟩ := hw
  refine m_getR C hW rfl hk1 f_X11_10 rfl dX11_knownJob_1 ?_
  refine lv_iload_n C.1 C.2.1 dX11_knownJob_4 rfl h1 ?_
  obtain ⟨b2, ho2, hw⟩ := hw
  obtain ⟨hk3, hw⟩ := hw
  refine m_rI (m_runV (As := [.int a1]) (rest := []) C hW hS hL (c_X9_hasJob hw) v_X11_90 ⟨rfl, rfl⟩ ⟨Nat.le_of_ble_eq_true rfl, Nat.le_of_ble_eq_true rfl⟩ ho2 hk3 rfl rfl (Nat.le_of_ble_eq_true rfl) dX11_knownJob_5 ⟨Nat.le_of_ble_eq_true rfl, Nat.le_of_ble_eq_true rfl⟩) hS (fun r5 S4 H locs hw hW hS => ?_)
  refine lv_if_ne (tgt := 22) C.1 C.2.1 dX11_knownJob_8 (by decide) (fun hc6 => ?_) (fun hc6 => ?_)
  · have hw := hw.2 hc6
    refine m_aldN C dX11_knownJob_22 rfl h0 ?_
    obtain ⟨hk7, hw⟩ := hw
    refine m_getR C hW rfl hk7 f_X11_10 rfl dX11_knownJob_23 ?_
    obtain ⟨b8, ho8, hw⟩ := hw
    obtain ⟨hk9, hw⟩ := hw
    refine m_getR C hW ho8 hk9 f_X11_93 rfl dX11_knownJob_26 ?_
    refine lv_iload_n C.1 C.2.1 dX11_knownJob_29 rfl h1 ?_
    obtain ⟨b10, ho10, hw⟩ := hw
    obtain ⟨hk11, hw⟩ := hw
    obtain ⟨hi12, hw⟩ := hw
    refine m_aald C hW ho10 hk11 (by decide) (by decide) hi12 dX11_knownJob_30 ?_
    refine W.widen (k := 1) (n := 6) (by decide) (by decide) ?_
    exact vx_ret (m_aret C (Or.inl ⟨_, rfl⟩) hW hS (o := (hR S4 b10 (a1 : Int32).toNatClampNeg)) hw dX11_knownJob_31)
  · have hw := hw.1 hc6
    exact m_throwW1 C hl hET hW hS hL hw (text := "there is no such job") (by decide) dX11_knownJob_11 dX11_knownJob_14 dX11_knownJob_15 dX11_knownJob_18 dX11_knownJob_21 (Nat.le_of_ble_eq_true rfl) (Nat.le_of_ble_eq_true rfl) (Nat.le_of_ble_eq_true rfl) (Nat.le_of_ble_eq_true rfl) (Nat.le_of_ble_eq_true rfl) (Nat.le_of_ble_eq_true rfl)
def wp_X11_check (S : Hp) (a0 : Nat) (a1 : Int32) (Q : Int32 → Hp → Prop) (QX : Hp → Prop) : Prop := hK S a0 = 13 ∧ wp_X11_knownJob S a0 a1 (fun r3 S2 => ∃ b4 : Nat, r3 = some b4 ∧ hK S2 b4 = 6 ∧ ∃ b6 : Nat, (hR S2 b4 10) = some b6 ∧ hK S2 b6 = 9 ∧ wp_X7_fault S2 b6 (fun r9 S8 => Q r9 S8)) QX
set_option maxRecDepth 100000 in
set_option maxHeartbeats 4000000 in
theorem c_X11_check {l : Launch} (hl : l.stackTraces = false) {G : GX} {S : Hp} {a0 : Nat} {a1 : Int32} {Q : Int32 → Hp → Prop} {QX : Hp → Prop} (hw : wp_X11_check S a0 a1 Q QX) : vx_Met l yX11_check (Cond.code yX11_check cX11_check 2 (some .int) :: TS) { frames := 7, cells := 1, slots := 6, locals := 103 } (Pk G S [va_rf (some a0), .int a1]) (QI G Q) (XT G QX) 1 6 G.2.2.1 := by
  refine m_metX (by decide) ?_
  intro p e s m below meth c H locs C hET hW hS
  have C : Cx p s m ([va_rf (some a0), .int a1] : List Value).toArray meth c cX11_check 2 RX11 (some .int) "check" G := C
  obtain ⟨ls, hent, hL, hla⟩ := m_entry m (vs := [va_rf (some a0), .int a1]) (nn := 2) [1, 1] rfl (by decide)
  rw [hent]
  have h0 : ls[0]? = some (.val (va_rf (some a0))) := hla (0, va_rf (some a0)) (List.mem_of_getElem? (i := 0) rfl)
  have h1 : ls[1]? = some (.val (.int a1)) := hla (1, .int a1) (List.mem_of_getElem? (i := 1) rfl)
  clear hla
  generalize ([va_rf (some a0), .int a1] : List Value).toArray = args at C ⊢
  unfold wp_X11_check at hw
  refine m_aldN C dX11_check_0 rfl h0 ?_
  refine lv_iload_n C.1 C.2.1 dX11_check_1 rfl h1 ?_
  obtain ⟨hk1, hw⟩ := hw
  refine m_xR (m_runX (As := [.int a1]) (rest := []) C hW hS hL (c_X11_knownJob hl hw) v_X11_177 ⟨rfl, rfl⟩ ⟨Nat.le_of_ble_eq_true rfl, Nat.le_of_ble_eq_true rfl⟩ rfl hk1 rfl rfl (Nat.le_of_ble_eq_true rfl) dX11_check_2 ⟨Nat.le_of_ble_eq_true rfl, Nat.le_of_ble_eq_true rfl⟩) hS (fun S1 q ce H1 locs1 hq hW hS h1 h2 h3 => m_xout C hET hq hW hS h1 h2 h3 (Nat.le_of_ble_eq_true rfl) (Nat.le_of_ble_eq_true rfl)) (fun r3 S2 H locs hw hW hS => ?_)
  obtain ⟨b4, ho4, hw⟩ := hw
  obtain ⟨hk5, hw⟩ := hw
  refine m_getR C hW ho4 hk5 f_X11_142 rfl dX11_check_5 ?_
  obtain ⟨b6, ho6, hw⟩ := hw
  obtain ⟨hk7, hw⟩ := hw
  refine m_rI (m_runV (As := []) (rest := []) C hW hS hL (c_X7_fault hw) v_X11_220 ⟨rfl, rfl⟩ ⟨Nat.le_of_ble_eq_true rfl, Nat.le_of_ble_eq_true rfl⟩ ho6 hk7 rfl rfl (Nat.le_of_ble_eq_true rfl) dX11_check_8 ⟨Nat.le_of_ble_eq_true rfl, Nat.le_of_ble_eq_true rfl⟩) hS (fun r9 S8 H locs hw hW hS => ?_)
  exact vx_ret (m_iret C hW hS hw dX11_check_11)
def wp_X11_failure (S : Hp) (a0 : Nat) (a1 : Int32) (a2 : Int32) (Q : Int32 → Hp → Prop) (QX : Hp → Prop) : Prop := hK S a0 = 13 ∧ ∃ b2 : Nat, (hR S a0 3) = some b2 ∧ hK S b2 = 10 ∧ wp_X8_failedJob S b2 a1 (fun r5 S4 => (r5 = (-1) → QX S4) ∧ (¬ (r5 = (-1)) → hK S4 a0 = 13 ∧ ∃ b8 : Nat, (hR S4 a0 0) = some b8 ∧ hK S4 b8 = 11 ∧ ∃ b10 : Nat, (hR S4 b8 5) = some b10 ∧ hK S4 b10 = 19 ∧ vp_in r5 (hN S4 b10) ∧ ∃ b13 : Nat, (hR S4 b10 (r5 : Int32).toNatClampNeg) = some b13 ∧ hK S4 b13 = 6 ∧ (a2 = 0 → Q r5 S4) ∧ (¬ (a2 = 0) → (a2 = 1 → ∃ b16 : Nat, (hR S4 b13 15) = some b16 ∧ hK S4 b16 = 12 ∧ Q (hI S4 b16 6) S4) ∧ (¬ (a2 = 1) → (a2 = 2 → ∃ b19 : Nat, (hR S4 b13 15) = some b19 ∧ hK S4 b19 = 12 ∧ Q (hI S4 b19 2) S4) ∧ (¬ (a2 = 2) → (a2 = 3 → (a1 = 0 → Q (-1) S4) ∧ (¬ (a1 = 0) → ∃ b23 : Nat, (hR S4 a0 3) = some b23 ∧ hK S4 b23 = 10 ∧ wp_X8_failedJob S4 b23 0 (fun r26 S25 => Q r26 S25))) ∧ (¬ (a2 = 3) → Q (-1) S4))))))
set_option maxRecDepth 100000 in
set_option maxHeartbeats 4000000 in
theorem c_X11_failure {l : Launch} (hl : l.stackTraces = false) {G : GX} {S : Hp} {a0 : Nat} {a1 : Int32} {a2 : Int32} {Q : Int32 → Hp → Prop} {QX : Hp → Prop} (hw : wp_X11_failure S a0 a1 a2 Q QX) : vx_Met l yX11_failure (Cond.code yX11_failure cX11_failure 5 (some .int) :: TS) { frames := 6, cells := 1, slots := 6, locals := 82 } (Pk G S [va_rf (some a0), .int a1, .int a2]) (QI G Q) (XT G QX) 1 6 G.2.2.1 := by
  refine m_metX (by decide) ?_
  intro p e s m below meth c H locs C hET hW hS
  have C : Cx p s m ([va_rf (some a0), .int a1, .int a2] : List Value).toArray meth c cX11_failure 5 RX11 (some .int) "failure" G := C
  obtain ⟨ls, hent, hL, hla⟩ := m_entry m (vs := [va_rf (some a0), .int a1, .int a2]) (nn := 5) [1, 1, 1] rfl (by decide)
  rw [hent]
  have h0 : ls[0]? = some (.val (va_rf (some a0))) := hla (0, va_rf (some a0)) (List.mem_of_getElem? (i := 0) rfl)
  have h1 : ls[1]? = some (.val (.int a1)) := hla (1, .int a1) (List.mem_of_getElem? (i := 1) rfl)
  have h2 : ls[2]? = some (.val (.int a2)) := hla (2, .int a2) (List.mem_of_getElem? (i := 2) rfl)
  clear hla
  generalize ([va_rf (some a0), .int a1, .int a2] : List Value).toArray = args at C ⊢
  unfold wp_X11_failure at hw
  refine m_aldN C dX11_failure_0 rfl h0 ?_
  obtain ⟨hk1, hw⟩ := hw
  refine m_getR C hW rfl hk1 f_X11_35 rfl dX11_failure_1 ?_
  refine lv_iload_n C.1 C.2.1 dX11_failure_4 rfl h1 ?_
  obtain ⟨b2, ho2, hw⟩ := hw
  obtain ⟨hk3, hw⟩ := hw
  refine m_rI (m_runV (As := [.int a1]) (rest := []) C hW hS hL (c_X8_failedJob hw) v_X11_226 ⟨rfl, rfl⟩ ⟨Nat.le_of_ble_eq_true rfl, Nat.le_of_ble_eq_true rfl⟩ ho2 hk3 rfl rfl (Nat.le_of_ble_eq_true rfl) dX11_failure_5 ⟨Nat.le_of_ble_eq_true rfl, Nat.le_of_ble_eq_true rfl⟩) hS (fun r5 S4 H locs hw hW hS => ?_)
  refine m_istN C hL dX11_failure_8 rfl (by decide) (fun ls hL hn9 hk9 => ?_)
  have h0 := hk9 0 _ h0 (by decide) (Or.inl (by decide))
  have h1 := hk9 1 _ h1 (by decide) (Or.inl (by decide))
  have h2 := hk9 2 _ h2 (by decide) (Or.inr (rfl))
  have h3 := hn9
  refine lv_iload_n C.1 C.2.1 dX11_failure_9 rfl h3 ?_
  refine lv_iconst (v := (-1)) C.1 C.2.1 dX11_failure_10 (by decide) ?_
  refine lv_icmp_ne (tgt := 24) C.1 C.2.1 dX11_failure_11 (by decide) (fun hc6 => ?_) (fun hc6 => ?_)
  · have hw := hw.2 hc6
    refine m_aldN C dX11_failure_24 rfl h0 ?_
    obtain ⟨hk7, hw⟩ := hw
    refine m_getR C hW rfl hk7 f_X11_10 rfl dX11_failure_25 ?_
    obtain ⟨b8, ho8, hw⟩ := hw
    obtain ⟨hk9, hw⟩ := hw
    refine m_getR C hW ho8 hk9 f_X11_93 rfl dX11_failure_28 ?_
    refine lv_iload_n C.1 C.2.1 dX11_failure_31 rfl h3 ?_
    obtain ⟨b10, ho10, hw⟩ := hw
    obtain ⟨hk11, hw⟩ := hw
    obtain ⟨hi12, hw⟩ := hw
    refine m_aald C hW ho10 hk11 (by decide) (by decide) hi12 dX11_failure_32 ?_
    obtain ⟨b13, ho13, hw⟩ := hw
    obtain ⟨hk14, hw⟩ := hw
    refine m_getR C hW ho13 hk14 f_X11_181 rfl dX11_failure_33 ?_
    refine m_ast_ C hL dX11_failure_36 (by decide) (fun ls hL hn9 hk9 => ?_)
    have h0 := hk9 0 _ h0 (by decide) (Or.inl (by decide))
    have h1 := hk9 1 _ h1 (by decide) (Or.inl (by decide))
    have h2 := hk9 2 _ h2 (by decide) (Or.inl (by decide))
    have h3 := hk9 3 _ h3 (by decide) (Or.inr (rfl))
    have h4 := hn9
    refine lv_iload_n C.1 C.2.1 dX11_failure_38 rfl h2 ?_
    by_cases hc15 : a2 = 0
    · have hw := hw.1 hc15
      refine lv_tableIn (tgt := 68) (off := 29) C.1 C.2.1 dX11_failure_39 (by rw [hc15]; decide) (by rw [hc15]; decide) (by rw [hc15]; rfl) (by decide) ?_
      refine lv_iload_n C.1 C.2.1 dX11_failure_68 rfl h3 ?_
      refine W.widen (k := 1) (n := 6) (by decide) (by decide) ?_
      exact vx_ret (m_iret C hW hS hw dX11_failure_69)
    · have hw := hw.2 hc15
      by_cases hc18 : a2 = 1
      · have hw := hw.1 hc18
        refine lv_tableIn (tgt := 70) (off := 31) C.1 C.2.1 dX11_failure_39 (by rw [hc18]; decide) (by rw [hc18]; decide) (by rw [hc18]; rfl) (by decide) ?_
        refine m_ald C dX11_failure_70 h4 ?_
        obtain ⟨b16, ho16, hw⟩ := hw
        obtain ⟨hk17, hw⟩ := hw
        refine m_getI C hW ho16 hk17 f_X11_205 rfl dX11_failure_72 ?_
        refine W.widen (k := 1) (n := 6) (by decide) (by decide) ?_
        exact vx_ret (m_iret C hW hS hw dX11_failure_75)
      · have hw := hw.2 hc18
        by_cases hc21 : a2 = 2
        · have hw := hw.1 hc21
          refine lv_tableIn (tgt := 76) (off := 37) C.1 C.2.1 dX11_failure_39 (by rw [hc21]; decide) (by rw [hc21]; decide) (by rw [hc21]; rfl) (by decide) ?_
          refine m_ald C dX11_failure_76 h4 ?_
          obtain ⟨b19, ho19, hw⟩ := hw
          obtain ⟨hk20, hw⟩ := hw
          refine m_getI C hW ho19 hk20 f_X11_193 rfl dX11_failure_78 ?_
          refine W.widen (k := 1) (n := 6) (by decide) (by decide) ?_
          exact vx_ret (m_iret C hW hS hw dX11_failure_81)
        · have hw := hw.2 hc21
          by_cases hc27 : a2 = 3
          · have hw := hw.1 hc27
            refine lv_tableIn (tgt := 82) (off := 43) C.1 C.2.1 dX11_failure_39 (by rw [hc27]; decide) (by rw [hc27]; decide) (by rw [hc27]; rfl) (by decide) ?_
            refine lv_iload_n C.1 C.2.1 dX11_failure_82 rfl h1 ?_
            refine lv_if_ne (tgt := 90) C.1 C.2.1 dX11_failure_83 (by decide) (fun hc22 => ?_) (fun hc22 => ?_)
            · have hw := hw.2 hc22
              refine m_aldN C dX11_failure_90 rfl h0 ?_
              refine m_getR C hW rfl hk7 f_X11_35 rfl dX11_failure_91 ?_
              refine lv_iconst (v := 0) C.1 C.2.1 dX11_failure_94 (by decide) ?_
              obtain ⟨b23, ho23, hw⟩ := hw
              obtain ⟨hk24, hw⟩ := hw
              refine m_rI (m_runV (As := [.int 0]) (rest := []) C hW hS hL (c_X8_failedJob hw) v_X11_226 ⟨rfl, rfl⟩ ⟨Nat.le_of_ble_eq_true rfl, Nat.le_of_ble_eq_true rfl⟩ ho23 hk24 rfl rfl (Nat.le_of_ble_eq_true rfl) dX11_failure_95 ⟨Nat.le_of_ble_eq_true rfl, Nat.le_of_ble_eq_true rfl⟩) hS (fun r26 S25 H locs hw hW hS => ?_)
              refine W.widen (k := 1) (n := 6) (by decide) (by decide) ?_
              exact vx_ret (m_iret C hW hS hw dX11_failure_98)
            · have hw := hw.1 hc22
              refine lv_iconst (v := (-1)) C.1 C.2.1 dX11_failure_86 (by decide) ?_
              refine lv_goto (tgt := 98) C.1 C.2.1 dX11_failure_87 (by decide) ?_
              refine W.widen (k := 1) (n := 6) (by decide) (by decide) ?_
              exact vx_ret (m_iret C hW hS hw dX11_failure_98)
          · have hw := hw.2 hc27
            refine lv_tableOut (tgt := 99) C.1 C.2.1 dX11_failure_39 (tsw_out 0 3 (fun v h1 h2 => ?_)) (by decide) ?_
            · have : v = 0 ∨ v = 1 ∨ v = 2 ∨ v = 3 := by omega
              rcases this with rfl | rfl | rfl | rfl
              · exact lv_neT hc15 (by decide)
              · exact lv_neT hc18 (by decide)
              · exact lv_neT hc21 (by decide)
              · exact lv_neT hc27 (by decide)
            · refine lv_iconst (v := (-1)) C.1 C.2.1 dX11_failure_99 (by decide) ?_
              refine W.widen (k := 1) (n := 6) (by decide) (by decide) ?_
              exact vx_ret (m_iret C hW hS hw dX11_failure_100)
  · have hw := hw.1 hc6
    exact m_throw1 C hl hET hW hS hL hw (text := "there is no such failure") (by decide) dX11_failure_14 dX11_failure_17 dX11_failure_18 dX11_failure_20 dX11_failure_23 (Nat.le_of_ble_eq_true rfl) (Nat.le_of_ble_eq_true rfl) (Nat.le_of_ble_eq_true rfl) (Nat.le_of_ble_eq_true rfl) (Nat.le_of_ble_eq_true rfl) (Nat.le_of_ble_eq_true rfl)
def wp_X11_had (S : Hp) (a0 : Nat) (a1 : Int32) (Q : Int32 → Hp → Prop) (QX : Hp → Prop) : Prop := hK S a0 = 13 ∧ ∃ b2 : Nat, (hR S a0 0) = some b2 ∧ hK S b2 = 11 ∧ wp_X9_hasMachine S b2 a1 (fun r5 S4 => (r5 = 0 → QX S4) ∧ (¬ (r5 = 0) → hK S4 a0 = 13 ∧ ∃ b8 : Nat, (hR S4 a0 3) = some b8 ∧ hK S4 b8 = 10 ∧ ∃ b10 : Nat, (hR S4 b8 3) = some b10 ∧ hK S4 b10 = 15 ∧ vp_in a1 (hN S4 b10) ∧ Q (hI S4 b10 (a1 : Int32).toNatClampNeg) S4))
set_option maxRecDepth 100000 in
set_option maxHeartbeats 4000000 in
theorem c_X11_had {l : Launch} (hl : l.stackTraces = false) {G : GX} {S : Hp} {a0 : Nat} {a1 : Int32} {Q : Int32 → Hp → Prop} {QX : Hp → Prop} (hw : wp_X11_had S a0 a1 Q QX) : vx_Met l yX11_had (Cond.code yX11_had cX11_had 2 (some .int) :: TS) { frames := 6, cells := 1, slots := 6, locals := 82 } (Pk G S [va_rf (some a0), .int a1]) (QI G Q) (XT G QX) 1 6 G.2.2.1 := by
  refine m_metX (by decide) ?_
  intro p e s m below meth c H locs C hET hW hS
  have C : Cx p s m ([va_rf (some a0), .int a1] : List Value).toArray meth c cX11_had 2 RX11 (some .int) "had" G := C
  obtain ⟨ls, hent, hL, hla⟩ := m_entry m (vs := [va_rf (some a0), .int a1]) (nn := 2) [1, 1] rfl (by decide)
  rw [hent]
  have h0 : ls[0]? = some (.val (va_rf (some a0))) := hla (0, va_rf (some a0)) (List.mem_of_getElem? (i := 0) rfl)
  have h1 : ls[1]? = some (.val (.int a1)) := hla (1, .int a1) (List.mem_of_getElem? (i := 1) rfl)
  clear hla
  generalize ([va_rf (some a0), .int a1] : List Value).toArray = args at C ⊢
  unfold wp_X11_had at hw
  refine m_aldN C dX11_had_0 rfl h0 ?_
  obtain ⟨hk1, hw⟩ := hw
  refine m_getR C hW rfl hk1 f_X11_10 rfl dX11_had_1 ?_
  refine lv_iload_n C.1 C.2.1 dX11_had_4 rfl h1 ?_
  obtain ⟨b2, ho2, hw⟩ := hw
  obtain ⟨hk3, hw⟩ := hw
  refine m_rI (m_runV (As := [.int a1]) (rest := []) C hW hS hL (c_X9_hasMachine hw) v_X11_116 ⟨rfl, rfl⟩ ⟨Nat.le_of_ble_eq_true rfl, Nat.le_of_ble_eq_true rfl⟩ ho2 hk3 rfl rfl (Nat.le_of_ble_eq_true rfl) dX11_had_5 ⟨Nat.le_of_ble_eq_true rfl, Nat.le_of_ble_eq_true rfl⟩) hS (fun r5 S4 H locs hw hW hS => ?_)
  refine lv_if_ne (tgt := 21) C.1 C.2.1 dX11_had_8 (by decide) (fun hc6 => ?_) (fun hc6 => ?_)
  · have hw := hw.2 hc6
    refine m_aldN C dX11_had_21 rfl h0 ?_
    obtain ⟨hk7, hw⟩ := hw
    refine m_getR C hW rfl hk7 f_X11_35 rfl dX11_had_22 ?_
    obtain ⟨b8, ho8, hw⟩ := hw
    obtain ⟨hk9, hw⟩ := hw
    refine m_getR C hW ho8 hk9 f_X11_246 rfl dX11_had_25 ?_
    refine lv_iload_n C.1 C.2.1 dX11_had_28 rfl h1 ?_
    obtain ⟨b10, ho10, hw⟩ := hw
    obtain ⟨hk11, hw⟩ := hw
    obtain ⟨hi12, hw⟩ := hw
    refine m_iald C hW ho10 hk11 hi12 dX11_had_29 ?_
    refine W.widen (k := 1) (n := 6) (by decide) (by decide) ?_
    exact vx_ret (m_iret C hW hS hw dX11_had_30)
  · have hw := hw.1 hc6
    exact m_throw1 C hl hET hW hS hL hw (text := "there is no such machine") (by decide) dX11_had_11 dX11_had_14 dX11_had_15 dX11_had_17 dX11_had_20 (Nat.le_of_ble_eq_true rfl) (Nat.le_of_ble_eq_true rfl) (Nat.le_of_ble_eq_true rfl) (Nat.le_of_ble_eq_true rfl) (Nat.le_of_ble_eq_true rfl) (Nat.le_of_ble_eq_true rfl)
def wp_X11_idle (S : Hp) (a0 : Nat) (a1 : Int32) (Q : Int64 → Hp → Prop) (QX : Hp → Prop) : Prop := hK S a0 = 13 ∧ ∃ b2 : Nat, (hR S a0 0) = some b2 ∧ hK S b2 = 11 ∧ wp_X9_hasCraft S b2 a1 (fun r5 S4 => (r5 = 0 → QX S4) ∧ (¬ (r5 = 0) → hK S4 a0 = 13 ∧ ∃ b8 : Nat, (hR S4 a0 0) = some b8 ∧ hK S4 b8 = 11 ∧ ∃ b10 : Nat, (hR S4 b8 0) = some b10 ∧ hK S4 b10 = 18 ∧ vp_in a1 (hN S4 b10) ∧ ∃ b13 : Nat, (hR S4 a0 3) = some b13 ∧ hK S4 b13 = 10 ∧ wp_X8_idleMinutes S4 b13 (hR S4 b10 (a1 : Int32).toNatClampNeg) (fun r16 S15 => Q r16 S15)))
set_option maxRecDepth 100000 in
set_option maxHeartbeats 4000000 in
theorem c_X11_idle {l : Launch} (hl : l.stackTraces = false) {G : GX} {S : Hp} {a0 : Nat} {a1 : Int32} {Q : Int64 → Hp → Prop} {QX : Hp → Prop} (hw : wp_X11_idle S a0 a1 Q QX) : vx_Met l yX11_idle (Cond.code yX11_idle cX11_idle 2 (some .long) :: TS) { frames := 6, cells := 1, slots := 6, locals := 82 } (Pk G S [va_rf (some a0), .int a1]) (QL G Q) (XT G QX) 1 6 G.2.2.1 := by
  refine m_metX (by decide) ?_
  intro p e s m below meth c H locs C hET hW hS
  have C : Cx p s m ([va_rf (some a0), .int a1] : List Value).toArray meth c cX11_idle 2 RX11 (some .long) "idle" G := C
  obtain ⟨ls, hent, hL, hla⟩ := m_entry m (vs := [va_rf (some a0), .int a1]) (nn := 2) [1, 1] rfl (by decide)
  rw [hent]
  have h0 : ls[0]? = some (.val (va_rf (some a0))) := hla (0, va_rf (some a0)) (List.mem_of_getElem? (i := 0) rfl)
  have h1 : ls[1]? = some (.val (.int a1)) := hla (1, .int a1) (List.mem_of_getElem? (i := 1) rfl)
  clear hla
  generalize ([va_rf (some a0), .int a1] : List Value).toArray = args at C ⊢
  unfold wp_X11_idle at hw
  refine m_aldN C dX11_idle_0 rfl h0 ?_
  obtain ⟨hk1, hw⟩ := hw
  refine m_getR C hW rfl hk1 f_X11_10 rfl dX11_idle_1 ?_
  refine lv_iload_n C.1 C.2.1 dX11_idle_4 rfl h1 ?_
  obtain ⟨b2, ho2, hw⟩ := hw
  obtain ⟨hk3, hw⟩ := hw
  refine m_rI (m_runV (As := [.int a1]) (rest := []) C hW hS hL (c_X9_hasCraft hw) v_X11_72 ⟨rfl, rfl⟩ ⟨Nat.le_of_ble_eq_true rfl, Nat.le_of_ble_eq_true rfl⟩ ho2 hk3 rfl rfl (Nat.le_of_ble_eq_true rfl) dX11_idle_5 ⟨Nat.le_of_ble_eq_true rfl, Nat.le_of_ble_eq_true rfl⟩) hS (fun r5 S4 H locs hw hW hS => ?_)
  refine lv_if_ne (tgt := 21) C.1 C.2.1 dX11_idle_8 (by decide) (fun hc6 => ?_) (fun hc6 => ?_)
  · have hw := hw.2 hc6
    refine m_aldN C dX11_idle_21 rfl h0 ?_
    obtain ⟨hk7, hw⟩ := hw
    refine m_getR C hW rfl hk7 f_X11_35 rfl dX11_idle_22 ?_
    refine m_aldN C dX11_idle_25 rfl h0 ?_
    refine m_getR C hW rfl hk7 f_X11_10 rfl dX11_idle_26 ?_
    obtain ⟨b8, ho8, hw⟩ := hw
    obtain ⟨hk9, hw⟩ := hw
    refine m_getR C hW ho8 hk9 f_X11_82 rfl dX11_idle_29 ?_
    refine lv_iload_n C.1 C.2.1 dX11_idle_32 rfl h1 ?_
    obtain ⟨b10, ho10, hw⟩ := hw
    obtain ⟨hk11, hw⟩ := hw
    obtain ⟨hi12, hw⟩ := hw
    refine m_aald C hW ho10 hk11 (by decide) (by decide) hi12 dX11_idle_33 ?_
    obtain ⟨b13, ho13, hw⟩ := hw
    obtain ⟨hk14, hw⟩ := hw
    refine m_rL (m_runV (As := [va_rf (hR S4 b10 (a1 : Int32).toNatClampNeg)]) (rest := []) C hW hS hL (c_X8_idleMinutes hw) v_X11_251 ⟨rfl, rfl⟩ ⟨Nat.le_of_ble_eq_true rfl, Nat.le_of_ble_eq_true rfl⟩ ho13 hk14 rfl rfl (Nat.le_of_ble_eq_true rfl) dX11_idle_34 ⟨Nat.le_of_ble_eq_true rfl, Nat.le_of_ble_eq_true rfl⟩) hS (fun r16 S15 H locs hw hW hS => ?_)
    refine W.widen (k := 1) (n := 6) (by decide) (by decide) ?_
    exact vx_ret (m_lret C hW hS hw dX11_idle_37)
  · have hw := hw.1 hc6
    exact m_throw1 C hl hET hW hS hL hw (text := "there is no such craft") (by decide) dX11_idle_11 dX11_idle_14 dX11_idle_15 dX11_idle_17 dX11_idle_20 (Nat.le_of_ble_eq_true rfl) (Nat.le_of_ble_eq_true rfl) (Nat.le_of_ble_eq_true rfl) (Nat.le_of_ble_eq_true rfl) (Nat.le_of_ble_eq_true rfl) (Nat.le_of_ble_eq_true rfl)
def wp_X11_leans (S : Hp) (a0 : Nat) (a1 : Int32) (a2 : Int32) (Q : Int32 → Hp → Prop) (QX : Hp → Prop) : Prop := hK S a0 = 13 ∧ wp_X11_knownJob S a0 a1 (fun r3 S2 => hK S2 a0 = 13 ∧ wp_X11_knownJob S2 a0 a2 (fun r6 S5 => ∃ b7 : Nat, r3 = some b7 ∧ hK S5 b7 = 6 ∧ ∃ b9 : Nat, r6 = some b9 ∧ hK S5 b9 = 6 ∧ ∃ b11 : Nat, (hR S5 b7 6) = some b11 ∧ hK S5 b11 = 7 ∧ wp_X5_has S5 b11 (hI S5 b9 0) (fun r14 S13 => (r14 = 0 ∨ r14 = 1) ∧ Q r14 S13)) QX) QX
set_option maxRecDepth 100000 in
set_option maxHeartbeats 4000000 in
theorem c_X11_leans {l : Launch} (hl : l.stackTraces = false) {G : GX} {S : Hp} {a0 : Nat} {a1 : Int32} {a2 : Int32} {Q : Int32 → Hp → Prop} {QX : Hp → Prop} (hw : wp_X11_leans S a0 a1 a2 Q QX) : vx_Met l yX11_leans (Cond.code yX11_leans cX11_leans 5 (some .boolean) :: TS) { frames := 7, cells := 2, slots := 12, locals := 103 } (Pk G S [va_rf (some a0), .int a1, .int a2]) (QI G Q) (XT G QX) 2 12 G.2.2.1 := by
  refine m_metX (by decide) ?_
  intro p e s m below meth c H locs C hET hW hS
  have C : Cx p s m ([va_rf (some a0), .int a1, .int a2] : List Value).toArray meth c cX11_leans 5 RX11 (some .boolean) "leans" G := C
  obtain ⟨ls, hent, hL, hla⟩ := m_entry m (vs := [va_rf (some a0), .int a1, .int a2]) (nn := 5) [1, 1, 1] rfl (by decide)
  rw [hent]
  have h0 : ls[0]? = some (.val (va_rf (some a0))) := hla (0, va_rf (some a0)) (List.mem_of_getElem? (i := 0) rfl)
  have h1 : ls[1]? = some (.val (.int a1)) := hla (1, .int a1) (List.mem_of_getElem? (i := 1) rfl)
  have h2 : ls[2]? = some (.val (.int a2)) := hla (2, .int a2) (List.mem_of_getElem? (i := 2) rfl)
  clear hla
  generalize ([va_rf (some a0), .int a1, .int a2] : List Value).toArray = args at C ⊢
  unfold wp_X11_leans at hw
  refine m_aldN C dX11_leans_0 rfl h0 ?_
  refine lv_iload_n C.1 C.2.1 dX11_leans_1 rfl h1 ?_
  obtain ⟨hk1, hw⟩ := hw
  refine m_xR (m_runX (As := [.int a1]) (rest := []) C hW hS hL (c_X11_knownJob hl hw) v_X11_177 ⟨rfl, rfl⟩ ⟨Nat.le_of_ble_eq_true rfl, Nat.le_of_ble_eq_true rfl⟩ rfl hk1 rfl rfl (Nat.le_of_ble_eq_true rfl) dX11_leans_2 ⟨Nat.le_of_ble_eq_true rfl, Nat.le_of_ble_eq_true rfl⟩) hS (fun S1 q ce H1 locs1 hq hW hS h1 h2 h3 => m_xout C hET hq hW hS h1 h2 h3 (Nat.le_of_ble_eq_true rfl) (Nat.le_of_ble_eq_true rfl)) (fun r3 S2 H locs hw hW hS => ?_)
  refine m_astN C hL dX11_leans_5 rfl (by decide) (fun ls hL hn9 hk9 => ?_)
  have h0 := hk9 0 _ h0 (by decide) (Or.inl (by decide))
  have h2 := hk9 2 _ h2 (by decide) (Or.inr (rfl))
  have h3 := hn9
  refine m_aldN C dX11_leans_6 rfl h0 ?_
  refine lv_iload_n C.1 C.2.1 dX11_leans_7 rfl h2 ?_
  obtain ⟨hk4, hw⟩ := hw
  refine m_xR (m_runX (As := [.int a2]) (rest := []) C hW hS hL (c_X11_knownJob hl hw) v_X11_177 ⟨rfl, rfl⟩ ⟨Nat.le_of_ble_eq_true rfl, Nat.le_of_ble_eq_true rfl⟩ rfl hk4 rfl rfl (Nat.le_of_ble_eq_true rfl) dX11_leans_8 ⟨Nat.le_of_ble_eq_true rfl, Nat.le_of_ble_eq_true rfl⟩) hS (fun S1 q ce H1 locs1 hq hW hS h1 h2 h3 => m_xout C hET hq hW hS h1 h2 h3 (Nat.le_of_ble_eq_true rfl) (Nat.le_of_ble_eq_true rfl)) (fun r6 S5 H locs hw hW hS => ?_)
  refine m_ast_ C hL dX11_leans_11 (by decide) (fun ls hL hn9 hk9 => ?_)
  have h3 := hk9 3 _ h3 (by decide) (Or.inr (va_rf_cat _))
  have h4 := hn9
  refine m_aldN C dX11_leans_13 rfl h3 ?_
  obtain ⟨b7, ho7, hw⟩ := hw
  obtain ⟨hk8, hw⟩ := hw
  refine m_getR C hW ho7 hk8 f_X11_103 rfl dX11_leans_14 ?_
  refine m_ald C dX11_leans_17 h4 ?_
  obtain ⟨b9, ho9, hw⟩ := hw
  obtain ⟨hk10, hw⟩ := hw
  refine m_getI C hW ho9 hk10 f_X11_276 rfl dX11_leans_19 ?_
  obtain ⟨b11, ho11, hw⟩ := hw
  obtain ⟨hk12, hw⟩ := hw
  refine m_rI (m_runV (As := [.int (hI S5 b9 0)]) (rest := []) C hW hS hL (c_X5_has hw) v_X11_107 ⟨rfl, rfl⟩ ⟨Nat.le_of_ble_eq_true rfl, Nat.le_of_ble_eq_true rfl⟩ ho11 hk12 rfl rfl (Nat.le_of_ble_eq_true rfl) dX11_leans_22 ⟨Nat.le_of_ble_eq_true rfl, Nat.le_of_ble_eq_true rfl⟩) hS (fun r14 S13 H locs hw hW hS => ?_)
  obtain ⟨hz15, hw⟩ := hw
  exact vx_ret (m_zret C hW hS hz15 hw dX11_leans_25)
def wp_X11_left (S : Hp) (a0 : Nat) (a1 : Int32) (Q : Int64 → Hp → Prop) (QX : Hp → Prop) : Prop := hK S a0 = 13 ∧ ∃ b2 : Nat, (hR S a0 0) = some b2 ∧ hK S b2 = 11 ∧ wp_X9_hasStock S b2 a1 (fun r5 S4 => (r5 = 0 → QX S4) ∧ (¬ (r5 = 0) → hK S4 a0 = 13 ∧ ∃ b8 : Nat, (hR S4 a0 3) = some b8 ∧ hK S4 b8 = 10 ∧ ((hI S4 b8 8) = 0 → ∃ b11 : Nat, (hR S4 a0 0) = some b11 ∧ hK S4 b11 = 11 ∧ ∃ b13 : Nat, (hR S4 b11 4) = some b13 ∧ hK S4 b13 = 16 ∧ vp_in a1 (hN S4 b13) ∧ Q (hJ S4 b13 (a1 : Int32).toNatClampNeg) S4) ∧ (¬ ((hI S4 b8 8) = 0) → ∃ b16 : Nat, (hR S4 b8 1) = some b16 ∧ hK S4 b16 = 16 ∧ vp_in a1 (hN S4 b16) ∧ Q (hJ S4 b16 (a1 : Int32).toNatClampNeg) S4)))
set_option maxRecDepth 100000 in
set_option maxHeartbeats 4000000 in
theorem c_X11_left {l : Launch} (hl : l.stackTraces = false) {G : GX} {S : Hp} {a0 : Nat} {a1 : Int32} {Q : Int64 → Hp → Prop} {QX : Hp → Prop} (hw : wp_X11_left S a0 a1 Q QX) : vx_Met l yX11_left (Cond.code yX11_left cX11_left 2 (some .long) :: TS) { frames := 6, cells := 1, slots := 6, locals := 82 } (Pk G S [va_rf (some a0), .int a1]) (QL G Q) (XT G QX) 1 6 G.2.2.1 := by
  refine m_metX (by decide) ?_
  intro p e s m below meth c H locs C hET hW hS
  have C : Cx p s m ([va_rf (some a0), .int a1] : List Value).toArray meth c cX11_left 2 RX11 (some .long) "left" G := C
  obtain ⟨ls, hent, hL, hla⟩ := m_entry m (vs := [va_rf (some a0), .int a1]) (nn := 2) [1, 1] rfl (by decide)
  rw [hent]
  have h0 : ls[0]? = some (.val (va_rf (some a0))) := hla (0, va_rf (some a0)) (List.mem_of_getElem? (i := 0) rfl)
  have h1 : ls[1]? = some (.val (.int a1)) := hla (1, .int a1) (List.mem_of_getElem? (i := 1) rfl)
  clear hla
  generalize ([va_rf (some a0), .int a1] : List Value).toArray = args at C ⊢
  unfold wp_X11_left at hw
  refine m_aldN C dX11_left_0 rfl h0 ?_
  obtain ⟨hk1, hw⟩ := hw
  refine m_getR C hW rfl hk1 f_X11_10 rfl dX11_left_1 ?_
  refine lv_iload_n C.1 C.2.1 dX11_left_4 rfl h1 ?_
  obtain ⟨b2, ho2, hw⟩ := hw
  obtain ⟨hk3, hw⟩ := hw
  refine m_rI (m_runV (As := [.int a1]) (rest := []) C hW hS hL (c_X9_hasStock hw) v_X11_61 ⟨rfl, rfl⟩ ⟨Nat.le_of_ble_eq_true rfl, Nat.le_of_ble_eq_true rfl⟩ ho2 hk3 rfl rfl (Nat.le_of_ble_eq_true rfl) dX11_left_5 ⟨Nat.le_of_ble_eq_true rfl, Nat.le_of_ble_eq_true rfl⟩) hS (fun r5 S4 H locs hw hW hS => ?_)
  refine lv_if_ne (tgt := 21) C.1 C.2.1 dX11_left_8 (by decide) (fun hc6 => ?_) (fun hc6 => ?_)
  · have hw := hw.2 hc6
    refine m_aldN C dX11_left_21 rfl h0 ?_
    obtain ⟨hk7, hw⟩ := hw
    refine m_getR C hW rfl hk7 f_X11_35 rfl dX11_left_22 ?_
    obtain ⟨b8, ho8, hw⟩ := hw
    obtain ⟨hk9, hw⟩ := hw
    refine m_getI C hW ho8 hk9 f_X11_238 rfl dX11_left_25 ?_
    refine lv_if_eq (tgt := 43) C.1 C.2.1 dX11_left_28 (by decide) (fun hc10 => ?_) (fun hc10 => ?_)
    · have hw := hw.1 hc10
      refine m_aldN C dX11_left_43 rfl h0 ?_
      refine m_getR C hW rfl hk7 f_X11_10 rfl dX11_left_44 ?_
      obtain ⟨b11, ho11, hw⟩ := hw
      obtain ⟨hk12, hw⟩ := hw
      refine m_getR C hW ho11 hk12 f_X11_66 rfl dX11_left_47 ?_
      refine lv_iload_n C.1 C.2.1 dX11_left_50 rfl h1 ?_
      obtain ⟨b13, ho13, hw⟩ := hw
      obtain ⟨hk14, hw⟩ := hw
      obtain ⟨hi15, hw⟩ := hw
      refine m_lald C hW ho13 hk14 hi15 dX11_left_51 ?_
      refine W.widen (k := 1) (n := 6) (by decide) (by decide) ?_
      exact vx_ret (m_lret C hW hS hw dX11_left_52)
    · have hw := hw.2 hc10
      refine m_aldN C dX11_left_31 rfl h0 ?_
      refine m_getR C hW rfl hk7 f_X11_35 rfl dX11_left_32 ?_
      refine m_getR C hW ho8 hk9 f_X11_241 rfl dX11_left_35 ?_
      refine lv_iload_n C.1 C.2.1 dX11_left_38 rfl h1 ?_
      obtain ⟨b16, ho16, hw⟩ := hw
      obtain ⟨hk17, hw⟩ := hw
      obtain ⟨hi18, hw⟩ := hw
      refine m_lald C hW ho16 hk17 hi18 dX11_left_39 ?_
      refine lv_goto (tgt := 52) C.1 C.2.1 dX11_left_40 (by decide) ?_
      refine W.widen (k := 1) (n := 6) (by decide) (by decide) ?_
      exact vx_ret (m_lret C hW hS hw dX11_left_52)
  · have hw := hw.1 hc6
    exact m_throw1 C hl hET hW hS hL hw (text := "there is no such stock") (by decide) dX11_left_11 dX11_left_14 dX11_left_15 dX11_left_17 dX11_left_20 (Nat.le_of_ble_eq_true rfl) (Nat.le_of_ble_eq_true rfl) (Nat.le_of_ble_eq_true rfl) (Nat.le_of_ble_eq_true rfl) (Nat.le_of_ble_eq_true rfl) (Nat.le_of_ble_eq_true rfl)
def wp_X11_part (S : Hp) (a0 : Nat) (a1 : Int32) (a2 : Int32) (Q : Int64 → Hp → Prop) (QX : Hp → Prop) : Prop := hK S a0 = 13 ∧ wp_X11_knownJob S a0 a1 (fun r3 S2 => ∃ b4 : Nat, r3 = some b4 ∧ hK S2 b4 = 6 ∧ ∃ b6 : Nat, (hR S2 b4 15) = some b6 ∧ hK S2 b6 = 12 ∧ ((hI S2 b6 0) = 1 → (a2 < 0 → Q 0 S2) ∧ (¬ (a2 < 0) → (a2 < 30 → hK S2 a0 = 13 ∧ ∃ b12 : Nat, (hR S2 a0 2) = some b12 ∧ hK S2 b12 = 3 ∧ wp_X1_compute S2 b12 (hR S2 b4 10) (fun S14 => hK S14 a0 = 13 ∧ ∃ b16 : Nat, (hR S14 a0 2) = some b16 ∧ hK S14 b16 = 3 ∧ ∃ b18 : Nat, (hR S14 b16 0) = some b18 ∧ hK S14 b18 = 16 ∧ vp_in a2 (hN S14 b18) ∧ Q (hJ S14 b18 (a2 : Int32).toNatClampNeg) S14)) ∧ (¬ (a2 < 30) → Q 0 S2))) ∧ (¬ ((hI S2 b6 0) = 1) → Q 0 S2)) QX
set_option maxRecDepth 100000 in
set_option maxHeartbeats 4000000 in
theorem c_X11_part {l : Launch} (hl : l.stackTraces = false) {G : GX} {S : Hp} {a0 : Nat} {a1 : Int32} {a2 : Int32} {Q : Int64 → Hp → Prop} {QX : Hp → Prop} (hw : wp_X11_part S a0 a1 a2 Q QX) : vx_Met l yX11_part (Cond.code yX11_part cX11_part 4 (some .long) :: TS) { frames := 7, cells := 1, slots := 6, locals := 103 } (Pk G S [va_rf (some a0), .int a1, .int a2]) (QL G Q) (XT G QX) 1 6 G.2.2.1 := by
  refine m_metX (by decide) ?_
  intro p e s m below meth c H locs C hET hW hS
  have C : Cx p s m ([va_rf (some a0), .int a1, .int a2] : List Value).toArray meth c cX11_part 4 RX11 (some .long) "part" G := C
  obtain ⟨ls, hent, hL, hla⟩ := m_entry m (vs := [va_rf (some a0), .int a1, .int a2]) (nn := 4) [1, 1, 1] rfl (by decide)
  rw [hent]
  have h0 : ls[0]? = some (.val (va_rf (some a0))) := hla (0, va_rf (some a0)) (List.mem_of_getElem? (i := 0) rfl)
  have h1 : ls[1]? = some (.val (.int a1)) := hla (1, .int a1) (List.mem_of_getElem? (i := 1) rfl)
  have h2 : ls[2]? = some (.val (.int a2)) := hla (2, .int a2) (List.mem_of_getElem? (i := 2) rfl)
  clear hla
  generalize ([va_rf (some a0), .int a1, .int a2] : List Value).toArray = args at C ⊢
  unfold wp_X11_part at hw
  refine m_aldN C dX11_part_0 rfl h0 ?_
  refine lv_iload_n C.1 C.2.1 dX11_part_1 rfl h1 ?_
  obtain ⟨hk1, hw⟩ := hw
  refine m_xR (m_runX (As := [.int a1]) (rest := []) C hW hS hL (c_X11_knownJob hl hw) v_X11_177 ⟨rfl, rfl⟩ ⟨Nat.le_of_ble_eq_true rfl, Nat.le_of_ble_eq_true rfl⟩ rfl hk1 rfl rfl (Nat.le_of_ble_eq_true rfl) dX11_part_2 ⟨Nat.le_of_ble_eq_true rfl, Nat.le_of_ble_eq_true rfl⟩) hS (fun S1 q ce H1 locs1 hq hW hS h1 h2 h3 => m_xout C hET hq hW hS h1 h2 h3 (Nat.le_of_ble_eq_true rfl) (Nat.le_of_ble_eq_true rfl)) (fun r3 S2 H locs hw hW hS => ?_)
  refine m_astN C hL dX11_part_5 rfl (by decide) (fun ls hL hn9 hk9 => ?_)
  have h0 := hk9 0 _ h0 (by decide) (Or.inl (by decide))
  have h2 := hk9 2 _ h2 (by decide) (Or.inr (rfl))
  have h3 := hn9
  refine m_aldN C dX11_part_6 rfl h3 ?_
  obtain ⟨b4, ho4, hw⟩ := hw
  obtain ⟨hk5, hw⟩ := hw
  refine m_getR C hW ho4 hk5 f_X11_181 rfl dX11_part_7 ?_
  obtain ⟨b6, ho6, hw⟩ := hw
  obtain ⟨hk7, hw⟩ := hw
  refine m_getI C hW ho6 hk7 f_X11_185 rfl dX11_part_10 ?_
  refine lv_iconst (v := 1) C.1 C.2.1 dX11_part_13 (by decide) ?_
  refine lv_icmp_ne (tgt := 27) C.1 C.2.1 dX11_part_14 (by decide) (fun hc8 => ?_) (fun hc8 => ?_)
  · have hw := hw.2 hc8
    refine lv_lconst (v := 0) C.1 C.2.1 dX11_part_27 (by decide) ?_
    exact vx_ret (m_lret C hW hS hw dX11_part_28)
  · have hw := hw.1 hc8
    refine lv_iload_n C.1 C.2.1 dX11_part_17 rfl h2 ?_
    refine lv_if_lt (tgt := 27) C.1 C.2.1 dX11_part_18 (by decide) (fun hc9 => ?_) (fun hc9 => ?_)
    · have hw := hw.1 hc9
      refine lv_lconst (v := 0) C.1 C.2.1 dX11_part_27 (by decide) ?_
      exact vx_ret (m_lret C hW hS hw dX11_part_28)
    · have hw := hw.2 hc9
      refine lv_iload_n C.1 C.2.1 dX11_part_21 rfl h2 ?_
      refine lv_bipush (v := 30) C.1 C.2.1 dX11_part_22 (by decide) ?_
      refine lv_icmp_lt (tgt := 29) C.1 C.2.1 dX11_part_24 (by decide) (fun hc10 => ?_) (fun hc10 => ?_)
      · have hw := hw.1 hc10
        refine m_aldN C dX11_part_29 rfl h0 ?_
        obtain ⟨hk11, hw⟩ := hw
        refine m_getR C hW rfl hk11 f_X11_28 rfl dX11_part_30 ?_
        refine m_aldN C dX11_part_33 rfl h3 ?_
        refine m_getR C hW ho4 hk5 f_X11_142 rfl dX11_part_34 ?_
        obtain ⟨b12, ho12, hw⟩ := hw
        obtain ⟨hk13, hw⟩ := hw
        refine m_rV (m_runV (As := [va_rf (hR S2 b4 10)]) (rest := []) C hW hS hL (c_X1_compute hw) v_X11_210 ⟨rfl, rfl⟩ ⟨Nat.le_of_ble_eq_true rfl, Nat.le_of_ble_eq_true rfl⟩ ho12 hk13 rfl rfl (Nat.le_of_ble_eq_true rfl) dX11_part_37 ⟨Nat.le_of_ble_eq_true rfl, Nat.le_of_ble_eq_true rfl⟩) hS (fun S14 H locs hw hW hS => ?_)
        refine m_aldN C dX11_part_40 rfl h0 ?_
        obtain ⟨hk15, hw⟩ := hw
        refine m_getR C hW rfl hk15 f_X11_28 rfl dX11_part_41 ?_
        obtain ⟨b16, ho16, hw⟩ := hw
        obtain ⟨hk17, hw⟩ := hw
        refine m_getR C hW ho16 hk17 f_X11_217 rfl dX11_part_44 ?_
        refine lv_iload_n C.1 C.2.1 dX11_part_47 rfl h2 ?_
        obtain ⟨b18, ho18, hw⟩ := hw
        obtain ⟨hk19, hw⟩ := hw
        obtain ⟨hi20, hw⟩ := hw
        refine m_lald C hW ho18 hk19 hi20 dX11_part_48 ?_
        exact vx_ret (m_lret C hW hS hw dX11_part_49)
      · have hw := hw.2 hc10
        refine lv_lconst (v := 0) C.1 C.2.1 dX11_part_27 (by decide) ?_
        exact vx_ret (m_lret C hW hS hw dX11_part_28)
def wp_X11_result (S : Hp) (a0 : Nat) (a1 : Int32) (Q : Int32 → Hp → Prop) (QX : Hp → Prop) : Prop := hK S a0 = 13 ∧ wp_X11_knownJob S a0 a1 (fun r3 S2 => ∃ b4 : Nat, r3 = some b4 ∧ hK S2 b4 = 6 ∧ ∃ b6 : Nat, (hR S2 b4 15) = some b6 ∧ hK S2 b6 = 12 ∧ ((hI S2 b6 0) = 1 → hK S2 a0 = 13 ∧ ∃ b10 : Nat, (hR S2 a0 2) = some b10 ∧ hK S2 b10 = 3 ∧ wp_X1_compute S2 b10 (hR S2 b4 10) (fun S12 => hK S12 a0 = 13 ∧ ∃ b14 : Nat, (hR S12 a0 2) = some b14 ∧ hK S12 b14 = 3 ∧ Q (hI S12 b14 2) S12)) ∧ (¬ ((hI S2 b6 0) = 1) → Q 0 S2)) QX
set_option maxRecDepth 100000 in
set_option maxHeartbeats 4000000 in
theorem c_X11_result {l : Launch} (hl : l.stackTraces = false) {G : GX} {S : Hp} {a0 : Nat} {a1 : Int32} {Q : Int32 → Hp → Prop} {QX : Hp → Prop} (hw : wp_X11_result S a0 a1 Q QX) : vx_Met l yX11_result (Cond.code yX11_result cX11_result 3 (some .int) :: TS) { frames := 7, cells := 1, slots := 6, locals := 103 } (Pk G S [va_rf (some a0), .int a1]) (QI G Q) (XT G QX) 1 6 G.2.2.1 := by
  refine m_metX (by decide) ?_
  intro p e s m below meth c H locs C hET hW hS
  have C : Cx p s m ([va_rf (some a0), .int a1] : List Value).toArray meth c cX11_result 3 RX11 (some .int) "result" G := C
  obtain ⟨ls, hent, hL, hla⟩ := m_entry m (vs := [va_rf (some a0), .int a1]) (nn := 3) [1, 1] rfl (by decide)
  rw [hent]
  have h0 : ls[0]? = some (.val (va_rf (some a0))) := hla (0, va_rf (some a0)) (List.mem_of_getElem? (i := 0) rfl)
  have h1 : ls[1]? = some (.val (.int a1)) := hla (1, .int a1) (List.mem_of_getElem? (i := 1) rfl)
  clear hla
  generalize ([va_rf (some a0), .int a1] : List Value).toArray = args at C ⊢
  unfold wp_X11_result at hw
  refine m_aldN C dX11_result_0 rfl h0 ?_
  refine lv_iload_n C.1 C.2.1 dX11_result_1 rfl h1 ?_
  obtain ⟨hk1, hw⟩ := hw
  refine m_xR (m_runX (As := [.int a1]) (rest := []) C hW hS hL (c_X11_knownJob hl hw) v_X11_177 ⟨rfl, rfl⟩ ⟨Nat.le_of_ble_eq_true rfl, Nat.le_of_ble_eq_true rfl⟩ rfl hk1 rfl rfl (Nat.le_of_ble_eq_true rfl) dX11_result_2 ⟨Nat.le_of_ble_eq_true rfl, Nat.le_of_ble_eq_true rfl⟩) hS (fun S1 q ce H1 locs1 hq hW hS h1 h2 h3 => m_xout C hET hq hW hS h1 h2 h3 (Nat.le_of_ble_eq_true rfl) (Nat.le_of_ble_eq_true rfl)) (fun r3 S2 H locs hw hW hS => ?_)
  refine m_astN C hL dX11_result_5 rfl (by decide) (fun ls hL hn9 hk9 => ?_)
  have h0 := hk9 0 _ h0 (by decide) (Or.inl (by decide))
  have h2 := hn9
  refine m_aldN C dX11_result_6 rfl h2 ?_
  obtain ⟨b4, ho4, hw⟩ := hw
  obtain ⟨hk5, hw⟩ := hw
  refine m_getR C hW ho4 hk5 f_X11_181 rfl dX11_result_7 ?_
  obtain ⟨b6, ho6, hw⟩ := hw
  obtain ⟨hk7, hw⟩ := hw
  refine m_getI C hW ho6 hk7 f_X11_185 rfl dX11_result_10 ?_
  refine lv_iconst (v := 1) C.1 C.2.1 dX11_result_13 (by decide) ?_
  refine lv_icmp_eq (tgt := 19) C.1 C.2.1 dX11_result_14 (by decide) (fun hc8 => ?_) (fun hc8 => ?_)
  · have hw := hw.1 hc8
    refine m_aldN C dX11_result_19 rfl h0 ?_
    obtain ⟨hk9, hw⟩ := hw
    refine m_getR C hW rfl hk9 f_X11_28 rfl dX11_result_20 ?_
    refine m_aldN C dX11_result_23 rfl h2 ?_
    refine m_getR C hW ho4 hk5 f_X11_142 rfl dX11_result_24 ?_
    obtain ⟨b10, ho10, hw⟩ := hw
    obtain ⟨hk11, hw⟩ := hw
    refine m_rV (m_runV (As := [va_rf (hR S2 b4 10)]) (rest := []) C hW hS hL (c_X1_compute hw) v_X11_210 ⟨rfl, rfl⟩ ⟨Nat.le_of_ble_eq_true rfl, Nat.le_of_ble_eq_true rfl⟩ ho10 hk11 rfl rfl (Nat.le_of_ble_eq_true rfl) dX11_result_27 ⟨Nat.le_of_ble_eq_true rfl, Nat.le_of_ble_eq_true rfl⟩) hS (fun S12 H locs hw hW hS => ?_)
    refine m_aldN C dX11_result_30 rfl h0 ?_
    obtain ⟨hk13, hw⟩ := hw
    refine m_getR C hW rfl hk13 f_X11_28 rfl dX11_result_31 ?_
    obtain ⟨b14, ho14, hw⟩ := hw
    obtain ⟨hk15, hw⟩ := hw
    refine m_getI C hW ho14 hk15 f_X11_214 rfl dX11_result_34 ?_
    exact vx_ret (m_iret C hW hS hw dX11_result_37)
  · have hw := hw.2 hc8
    refine lv_iconst (v := 0) C.1 C.2.1 dX11_result_17 (by decide) ?_
    exact vx_ret (m_iret C hW hS hw dX11_result_18)
def wp_X11_slack (S : Hp) (a0 : Nat) (a1 : Int32) (Q : Int32 → Hp → Prop) (QX : Hp → Prop) : Prop := hK S a0 = 13 ∧ wp_X11_knownJob S a0 a1 (fun r3 S2 => hK S2 a0 = 13 ∧ ∃ b5 : Nat, (hR S2 a0 1) = some b5 ∧ hK S2 b5 = 8 ∧ wp_X6_longestTail S2 b5 (fun r8 S7 => ∃ b9 : Nat, r3 = some b9 ∧ hK S7 b9 = 6 ∧ Q (((r8 - (hI S7 b9 13)) - (hI S7 b9 14)) + (hI S7 b9 2)) S7)) QX
set_option maxRecDepth 100000 in
set_option maxHeartbeats 4000000 in
theorem c_X11_slack {l : Launch} (hl : l.stackTraces = false) {G : GX} {S : Hp} {a0 : Nat} {a1 : Int32} {Q : Int32 → Hp → Prop} {QX : Hp → Prop} (hw : wp_X11_slack S a0 a1 Q QX) : vx_Met l yX11_slack (Cond.code yX11_slack cX11_slack 3 (some .int) :: TS) { frames := 7, cells := 1, slots := 6, locals := 148 } (Pk G S [va_rf (some a0), .int a1]) (QI G Q) (XT G QX) 1 6 G.2.2.1 := by
  refine m_metX (by decide) ?_
  intro p e s m below meth c H locs C hET hW hS
  have C : Cx p s m ([va_rf (some a0), .int a1] : List Value).toArray meth c cX11_slack 3 RX11 (some .int) "slack" G := C
  obtain ⟨ls, hent, hL, hla⟩ := m_entry m (vs := [va_rf (some a0), .int a1]) (nn := 3) [1, 1] rfl (by decide)
  rw [hent]
  have h0 : ls[0]? = some (.val (va_rf (some a0))) := hla (0, va_rf (some a0)) (List.mem_of_getElem? (i := 0) rfl)
  have h1 : ls[1]? = some (.val (.int a1)) := hla (1, .int a1) (List.mem_of_getElem? (i := 1) rfl)
  clear hla
  generalize ([va_rf (some a0), .int a1] : List Value).toArray = args at C ⊢
  unfold wp_X11_slack at hw
  refine m_aldN C dX11_slack_0 rfl h0 ?_
  refine lv_iload_n C.1 C.2.1 dX11_slack_1 rfl h1 ?_
  obtain ⟨hk1, hw⟩ := hw
  refine m_xR (m_runX (As := [.int a1]) (rest := []) C hW hS hL (c_X11_knownJob hl hw) v_X11_177 ⟨rfl, rfl⟩ ⟨Nat.le_of_ble_eq_true rfl, Nat.le_of_ble_eq_true rfl⟩ rfl hk1 rfl rfl (Nat.le_of_ble_eq_true rfl) dX11_slack_2 ⟨Nat.le_of_ble_eq_true rfl, Nat.le_of_ble_eq_true rfl⟩) hS (fun S1 q ce H1 locs1 hq hW hS h1 h2 h3 => m_xout C hET hq hW hS h1 h2 h3 (Nat.le_of_ble_eq_true rfl) (Nat.le_of_ble_eq_true rfl)) (fun r3 S2 H locs hw hW hS => ?_)
  refine m_astN C hL dX11_slack_5 rfl (by decide) (fun ls hL hn9 hk9 => ?_)
  have h0 := hk9 0 _ h0 (by decide) (Or.inl (by decide))
  have h2 := hn9
  refine m_aldN C dX11_slack_6 rfl h0 ?_
  obtain ⟨hk4, hw⟩ := hw
  refine m_getR C hW rfl hk4 f_X11_21 rfl dX11_slack_7 ?_
  obtain ⟨b5, ho5, hw⟩ := hw
  obtain ⟨hk6, hw⟩ := hw
  refine m_rI (m_runV (As := []) (rest := []) C hW hS hL (c_X6_longestTail hw) v_X11_279 ⟨rfl, rfl⟩ ⟨Nat.le_of_ble_eq_true rfl, Nat.le_of_ble_eq_true rfl⟩ ho5 hk6 rfl rfl (Nat.le_of_ble_eq_true rfl) dX11_slack_10 ⟨Nat.le_of_ble_eq_true rfl, Nat.le_of_ble_eq_true rfl⟩) hS (fun r8 S7 H locs hw hW hS => ?_)
  refine m_aldN C dX11_slack_13 rfl h2 ?_
  obtain ⟨b9, ho9, hw⟩ := hw
  obtain ⟨hk10, hw⟩ := hw
  refine m_getI C hW ho9 hk10 f_X11_282 rfl dX11_slack_14 ?_
  refine lv_isub C.1 C.2.1 dX11_slack_17 ?_
  refine m_aldN C dX11_slack_18 rfl h2 ?_
  refine m_getI C hW ho9 hk10 f_X11_285 rfl dX11_slack_19 ?_
  refine lv_isub C.1 C.2.1 dX11_slack_22 ?_
  refine m_aldN C dX11_slack_23 rfl h2 ?_
  refine m_getI C hW ho9 hk10 f_X11_162 rfl dX11_slack_24 ?_
  refine lv_iadd C.1 C.2.1 dX11_slack_27 ?_
  exact vx_ret (m_iret C hW hS hw dX11_slack_28)
def wp_X11_state (S : Hp) (a0 : Nat) (a1 : Int32) (a2 : Int32) (Q : Int32 → Hp → Prop) (QX : Hp → Prop) : Prop := hK S a0 = 13 ∧ wp_X11_knownJob S a0 a1 (fun r3 S2 => ∃ b4 : Nat, r3 = some b4 ∧ hK S2 b4 = 6 ∧ (a2 = 0 → ∃ b6 : Nat, (hR S2 b4 15) = some b6 ∧ hK S2 b6 = 12 ∧ Q (hI S2 b6 0) S2) ∧ (¬ (a2 = 0) → (a2 = 1 → ∃ b9 : Nat, (hR S2 b4 15) = some b9 ∧ hK S2 b9 = 12 ∧ Q (hI S2 b9 1) S2) ∧ (¬ (a2 = 1) → (a2 = 2 → ∃ b12 : Nat, (hR S2 b4 15) = some b12 ∧ hK S2 b12 = 12 ∧ Q (hI S2 b12 2) S2) ∧ (¬ (a2 = 2) → (a2 = 3 → ∃ b15 : Nat, (hR S2 b4 15) = some b15 ∧ hK S2 b15 = 12 ∧ Q (hI S2 b15 3) S2) ∧ (¬ (a2 = 3) → (a2 = 4 → ∃ b18 : Nat, (hR S2 b4 15) = some b18 ∧ hK S2 b18 = 12 ∧ Q (hI S2 b18 4) S2) ∧ (¬ (a2 = 4) → (a2 = 5 → ∃ b21 : Nat, (hR S2 b4 15) = some b21 ∧ hK S2 b21 = 12 ∧ Q (hI S2 b21 5) S2) ∧ (¬ (a2 = 5) → (a2 = 6 → ∃ b24 : Nat, (hR S2 b4 15) = some b24 ∧ hK S2 b24 = 12 ∧ Q (hI S2 b24 6) S2) ∧ (¬ (a2 = 6) → (a2 = 7 → hK S2 a0 = 13 ∧ ∃ b28 : Nat, (hR S2 a0 3) = some b28 ∧ hK S2 b28 = 10 ∧ wp_X8_culpritOf S2 b28 r3 (fun r31 S30 => Q r31 S30)) ∧ (¬ (a2 = 7) → Q (-1) S2))))))))) QX
set_option maxRecDepth 100000 in
set_option maxHeartbeats 4000000 in
theorem c_X11_state {l : Launch} (hl : l.stackTraces = false) {G : GX} {S : Hp} {a0 : Nat} {a1 : Int32} {a2 : Int32} {Q : Int32 → Hp → Prop} {QX : Hp → Prop} (hw : wp_X11_state S a0 a1 a2 Q QX) : vx_Met l yX11_state (Cond.code yX11_state cX11_state 5 (some .int) :: TS) { frames := 7, cells := 1, slots := 6, locals := 103 } (Pk G S [va_rf (some a0), .int a1, .int a2]) (QI G Q) (XT G QX) 1 6 G.2.2.1 := by
  refine m_metX (by decide) ?_
  intro p e s m below meth c H locs C hET hW hS
  have C : Cx p s m ([va_rf (some a0), .int a1, .int a2] : List Value).toArray meth c cX11_state 5 RX11 (some .int) "state" G := C
  obtain ⟨ls, hent, hL, hla⟩ := m_entry m (vs := [va_rf (some a0), .int a1, .int a2]) (nn := 5) [1, 1, 1] rfl (by decide)
  rw [hent]
  have h0 : ls[0]? = some (.val (va_rf (some a0))) := hla (0, va_rf (some a0)) (List.mem_of_getElem? (i := 0) rfl)
  have h1 : ls[1]? = some (.val (.int a1)) := hla (1, .int a1) (List.mem_of_getElem? (i := 1) rfl)
  have h2 : ls[2]? = some (.val (.int a2)) := hla (2, .int a2) (List.mem_of_getElem? (i := 2) rfl)
  clear hla
  generalize ([va_rf (some a0), .int a1, .int a2] : List Value).toArray = args at C ⊢
  unfold wp_X11_state at hw
  refine m_aldN C dX11_state_0 rfl h0 ?_
  refine lv_iload_n C.1 C.2.1 dX11_state_1 rfl h1 ?_
  obtain ⟨hk1, hw⟩ := hw
  refine m_xR (m_runX (As := [.int a1]) (rest := []) C hW hS hL (c_X11_knownJob hl hw) v_X11_177 ⟨rfl, rfl⟩ ⟨Nat.le_of_ble_eq_true rfl, Nat.le_of_ble_eq_true rfl⟩ rfl hk1 rfl rfl (Nat.le_of_ble_eq_true rfl) dX11_state_2 ⟨Nat.le_of_ble_eq_true rfl, Nat.le_of_ble_eq_true rfl⟩) hS (fun S1 q ce H1 locs1 hq hW hS h1 h2 h3 => m_xout C hET hq hW hS h1 h2 h3 (Nat.le_of_ble_eq_true rfl) (Nat.le_of_ble_eq_true rfl)) (fun r3 S2 H locs hw hW hS => ?_)
  refine m_astN C hL dX11_state_5 rfl (by decide) (fun ls hL hn9 hk9 => ?_)
  have h0 := hk9 0 _ h0 (by decide) (Or.inl (by decide))
  have h2 := hk9 2 _ h2 (by decide) (Or.inr (rfl))
  have h3 := hn9
  refine m_aldN C dX11_state_6 rfl h3 ?_
  obtain ⟨b4, ho4, hw⟩ := hw
  obtain ⟨hk5, hw⟩ := hw
  refine m_getR C hW ho4 hk5 f_X11_181 rfl dX11_state_7 ?_
  refine m_ast_ C hL dX11_state_10 (by decide) (fun ls hL hn9 hk9 => ?_)
  have h0 := hk9 0 _ h0 (by decide) (Or.inl (by decide))
  have h2 := hk9 2 _ h2 (by decide) (Or.inl (by decide))
  have h3 := hk9 3 _ h3 (by decide) (Or.inr (va_rf_cat _))
  have h4 := hn9
  refine lv_iload_n C.1 C.2.1 dX11_state_12 rfl h2 ?_
  by_cases hc8 : a2 = 0
  · have hw := hw.1 hc8
    refine lv_tableIn (tgt := 60) (off := 47) C.1 C.2.1 dX11_state_13 (by rw [hc8]; decide) (by rw [hc8]; decide) (by rw [hc8]; rfl) (by decide) ?_
    refine m_ald C dX11_state_60 h4 ?_
    obtain ⟨b6, ho6, hw⟩ := hw
    obtain ⟨hk7, hw⟩ := hw
    refine m_getI C hW ho6 hk7 f_X11_185 rfl dX11_state_62 ?_
    exact vx_ret (m_iret C hW hS hw dX11_state_65)
  · have hw := hw.2 hc8
    by_cases hc11 : a2 = 1
    · have hw := hw.1 hc11
      refine lv_tableIn (tgt := 66) (off := 53) C.1 C.2.1 dX11_state_13 (by rw [hc11]; decide) (by rw [hc11]; decide) (by rw [hc11]; rfl) (by decide) ?_
      refine m_ald C dX11_state_66 h4 ?_
      obtain ⟨b9, ho9, hw⟩ := hw
      obtain ⟨hk10, hw⟩ := hw
      refine m_getI C hW ho9 hk10 f_X11_190 rfl dX11_state_68 ?_
      exact vx_ret (m_iret C hW hS hw dX11_state_71)
    · have hw := hw.2 hc11
      by_cases hc14 : a2 = 2
      · have hw := hw.1 hc14
        refine lv_tableIn (tgt := 72) (off := 59) C.1 C.2.1 dX11_state_13 (by rw [hc14]; decide) (by rw [hc14]; decide) (by rw [hc14]; rfl) (by decide) ?_
        refine m_ald C dX11_state_72 h4 ?_
        obtain ⟨b12, ho12, hw⟩ := hw
        obtain ⟨hk13, hw⟩ := hw
        refine m_getI C hW ho12 hk13 f_X11_193 rfl dX11_state_74 ?_
        exact vx_ret (m_iret C hW hS hw dX11_state_77)
      · have hw := hw.2 hc14
        by_cases hc17 : a2 = 3
        · have hw := hw.1 hc17
          refine lv_tableIn (tgt := 78) (off := 65) C.1 C.2.1 dX11_state_13 (by rw [hc17]; decide) (by rw [hc17]; decide) (by rw [hc17]; rfl) (by decide) ?_
          refine m_ald C dX11_state_78 h4 ?_
          obtain ⟨b15, ho15, hw⟩ := hw
          obtain ⟨hk16, hw⟩ := hw
          refine m_getI C hW ho15 hk16 f_X11_196 rfl dX11_state_80 ?_
          exact vx_ret (m_iret C hW hS hw dX11_state_83)
        · have hw := hw.2 hc17
          by_cases hc20 : a2 = 4
          · have hw := hw.1 hc20
            refine lv_tableIn (tgt := 84) (off := 71) C.1 C.2.1 dX11_state_13 (by rw [hc20]; decide) (by rw [hc20]; decide) (by rw [hc20]; rfl) (by decide) ?_
            refine m_ald C dX11_state_84 h4 ?_
            obtain ⟨b18, ho18, hw⟩ := hw
            obtain ⟨hk19, hw⟩ := hw
            refine m_getI C hW ho18 hk19 f_X11_199 rfl dX11_state_86 ?_
            exact vx_ret (m_iret C hW hS hw dX11_state_89)
          · have hw := hw.2 hc20
            by_cases hc23 : a2 = 5
            · have hw := hw.1 hc23
              refine lv_tableIn (tgt := 90) (off := 77) C.1 C.2.1 dX11_state_13 (by rw [hc23]; decide) (by rw [hc23]; decide) (by rw [hc23]; rfl) (by decide) ?_
              refine m_ald C dX11_state_90 h4 ?_
              obtain ⟨b21, ho21, hw⟩ := hw
              obtain ⟨hk22, hw⟩ := hw
              refine m_getI C hW ho21 hk22 f_X11_202 rfl dX11_state_92 ?_
              exact vx_ret (m_iret C hW hS hw dX11_state_95)
            · have hw := hw.2 hc23
              by_cases hc26 : a2 = 6
              · have hw := hw.1 hc26
                refine lv_tableIn (tgt := 96) (off := 83) C.1 C.2.1 dX11_state_13 (by rw [hc26]; decide) (by rw [hc26]; decide) (by rw [hc26]; rfl) (by decide) ?_
                refine m_ald C dX11_state_96 h4 ?_
                obtain ⟨b24, ho24, hw⟩ := hw
                obtain ⟨hk25, hw⟩ := hw
                refine m_getI C hW ho24 hk25 f_X11_205 rfl dX11_state_98 ?_
                exact vx_ret (m_iret C hW hS hw dX11_state_101)
              · have hw := hw.2 hc26
                by_cases hc32 : a2 = 7
                · have hw := hw.1 hc32
                  refine lv_tableIn (tgt := 102) (off := 89) C.1 C.2.1 dX11_state_13 (by rw [hc32]; decide) (by rw [hc32]; decide) (by rw [hc32]; rfl) (by decide) ?_
                  refine m_aldN C dX11_state_102 rfl h0 ?_
                  obtain ⟨hk27, hw⟩ := hw
                  refine m_getR C hW rfl hk27 f_X11_35 rfl dX11_state_103 ?_
                  refine m_aldN C dX11_state_106 rfl h3 ?_
                  obtain ⟨b28, ho28, hw⟩ := hw
                  obtain ⟨hk29, hw⟩ := hw
                  refine m_rI (m_runV (As := [va_rf r3]) (rest := []) C hW hS hL (c_X8_culpritOf hw) v_X11_206 ⟨rfl, rfl⟩ ⟨Nat.le_of_ble_eq_true rfl, Nat.le_of_ble_eq_true rfl⟩ ho28 hk29 rfl rfl (Nat.le_of_ble_eq_true rfl) dX11_state_107 ⟨Nat.le_of_ble_eq_true rfl, Nat.le_of_ble_eq_true rfl⟩) hS (fun r31 S30 H locs hw hW hS => ?_)
                  exact vx_ret (m_iret C hW hS hw dX11_state_110)
                · have hw := hw.2 hc32
                  refine lv_tableOut (tgt := 111) C.1 C.2.1 dX11_state_13 (tsw_out 0 7 (fun v h1 h2 => ?_)) (by decide) ?_
                  · have : v = 0 ∨ v = 1 ∨ v = 2 ∨ v = 3 ∨ v = 4 ∨ v = 5 ∨ v = 6 ∨ v = 7 := by omega
                    rcases this with rfl | rfl | rfl | rfl | rfl | rfl | rfl | rfl
                    · exact lv_neT hc8 (by decide)
                    · exact lv_neT hc11 (by decide)
                    · exact lv_neT hc14 (by decide)
                    · exact lv_neT hc17 (by decide)
                    · exact lv_neT hc20 (by decide)
                    · exact lv_neT hc23 (by decide)
                    · exact lv_neT hc26 (by decide)
                    · exact lv_neT hc32 (by decide)
                  · refine lv_iconst (v := (-1)) C.1 C.2.1 dX11_state_111 (by decide) ?_
                    exact vx_ret (m_iret C hW hS hw dX11_state_112)
def wp_J8_hugeLength_7cf53 (S : Hp) (a0 : Int32) (a1 : Int32) (Q : Int32 → Hp → Prop) : Prop := ∀ x1 : Int32, x1 = (a0 + a1) → (0 ≤ x1 → (2147483639 < x1 → Q x1 S) ∧ (¬ (2147483639 < x1) → Q 2147483639 S)) ∧ (¬ (0 ≤ x1) → False)
set_option maxRecDepth 100000 in
set_option maxHeartbeats 4000000 in
theorem c_J8_hugeLength_7cf53 {l : Launch} {G : GX} {S : Hp} {a0 : Int32} {a1 : Int32} {Q : Int32 → Hp → Prop} (hw : wp_J8_hugeLength_7cf53 S a0 a1 Q) : Met l yJ8_hugeLength_7cf53 (Cond.code yJ8_hugeLength_7cf53 cJ8_hugeLength_7cf53 3 (some .int) :: TS) { frames := 0, cells := 0, slots := 0, locals := 0 } (Pk G S [.int a0, .int a1]) (QI G Q) 0 0 G.2.2.1 := by
  refine m_met (by decide) ?_
  intro p e s m below meth c H locs C hW hS
  have C : Cx p s m ([.int a0, .int a1] : List Value).toArray meth c cJ8_hugeLength_7cf53 3 RJ8 (some .int) "hugeLength" G := C
  obtain ⟨ls, hent, hL, hla⟩ := m_entry m (vs := [.int a0, .int a1]) (nn := 3) [1, 1] rfl (by decide)
  rw [hent]
  have h0 : ls[0]? = some (.val (.int a0)) := hla (0, .int a0) (List.mem_of_getElem? (i := 0) rfl)
  have h1 : ls[1]? = some (.val (.int a1)) := hla (1, .int a1) (List.mem_of_getElem? (i := 1) rfl)
  clear hla
  generalize ([.int a0, .int a1] : List Value).toArray = args at C ⊢
  unfold wp_J8_hugeLength_7cf53 at hw
  refine lv_iload_n C.1 C.2.1 dJ8_hugeLength_7cf53_0 rfl h0 ?_
  refine lv_iload_n C.1 C.2.1 dJ8_hugeLength_7cf53_1 rfl h1 ?_
  refine lv_iadd C.1 C.2.1 dJ8_hugeLength_7cf53_2 ?_
  refine lv_topi (fun x1 ex1 => ?_)
  have hw := hw x1 ex1
  refine m_istN C hL dJ8_hugeLength_7cf53_3 rfl (by decide) (fun ls hL hn9 hk9 => ?_)
  have h0 := hk9 0 _ h0 (by decide) (Or.inl (by decide))
  have h1 := hk9 1 _ h1 (by decide) (Or.inr (rfl))
  have h2 := hn9
  refine lv_iload_n C.1 C.2.1 dJ8_hugeLength_7cf53_4 rfl h2 ?_
  refine lv_if_ge (tgt := 49) C.1 C.2.1 dJ8_hugeLength_7cf53_5 (by decide) (fun hc2 => ?_) (fun hc2 => ?_)
  · have hw := hw.1 hc2
    refine lv_iload_n C.1 C.2.1 dJ8_hugeLength_7cf53_49 rfl h2 ?_
    refine lv_ldc (v := 2147483639) C.1 C.2.1 C.2.2.2.1 (C.2.2.2.2.1 _ tw_603) dJ8_hugeLength_7cf53_50 ?_
    refine lv_icmp_gt (tgt := 58) C.1 C.2.1 dJ8_hugeLength_7cf53_52 (by decide) (fun hc3 => ?_) (fun hc3 => ?_)
    · have hw := hw.1 hc3
      refine lv_iload_n C.1 C.2.1 dJ8_hugeLength_7cf53_58 rfl h2 ?_
      exact m_iret C hW hS hw dJ8_hugeLength_7cf53_59
    · have hw := hw.2 hc3
      refine lv_ldc (v := 2147483639) C.1 C.2.1 C.2.2.2.1 (C.2.2.2.2.1 _ tw_603) dJ8_hugeLength_7cf53_55 ?_
      exact m_iret C hW hS hw dJ8_hugeLength_7cf53_57
  · have hw := hw.2 hc2
    exact False.elim hw
def wp_J8_newLength_cabcc (S : Hp) (a0 : Int32) (a1 : Int32) (a2 : Int32) (Q : Int32 → Hp → Prop) : Prop := ∀ x1 : Int32, x1 = (a0 + (if a1 < a2 then a2 else a1)) → (x1 ≤ 0 → wp_J8_hugeLength_7cf53 S a0 a1 (fun r4 S3 => Q r4 S3)) ∧ (¬ (x1 ≤ 0) → (2147483639 < x1 → wp_J8_hugeLength_7cf53 S a0 a1 (fun r7 S6 => Q r7 S6)) ∧ (¬ (2147483639 < x1) → Q x1 S))
set_option maxRecDepth 100000 in
set_option maxHeartbeats 4000000 in
theorem c_J8_newLength_cabcc {l : Launch} {G : GX} {S : Hp} {a0 : Int32} {a1 : Int32} {a2 : Int32} {Q : Int32 → Hp → Prop} (hw : wp_J8_newLength_cabcc S a0 a1 a2 Q) : Met l yJ8_newLength_cabcc (Cond.code yJ8_newLength_cabcc cJ8_newLength_cabcc 4 (some .int) :: TS) { frames := 1, cells := 0, slots := 0, locals := 22 } (Pk G S [.int a0, .int a1, .int a2]) (QI G Q) 0 0 G.2.2.1 := by
  refine m_met (by decide) ?_
  intro p e s m below meth c H locs C hW hS
  have C : Cx p s m ([.int a0, .int a1, .int a2] : List Value).toArray meth c cJ8_newLength_cabcc 4 RJ8 (some .int) "newLength" G := C
  obtain ⟨ls, hent, hL, hla⟩ := m_entry m (vs := [.int a0, .int a1, .int a2]) (nn := 4) [1, 1, 1] rfl (by decide)
  rw [hent]
  have h0 : ls[0]? = some (.val (.int a0)) := hla (0, .int a0) (List.mem_of_getElem? (i := 0) rfl)
  have h1 : ls[1]? = some (.val (.int a1)) := hla (1, .int a1) (List.mem_of_getElem? (i := 1) rfl)
  have h2 : ls[2]? = some (.val (.int a2)) := hla (2, .int a2) (List.mem_of_getElem? (i := 2) rfl)
  clear hla
  generalize ([.int a0, .int a1, .int a2] : List Value).toArray = args at C ⊢
  unfold wp_J8_newLength_cabcc at hw
  refine lv_iload_n C.1 C.2.1 dJ8_newLength_cabcc_0 rfl h0 ?_
  refine lv_iload_n C.1 C.2.1 dJ8_newLength_cabcc_1 rfl h1 ?_
  refine lv_iload_n C.1 C.2.1 dJ8_newLength_cabcc_2 rfl h2 ?_
  refine va_mmax C.1 C.2.1 (C.2.2.1.trans hL.1.symm) C.2.2.2.1 (C.2.2.2.2.1 _ tw_600) (C.2.2.2.2.1 _ tw_601) (C.2.2.2.2.1 _ tw_20) (C.2.2.2.2.1 _ tw_602) (Nat.le_of_ble_eq_true rfl) (Nat.le_of_ble_eq_true rfl) (Nat.le_of_ble_eq_true rfl) (Nat.le_of_ble_eq_true rfl) dJ8_newLength_cabcc_3 ?_
  refine lv_iadd C.1 C.2.1 dJ8_newLength_cabcc_6 ?_
  refine lv_topi (fun x1 ex1 => ?_)
  have hw := hw x1 ex1
  refine m_istN C hL dJ8_newLength_cabcc_7 rfl (by decide) (fun ls hL hn9 hk9 => ?_)
  have h0 := hk9 0 _ h0 (by decide) (Or.inl (by decide))
  have h1 := hk9 1 _ h1 (by decide) (Or.inl (by decide))
  have h3 := hn9
  refine lv_iconst (v := 0) C.1 C.2.1 dJ8_newLength_cabcc_8 (by decide) ?_
  refine lv_iload_n C.1 C.2.1 dJ8_newLength_cabcc_9 rfl h3 ?_
  refine lv_icmp_ge (tgt := 21) C.1 C.2.1 dJ8_newLength_cabcc_10 (by decide) (fun hc2 => ?_) (fun hc2 => ?_)
  · have hw := hw.1 hc2
    refine lv_iload_n C.1 C.2.1 dJ8_newLength_cabcc_21 rfl h0 ?_
    refine lv_iload_n C.1 C.2.1 dJ8_newLength_cabcc_22 rfl h1 ?_
    refine m_rI (m_runS (As := [.int a0, .int a1]) (rest := []) C hW hS hL (c_J8_hugeLength_7cf53 hw) s_J8_201 ⟨rfl, rfl⟩ ⟨Nat.le_of_ble_eq_true rfl, Nat.le_of_ble_eq_true rfl⟩ rfl rfl (Nat.le_of_ble_eq_true rfl) dJ8_newLength_cabcc_23 ⟨Nat.le_of_ble_eq_true rfl, Nat.le_of_ble_eq_true rfl⟩) hS (fun r4 S3 H locs hw hW hS => ?_)
    exact m_iret C hW hS hw dJ8_newLength_cabcc_26
  · have hw := hw.2 hc2
    refine lv_iload_n C.1 C.2.1 dJ8_newLength_cabcc_13 rfl h3 ?_
    refine lv_ldc (v := 2147483639) C.1 C.2.1 C.2.2.2.1 (C.2.2.2.2.1 _ tw_603) dJ8_newLength_cabcc_14 ?_
    refine lv_icmp_gt (tgt := 21) C.1 C.2.1 dJ8_newLength_cabcc_16 (by decide) (fun hc5 => ?_) (fun hc5 => ?_)
    · have hw := hw.1 hc5
      refine lv_iload_n C.1 C.2.1 dJ8_newLength_cabcc_21 rfl h0 ?_
      refine lv_iload_n C.1 C.2.1 dJ8_newLength_cabcc_22 rfl h1 ?_
      refine m_rI (m_runS (As := [.int a0, .int a1]) (rest := []) C hW hS hL (c_J8_hugeLength_7cf53 hw) s_J8_201 ⟨rfl, rfl⟩ ⟨Nat.le_of_ble_eq_true rfl, Nat.le_of_ble_eq_true rfl⟩ rfl rfl (Nat.le_of_ble_eq_true rfl) dJ8_newLength_cabcc_23 ⟨Nat.le_of_ble_eq_true rfl, Nat.le_of_ble_eq_true rfl⟩) hS (fun r7 S6 H locs hw hW hS => ?_)
      exact m_iret C hW hS hw dJ8_newLength_cabcc_26
    · have hw := hw.2 hc5
      refine lv_iload_n C.1 C.2.1 dJ8_newLength_cabcc_19 rfl h3 ?_
      exact m_iret C hW hS hw dJ8_newLength_cabcc_20
def wp_Jx4a65c_grow_92f84 (S : Hp) (a0 : Nat) (a1 : Int32) (Q : Option Nat → Hp → Prop) : Prop := hK S a0 = 1 ∧ ∃ b2 : Nat, (hR S a0 1) = some b2 ∧ (hK S b2 = 20 ∨ hK S b2 = 21) ∧ ∀ x4 : Int32, x4 = (nI (hN S b2)) → ∃ J6 : Hp → Prop, J6 = (fun (S13 : Hp) => wp_J8_newLength_cabcc S13 x4 (a1 - x4) (x4 >>> (1 &&& 31)) (fun r15 S14 => hK S14 a0 = 1 ∧ wp_J7_copyOf_1904c S14 (hR S14 a0 1) r15 (fun r18 S17 => hK S17 a0 = 1 ∧ Q r18 (sR S17 a0 1 r18)))) ∧ (0 < x4 → J6 S) ∧ (¬ (0 < x4) → ∀ b7 : Nat, b7 = hT S → ((hR S a0 1) = (some (hT S)) → ¬ (if 10 < a1 then a1 else 10) < 0 ∧ ((if 10 < a1 then a1 else 10) : Int32).toNatClampNeg ≤ 300 ∧ ∀ q9 : Nat, hK S q9 = 0 → hK (sN S q9 20 ((if 10 < a1 then a1 else 10) : Int32).toNatClampNeg) a0 = 1 ∧ Q (some q9) (sR (sN S q9 20 ((if 10 < a1 then a1 else 10) : Int32).toNatClampNeg) a0 1 (some q9))) ∧ (¬ ((hR S a0 1) = (some (hT S))) → J6 S))
set_option maxRecDepth 100000 in
set_option maxHeartbeats 4000000 in
theorem c_Jx4a65c_grow_92f84 {l : Launch} {G : GX} {S : Hp} {a0 : Nat} {a1 : Int32} {Q : Option Nat → Hp → Prop} (hw : wp_Jx4a65c_grow_92f84 S a0 a1 Q) : Met l yJx4a65c_grow_92f84 (Cond.code yJx4a65c_grow_92f84 cJx4a65c_grow_92f84 4 (some (.array (.object "java/lang/Object"))) :: TS) { frames := 3, cells := 1, slots := 300, locals := 111 } (Pk G S [va_rf (some a0), .int a1]) (QR G Q) 1 300 G.2.2.1 := by
  refine m_met (by decide) ?_
  intro p e s m below meth c H locs C hW hS
  have C : Cx p s m ([va_rf (some a0), .int a1] : List Value).toArray meth c cJx4a65c_grow_92f84 4 RJx4a65c (some (.array (.object "java/lang/Object"))) "grow" G := C
  obtain ⟨ls, hent, hL, hla⟩ := m_entry m (vs := [va_rf (some a0), .int a1]) (nn := 4) [1, 1] rfl (by decide)
  rw [hent]
  have h0 : ls[0]? = some (.val (va_rf (some a0))) := hla (0, va_rf (some a0)) (List.mem_of_getElem? (i := 0) rfl)
  have h1 : ls[1]? = some (.val (.int a1)) := hla (1, .int a1) (List.mem_of_getElem? (i := 1) rfl)
  clear hla
  generalize ([va_rf (some a0), .int a1] : List Value).toArray = args at C ⊢
  unfold wp_Jx4a65c_grow_92f84 at hw
  refine m_aldN C dJx4a65c_grow_92f84_0 rfl h0 ?_
  obtain ⟨hk1, hw⟩ := hw
  refine m_getR C hW rfl hk1 f_Jx4a65c_9 rfl dJx4a65c_grow_92f84_1 ?_
  obtain ⟨b2, ho2, hw⟩ := hw
  obtain ⟨hk3, hw⟩ := hw
  refine m_alen (k := hK S b2) C hW ho2 rfl (by omega) (by omega) dJx4a65c_grow_92f84_4 ?_
  refine lv_topi (fun x4 ex4 => ?_)
  have hw := hw x4 ex4
  refine m_istN C hL dJx4a65c_grow_92f84_5 rfl (by decide) (fun ls hL hn9 hk9 => ?_)
  have h0 := hk9 0 _ h0 (by decide) (Or.inl (by decide))
  have h1 := hk9 1 _ h1 (by decide) (Or.inr (rfl))
  have h2 := hn9
  refine lv_iload_n C.1 C.2.1 dJx4a65c_grow_92f84_6 rfl h2 ?_
  obtain ⟨J6, eJ6, hw⟩ := hw
  have wJ6 : ∀ (S13 : Hp) (H : Heap) (locs : List Loc) (ls : Array Slot), wd G S13 H → va_S G.2.2.1 s.heap H locs → LV ls 4 → ls[0]? = some (.val (va_rf (some a0))) → ls[1]? = some (.val (.int a1)) → ls[2]? = some (.val (.int x4)) → J6 S13 → W p l e ({ frames := 3, cells := 1, slots := 300, locals := 111 } : Room) s m args below meth c H locs 0 0 (MQ below (QR G Q) args s 1 300 G.2.2.1) (F0 m 20 ls []) := by
    intro S13 H locs ls hW hS hL h0 h1 h2 hw
    rw [eJ6] at hw
    refine lv_iload_n C.1 C.2.1 dJx4a65c_grow_92f84_20 rfl h2 ?_
    refine lv_iload_n C.1 C.2.1 dJx4a65c_grow_92f84_21 rfl h1 ?_
    refine lv_iload_n C.1 C.2.1 dJx4a65c_grow_92f84_22 rfl h2 ?_
    refine lv_isub C.1 C.2.1 dJx4a65c_grow_92f84_23 ?_
    refine lv_iload_n C.1 C.2.1 dJx4a65c_grow_92f84_24 rfl h2 ?_
    refine lv_iconst (v := 1) C.1 C.2.1 dJx4a65c_grow_92f84_25 (by decide) ?_
    refine lv_ishr C.1 C.2.1 dJx4a65c_grow_92f84_26 ?_
    refine m_rI (m_runS (As := [.int x4, .int (a1 - x4), .int (x4 >>> (1 &&& 31))]) (rest := []) C hW hS hL (c_J8_newLength_cabcc hw) s_Jx4a65c_73 ⟨rfl, rfl⟩ ⟨Nat.le_of_ble_eq_true rfl, Nat.le_of_ble_eq_true rfl⟩ rfl rfl (Nat.le_of_ble_eq_true rfl) dJx4a65c_grow_92f84_27 ⟨Nat.le_of_ble_eq_true rfl, Nat.le_of_ble_eq_true rfl⟩) hS (fun r15 S14 H locs hw hW hS => ?_)
    refine m_istN C hL dJx4a65c_grow_92f84_30 rfl (by decide) (fun ls hL hn9 hk9 => ?_)
    have h0 := hk9 0 _ h0 (by decide) (Or.inl (by decide))
    have h3 := hn9
    refine m_aldN C dJx4a65c_grow_92f84_31 rfl h0 ?_
    refine m_aldN C dJx4a65c_grow_92f84_32 rfl h0 ?_
    obtain ⟨hk16, hw⟩ := hw
    refine m_getR C hW rfl hk16 f_Jx4a65c_9 rfl dJx4a65c_grow_92f84_33 ?_
    refine lv_iload_n C.1 C.2.1 dJx4a65c_grow_92f84_36 rfl h3 ?_
    refine m_rR (m_runS (As := [va_rf (hR S14 a0 1), .int r15]) (rest := [va_rf (some a0)]) C hW hS hL (c_J7_copyOf_1904c hw) s_Jx4a65c_66 ⟨rfl, rfl⟩ ⟨Nat.le_of_ble_eq_true rfl, Nat.le_of_ble_eq_true rfl⟩ rfl rfl (by simp only [List.map_cons, List.map_nil, va_rf_cat, List.sum_cons, List.sum_nil] <;> exact Nat.le_of_ble_eq_true rfl) dJx4a65c_grow_92f84_37 ⟨Nat.le_of_ble_eq_true rfl, Nat.le_of_ble_eq_true rfl⟩) hS (fun r18 S17 H locs hw hW hS => ?_)
    refine lv_dup_x1 C.1 C.2.1 dJx4a65c_grow_92f84_40 (va_rf_cat _) (va_rf_cat _) ?_
    obtain ⟨hk19, hw⟩ := hw
    refine m_putR C hW hS rfl hk19 p_Jx4a65c_9 (fun z => by cases z) rfl dJx4a65c_grow_92f84_41 (fun H locs hW hS => ?_)
    exact m_aret C (Or.inr ⟨_, rfl⟩) hW hS (o := r18) hw dJx4a65c_grow_92f84_44
  refine lv_if_gt (tgt := 20) C.1 C.2.1 dJx4a65c_grow_92f84_7 (by decide) (fun hc5 => ?_) (fun hc5 => ?_)
  · have hw := hw.1 hc5
    exact wJ6 S H locs ls hW hS hL h0 h1 h2 hw
  · have hw := hw.2 hc5
    refine m_aldN C dJx4a65c_grow_92f84_10 rfl h0 ?_
    refine m_getR C hW rfl hk1 f_Jx4a65c_9 rfl dJx4a65c_grow_92f84_11 ?_
    refine va_gets C.1 C.2.1 C.2.2.2.2.2.2.2.2.2.1.1 hS C.2.2.2.1 (C.2.2.2.2.1 _ tw_344) (fun _ h9 => h9) dJx4a65c_grow_92f84_14 ?_
    have hT9 : hT S = G.2.2.2 := hW.1
    rw [← hT9]
    refine W.eq (g2 := F0 m 17 ls (va_rf (some (hT S)) :: _)) rfl ?_
    have hw := hw _ rfl
    refine lv_acmp_eq (rx := (hR S a0 1)) (ry := (some (hT S))) (tgt := 45) C.1 C.2.1 dJx4a65c_grow_92f84_17 (by decide) (fun hc8 => ?_) (fun hc8 => ?_)
    · have hw := hw.1 hc8
      refine m_aldN C dJx4a65c_grow_92f84_45 rfl h0 ?_
      refine lv_bipush (v := 10) C.1 C.2.1 dJx4a65c_grow_92f84_46 (by decide) ?_
      refine lv_iload_n C.1 C.2.1 dJx4a65c_grow_92f84_48 rfl h1 ?_
      refine va_mmax C.1 C.2.1 (C.2.2.1.trans hL.1.symm) C.2.2.2.1 (C.2.2.2.2.1 _ tw_641) (C.2.2.2.2.1 _ tw_601) (C.2.2.2.2.1 _ tw_20) (C.2.2.2.2.1 _ tw_602) (Nat.le_of_ble_eq_true rfl) (by simp only [List.map_cons, List.map_nil, va_rf_cat, List.sum_cons, List.sum_nil] <;> exact Nat.le_of_ble_eq_true rfl) (Nat.le_of_ble_eq_true rfl) (Nat.le_of_ble_eq_true rfl) dJx4a65c_grow_92f84_49 ?_
      obtain ⟨hz10, hy11, hw⟩ := hw
      refine m_anew (k := 20) (N := ((if 10 < a1 then a1 else 10) : Int32).toNatClampNeg) C hW hS (by decide) (by decide) rfl (by decide) tw_642 hz10 rfl (by omega) (Nat.le_of_ble_eq_true rfl) (Nat.le_trans (Nat.add_le_add_left hy11 0) (Nat.le_of_ble_eq_true rfl)) dJx4a65c_grow_92f84_52 (fun q9 H hq9 hW hS => ?_)
      have hw := hw q9 hq9
      refine W.widen (k := 1) (n := 300) (by decide) (Nat.add_le_add_left hy11 0) ?_
      refine lv_dup_x1 C.1 C.2.1 dJx4a65c_grow_92f84_55 (va_rf_cat _) (va_rf_cat _) ?_
      obtain ⟨hk12, hw⟩ := hw
      refine m_putR C hW hS rfl hk12 p_Jx4a65c_9 (fun z => by cases z) rfl dJx4a65c_grow_92f84_56 (fun H locs hW hS => ?_)
      exact m_aret C (Or.inr ⟨_, rfl⟩) hW hS (o := (some q9)) hw dJx4a65c_grow_92f84_59
    · have hw := hw.2 hc8
      exact wJ6 S H locs ls hW hS hL h0 h1 h2 hw
def wp_Jx4a65c_grow_d5877 (S : Hp) (a0 : Nat) (Q : Option Nat → Hp → Prop) : Prop := hK S a0 = 1 ∧ wp_Jx4a65c_grow_92f84 S a0 ((hI S a0 2) + 1) (fun r3 S2 => Q r3 S2)
set_option maxRecDepth 100000 in
set_option maxHeartbeats 4000000 in
theorem c_Jx4a65c_grow_d5877 {l : Launch} {G : GX} {S : Hp} {a0 : Nat} {Q : Option Nat → Hp → Prop} (hw : wp_Jx4a65c_grow_d5877 S a0 Q) : Met l yJx4a65c_grow_d5877 (Cond.code yJx4a65c_grow_d5877 cJx4a65c_grow_d5877 1 (some (.array (.object "java/lang/Object"))) :: TS) { frames := 4, cells := 1, slots := 300, locals := 134 } (Pk G S [va_rf (some a0)]) (QR G Q) 1 300 G.2.2.1 := by
  refine m_met (by decide) ?_
  intro p e s m below meth c H locs C hW hS
  have C : Cx p s m ([va_rf (some a0)] : List Value).toArray meth c cJx4a65c_grow_d5877 1 RJx4a65c (some (.array (.object "java/lang/Object"))) "grow" G := C
  obtain ⟨ls, hent, hL, hla⟩ := m_entry m (vs := [va_rf (some a0)]) (nn := 1) [1] rfl (by decide)
  rw [hent]
  have h0 : ls[0]? = some (.val (va_rf (some a0))) := hla (0, va_rf (some a0)) (List.mem_of_getElem? (i := 0) rfl)
  clear hla
  generalize ([va_rf (some a0)] : List Value).toArray = args at C ⊢
  unfold wp_Jx4a65c_grow_d5877 at hw
  refine m_aldN C dJx4a65c_grow_d5877_0 rfl h0 ?_
  refine m_aldN C dJx4a65c_grow_d5877_1 rfl h0 ?_
  obtain ⟨hk1, hw⟩ := hw
  refine m_getI C hW rfl hk1 f_Jx4a65c_48 rfl dJx4a65c_grow_d5877_2 ?_
  refine lv_iconst (v := 1) C.1 C.2.1 dJx4a65c_grow_d5877_5 (by decide) ?_
  refine lv_iadd C.1 C.2.1 dJx4a65c_grow_d5877_6 ?_
  refine m_rR (m_runV (As := [.int ((hI S a0 2) + 1)]) (rest := []) C hW hS hL (c_Jx4a65c_grow_92f84 hw) v_Jx4a65c_69 ⟨rfl, rfl⟩ ⟨Nat.le_of_ble_eq_true rfl, Nat.le_of_ble_eq_true rfl⟩ rfl hk1 rfl rfl (Nat.le_of_ble_eq_true rfl) dJx4a65c_grow_d5877_7 ⟨Nat.le_of_ble_eq_true rfl, Nat.le_of_ble_eq_true rfl⟩) hS (fun r3 S2 H locs hw hW hS => ?_)
  exact m_aret C (Or.inr ⟨_, rfl⟩) hW hS (o := r3) hw dJx4a65c_grow_d5877_10
def wp_Jx4a65c_add_72be8 (S : Hp) (a0 : Nat) (a1 : Option Nat) (a2 : Option Nat) (a3 : Int32) (Q : Hp → Prop) : Prop := ∃ b1 : Nat, a2 = some b1 ∧ (hK S b1 = 20 ∨ hK S b1 = 21) ∧ (a3 = (nI (hN S b1)) → hK S a0 = 1 ∧ wp_Jx4a65c_grow_d5877 S a0 (fun r11 S10 => ∃ b12 : Nat, r11 = some b12 ∧ hK S10 b12 = 20 ∧ vp_in a3 (hN S10 b12) ∧ ∃ b15 : Nat, a1 = some b15 ∧ hK S10 b15 = 6 ∧ hK (sR S10 b12 (a3 : Int32).toNatClampNeg a1) a0 = 1 ∧ Q (sI (sR S10 b12 (a3 : Int32).toNatClampNeg a1) a0 2 (a3 + 1)))) ∧ (¬ (a3 = (nI (hN S b1))) → hK S b1 = 20 ∧ vp_in a3 (hN S b1) ∧ ∃ b6 : Nat, a1 = some b6 ∧ hK S b6 = 6 ∧ hK (sR S b1 (a3 : Int32).toNatClampNeg a1) a0 = 1 ∧ Q (sI (sR S b1 (a3 : Int32).toNatClampNeg a1) a0 2 (a3 + 1)))
set_option maxRecDepth 100000 in
set_option maxHeartbeats 4000000 in
theorem c_Jx4a65c_add_72be8 {l : Launch} {G : GX} {S : Hp} {a0 : Nat} {a1 : Option Nat} {a2 : Option Nat} {a3 : Int32} {Q : Hp → Prop} (hw : wp_Jx4a65c_add_72be8 S a0 a1 a2 a3 Q) : Met l yJx4a65c_add_72be8 (Cond.code yJx4a65c_add_72be8 cJx4a65c_add_72be8 4 none :: TS) { frames := 5, cells := 1, slots := 300, locals := 154 } (Pk G S [va_rf (some a0), va_rf a1, va_rf a2, .int a3]) (QV G Q) 1 300 G.2.2.1 := by
  refine m_met (by decide) ?_
  intro p e s m below meth c H locs C hW hS
  have C : Cx p s m ([va_rf (some a0), va_rf a1, va_rf a2, .int a3] : List Value).toArray meth c cJx4a65c_add_72be8 4 RJx4a65c none "add" G := C
  obtain ⟨ls, hent, hL, hla⟩ := m_entry m (vs := [va_rf (some a0), va_rf a1, va_rf a2, .int a3]) (nn := 4) [1, 1, 1, 1] (by simp only [List.map_cons, List.map_nil, va_rf_cat] <;> rfl) (by decide)
  rw [hent]
  have h0 : ls[0]? = some (.val (va_rf (some a0))) := hla (0, va_rf (some a0)) (List.mem_of_getElem? (i := 0) rfl)
  have h1 : ls[1]? = some (.val (va_rf a1)) := hla (1, va_rf a1) (List.mem_of_getElem? (i := 1) rfl)
  have h2 : ls[2]? = some (.val (va_rf a2)) := hla (2, va_rf a2) (List.mem_of_getElem? (i := 2) rfl)
  have h3 : ls[3]? = some (.val (.int a3)) := hla (3, .int a3) (List.mem_of_getElem? (i := 3) rfl)
  clear hla
  generalize ([va_rf (some a0), va_rf a1, va_rf a2, .int a3] : List Value).toArray = args at C ⊢
  unfold wp_Jx4a65c_add_72be8 at hw
  refine lv_iload_n C.1 C.2.1 dJx4a65c_add_72be8_0 rfl h3 ?_
  refine m_aldN C dJx4a65c_add_72be8_1 rfl h2 ?_
  obtain ⟨b1, ho1, hw⟩ := hw
  obtain ⟨hk2, hw⟩ := hw
  refine m_alen (k := hK S b1) C hW ho1 rfl (by omega) (by omega) dJx4a65c_add_72be8_2 ?_
  refine lv_icmp_ne (tgt := 11) C.1 C.2.1 dJx4a65c_add_72be8_3 (by decide) (fun hc3 => ?_) (fun hc3 => ?_)
  · have hw := hw.2 hc3
    refine m_aldN C dJx4a65c_add_72be8_11 rfl h2 ?_
    refine lv_iload_n C.1 C.2.1 dJx4a65c_add_72be8_12 rfl h3 ?_
    refine m_aldN C dJx4a65c_add_72be8_13 rfl h1 ?_
    obtain ⟨hk4, hw⟩ := hw
    obtain ⟨hi5, hw⟩ := hw
    obtain ⟨b6, ho6, hw⟩ := hw
    obtain ⟨hk7, hw⟩ := hw
    refine m_aast C hW hS ho1 hk4 (by decide) (by decide) hi5 (fun bb9 zz9 => by obtain rfl : b6 = bb9 := Option.some.inj ((ho6).symm.trans zz9); exact Or.inr ⟨by decide, hk7⟩) dJx4a65c_add_72be8_14 (fun H locs hW hS => ?_)
    refine m_aldN C dJx4a65c_add_72be8_15 rfl h0 ?_
    refine lv_iload_n C.1 C.2.1 dJx4a65c_add_72be8_16 rfl h3 ?_
    refine lv_iconst (v := 1) C.1 C.2.1 dJx4a65c_add_72be8_17 (by decide) ?_
    refine lv_iadd C.1 C.2.1 dJx4a65c_add_72be8_18 ?_
    obtain ⟨hk8, hw⟩ := hw
    refine m_putI C hW hS rfl hk8 p_Jx4a65c_48 (fun z => by cases z) rfl dJx4a65c_add_72be8_19 (fun H locs hW hS => ?_)
    refine W.widen (k := 1) (n := 300) (by decide) (by decide) ?_
    exact m_vret C hW hS hw dJx4a65c_add_72be8_22
  · have hw := hw.1 hc3
    refine m_aldN C dJx4a65c_add_72be8_6 rfl h0 ?_
    obtain ⟨hk9, hw⟩ := hw
    refine m_rR (m_runV (As := []) (rest := []) C hW hS hL (c_Jx4a65c_grow_d5877 hw) v_Jx4a65c_129 ⟨rfl, rfl⟩ ⟨Nat.le_of_ble_eq_true rfl, Nat.le_of_ble_eq_true rfl⟩ rfl hk9 rfl rfl (Nat.le_of_ble_eq_true rfl) dJx4a65c_add_72be8_7 ⟨Nat.le_of_ble_eq_true rfl, Nat.le_of_ble_eq_true rfl⟩) hS (fun r11 S10 H locs hw hW hS => ?_)
    refine m_astN C hL dJx4a65c_add_72be8_10 rfl (by decide) (fun ls hL hn9 hk9 => ?_)
    have h0 := hk9 0 _ h0 (by decide) (Or.inl (by decide))
    have h1 := hk9 1 _ h1 (by decide) (Or.inr (va_rf_cat _))
    have h3 := hk9 3 _ h3 (by decide) (Or.inl (by decide))
    have h2 := hn9
    refine m_aldN C dJx4a65c_add_72be8_11 rfl h2 ?_
    refine lv_iload_n C.1 C.2.1 dJx4a65c_add_72be8_12 rfl h3 ?_
    refine m_aldN C dJx4a65c_add_72be8_13 rfl h1 ?_
    obtain ⟨b12, ho12, hw⟩ := hw
    obtain ⟨hk13, hw⟩ := hw
    obtain ⟨hi14, hw⟩ := hw
    obtain ⟨b15, ho15, hw⟩ := hw
    obtain ⟨hk16, hw⟩ := hw
    refine m_aast C hW hS ho12 hk13 (by decide) (by decide) hi14 (fun bb9 zz9 => by obtain rfl : b15 = bb9 := Option.some.inj ((ho15).symm.trans zz9); exact Or.inr ⟨by decide, hk16⟩) dJx4a65c_add_72be8_14 (fun H locs hW hS => ?_)
    refine m_aldN C dJx4a65c_add_72be8_15 rfl h0 ?_
    refine lv_iload_n C.1 C.2.1 dJx4a65c_add_72be8_16 rfl h3 ?_
    refine lv_iconst (v := 1) C.1 C.2.1 dJx4a65c_add_72be8_17 (by decide) ?_
    refine lv_iadd C.1 C.2.1 dJx4a65c_add_72be8_18 ?_
    obtain ⟨hk17, hw⟩ := hw
    refine m_putI C hW hS rfl hk17 p_Jx4a65c_48 (fun z => by cases z) rfl dJx4a65c_add_72be8_19 (fun H locs hW hS => ?_)
    exact m_vret C hW hS hw dJx4a65c_add_72be8_22
def wp_Jx4a65c_add_9ea2d (S : Hp) (a0 : Nat) (a1 : Option Nat) (Q : Int32 → Hp → Prop) : Prop := hK S a0 = 1 ∧ wp_Jx4a65c_add_72be8 (sI S a0 0 ((hI S a0 0) + 1)) a0 a1 (hR (sI S a0 0 ((hI S a0 0) + 1)) a0 1) (hI (sI S a0 0 ((hI S a0 0) + 1)) a0 2) (fun S2 => Q 1 S2)
set_option maxRecDepth 100000 in
set_option maxHeartbeats 4000000 in
theorem c_Jx4a65c_add_9ea2d {l : Launch} {G : GX} {S : Hp} {a0 : Nat} {a1 : Option Nat} {Q : Int32 → Hp → Prop} (hw : wp_Jx4a65c_add_9ea2d S a0 a1 Q) : Met l yJx4a65c_add_9ea2d (Cond.code yJx4a65c_add_9ea2d cJx4a65c_add_9ea2d 2 (some .boolean) :: TS) { frames := 6, cells := 1, slots := 300, locals := 177 } (Pk G S [va_rf (some a0), va_rf a1]) (QI G Q) 1 300 G.2.2.1 := by
  refine m_met (by decide) ?_
  intro p e s m below meth c H locs C hW hS
  have C : Cx p s m ([va_rf (some a0), va_rf a1] : List Value).toArray meth c cJx4a65c_add_9ea2d 2 RJx4a65c (some .boolean) "add" G := C
  obtain ⟨ls, hent, hL, hla⟩ := m_entry m (vs := [va_rf (some a0), va_rf a1]) (nn := 2) [1, 1] (by simp only [List.map_cons, List.map_nil, va_rf_cat] <;> rfl) (by decide)
  rw [hent]
  have h0 : ls[0]? = some (.val (va_rf (some a0))) := hla (0, va_rf (some a0)) (List.mem_of_getElem? (i := 0) rfl)
  have h1 : ls[1]? = some (.val (va_rf a1)) := hla (1, va_rf a1) (List.mem_of_getElem? (i := 1) rfl)
  clear hla
  generalize ([va_rf (some a0), va_rf a1] : List Value).toArray = args at C ⊢
  unfold wp_Jx4a65c_add_9ea2d at hw
  refine m_aldN C dJx4a65c_add_9ea2d_0 rfl h0 ?_
  refine lv_dup C.1 C.2.1 dJx4a65c_add_9ea2d_1 (va_rf_cat _) ?_
  obtain ⟨hk1, hw⟩ := hw
  refine m_getI2 C hW rfl hk1 fi_Jx4a65c_63 rfl dJx4a65c_add_9ea2d_2 ?_
  refine lv_iconst (v := 1) C.1 C.2.1 dJx4a65c_add_9ea2d_5 (by decide) ?_
  refine lv_iadd C.1 C.2.1 dJx4a65c_add_9ea2d_6 ?_
  refine m_putI2 C hW hS rfl hk1 fi_Jx4a65c_63 rfl dJx4a65c_add_9ea2d_7 (fun H locs hW hS => ?_)
  refine m_aldN C dJx4a65c_add_9ea2d_10 rfl h0 ?_
  refine m_aldN C dJx4a65c_add_9ea2d_11 rfl h1 ?_
  refine m_aldN C dJx4a65c_add_9ea2d_12 rfl h0 ?_
  refine m_getR C hW rfl hk1 f_Jx4a65c_9 rfl dJx4a65c_add_9ea2d_13 ?_
  refine m_aldN C dJx4a65c_add_9ea2d_16 rfl h0 ?_
  refine m_getI C hW rfl hk1 f_Jx4a65c_48 rfl dJx4a65c_add_9ea2d_17 ?_
  refine m_rV (m_runV (As := [va_rf a1, va_rf (hR (sI S a0 0 ((hI S a0 0) + 1)) a0 1), .int (hI (sI S a0 0 ((hI S a0 0) + 1)) a0 2)]) (rest := []) C hW hS hL (c_Jx4a65c_add_72be8 hw) v_Jx4a65c_131 ⟨rfl, rfl⟩ ⟨Nat.le_of_ble_eq_true rfl, Nat.le_of_ble_eq_true rfl⟩ rfl hk1 rfl rfl (Nat.le_of_ble_eq_true rfl) dJx4a65c_add_9ea2d_20 ⟨Nat.le_of_ble_eq_true rfl, Nat.le_of_ble_eq_true rfl⟩) hS (fun S2 H locs hw hW hS => ?_)
  refine lv_iconst (v := 1) C.1 C.2.1 dJx4a65c_add_9ea2d_23 (by decide) ?_
  exact m_zret C hW hS (by decide) hw dJx4a65c_add_9ea2d_24
def wp_X9_join_L20 (l0 : Nat) (l1 : Nat) (l2 : Nat) (Q : Hp → Prop) : Nat → Hp → Int32 → Prop
  | 0, _, _ => False
  | n + 1, S, l3 => hK S l0 = 11 ∧ ((hI S l0 7) ≤ l3 → Q S) ∧ (¬ ((hI S l0 7) ≤ l3) → ∃ b15 : Nat, (hR S l0 5) = some b15 ∧ hK S b15 = 19 ∧ vp_in l3 (hN S b15) ∧ ∃ J19 : Hp → Prop, J19 = (fun (S28 : Hp) => ∃ b29 : Nat, (hR S b15 (l3 : Int32).toNatClampNeg) = some b29 ∧ hK S28 b29 = 6 ∧ hK S28 l2 = 6 ∧ ∃ b32 : Nat, (hR S28 b29 6) = some b32 ∧ hK S28 b32 = 7 ∧ wp_X5_add S28 b32 (hI S28 l2 0) (fun S34 => hK S34 b29 = 6 ∧ hK S34 l2 = 6 ∧ ∃ b37 : Nat, (hR S34 b29 6) = some b37 ∧ hK S34 b37 = 7 ∧ wp_X5_addAll S34 b37 (hR S34 l2 6) (fun S39 => wp_X9_join_L20 l0 l1 l2 Q n S39 (l3 + 1)))) ∧ ((hR S b15 (l3 : Int32).toNatClampNeg) = (some l1) → J19 S) ∧ (¬ ((hR S b15 (l3 : Int32).toNatClampNeg) = (some l1)) → ∃ b20 : Nat, (hR S b15 (l3 : Int32).toNatClampNeg) = some b20 ∧ hK S b20 = 6 ∧ hK S l1 = 6 ∧ ∃ b23 : Nat, (hR S b20 6) = some b23 ∧ hK S b23 = 7 ∧ wp_X5_has S b23 (hI S l1 0) (fun r26 S25 => (r26 = 0 → wp_X9_join_L20 l0 l1 l2 Q n S25 (l3 + 1)) ∧ (¬ (r26 = 0) → J19 S25))))
def wp_X9_join (S : Hp) (a0 : Nat) (a1 : Option Nat) (a2 : Option Nat) (Q : Hp → Prop) : Prop := ∃ b1 : Nat, a1 = some b1 ∧ hK S b1 = 6 ∧ ∃ b3 : Nat, (hR S b1 4) = some b3 ∧ hK S b3 = 1 ∧ wp_Jx4a65c_add_9ea2d S b3 a2 (fun r6 S5 => ∃ b7 : Nat, a2 = some b7 ∧ hK S5 b7 = 6 ∧ ∃ b9 : Nat, (hR S5 b7 5) = some b9 ∧ hK S5 b9 = 1 ∧ wp_Jx4a65c_add_9ea2d S5 b9 a1 (fun r12 S11 => wp_X9_join_L20 a0 b1 b7 Q FU S11 0))
set_option maxRecDepth 100000 in
set_option maxHeartbeats 4000000 in
theorem w_X9_join_L20 {p : Program} {l : Launch} {e : Env} {s : State} {m : MethodId} {args : Array Value} {below : List Frame} {meth : Method} {c : Code} {G : GX} {Q : Hp → Prop} {l0 : Nat} {l1 : Nat} {l2 : Nat} (C : Cx p s m args meth c cX9_join 5 RX9 none "join" G) :
    ∀ (n : Nat) (S : Hp) (l3 : Int32) (H : Heap) (locs : List Loc) (ls : Array Slot), wd G S H → va_S G.2.2.1 s.heap H locs → LV ls 5 → ls[0]? = some (.val (va_rf (some l0))) → ls[1]? = some (.val (va_rf (some l1))) → ls[2]? = some (.val (va_rf (some l2))) → ls[3]? = some (.val (.int l3)) → wp_X9_join_L20 l0 l1 l2 Q n S l3 → W p l e ({ frames := 7, cells := 2, slots := 600, locals := 198 } : Room) s m args below meth c H locs 2 600 (MQ below (QV G Q) args s 2 600 G.2.2.1) (F0 m 20 ls []) := by
  intro n
  induction n with
  | zero =>
    intro S l3 H locs ls hW hS hL h0 h1 h2 h3 hw
    exact False.elim hw
  | succ n ih =>
    intro S l3 H locs ls hW hS hL h0 h1 h2 h3 hw
    unfold wp_X9_join_L20 at hw
    refine lv_iload_n C.1 C.2.1 dX9_join_20 rfl h3 ?_
    refine m_aldN C dX9_join_21 rfl h0 ?_
    obtain ⟨hk13, hw⟩ := hw
    refine m_getI C hW rfl hk13 f_X9_37 rfl dX9_join_22 ?_
    refine lv_icmp_ge (tgt := 87) C.1 C.2.1 dX9_join_25 (by decide) (fun hc14 => ?_) (fun hc14 => ?_)
    · have hw := hw.1 hc14
      exact m_vret C hW hS hw dX9_join_87
    · have hw := hw.2 hc14
      refine m_aldN C dX9_join_28 rfl h0 ?_
      refine m_getR C hW rfl hk13 f_X9_23 rfl dX9_join_29 ?_
      refine lv_iload_n C.1 C.2.1 dX9_join_32 rfl h3 ?_
      obtain ⟨b15, ho15, hw⟩ := hw
      obtain ⟨hk16, hw⟩ := hw
      obtain ⟨hi17, hw⟩ := hw
      refine m_aald C hW ho15 hk16 (by decide) (by decide) hi17 dX9_join_33 ?_
      refine m_ast_ C hL dX9_join_34 (by decide) (fun ls hL hn9 hk9 => ?_)
      have h0 := hk9 0 _ h0 (by decide) (Or.inl (by decide))
      have h1 := hk9 1 _ h1 (by decide) (Or.inl (by decide))
      have h2 := hk9 2 _ h2 (by decide) (Or.inl (by decide))
      have h3 := hk9 3 _ h3 (by decide) (Or.inr (rfl))
      have h4 := hn9
      refine m_ald C dX9_join_36 h4 ?_
      refine m_aldN C dX9_join_38 rfl h1 ?_
      obtain ⟨J19, eJ19, hw⟩ := hw
      have wJ19 : ∀ (S28 : Hp) (H : Heap) (locs : List Loc) (ls : Array Slot), wd G S28 H → va_S G.2.2.1 s.heap H locs → LV ls 5 → ls[0]? = some (.val (va_rf (some l0))) → ls[1]? = some (.val (va_rf (some l1))) → ls[2]? = some (.val (va_rf (some l2))) → ls[3]? = some (.val (.int l3)) → ls[4]? = some (.val (va_rf (hR S b15 (l3 : Int32).toNatClampNeg))) → J19 S28 → W p l e ({ frames := 7, cells := 2, slots := 600, locals := 198 } : Room) s m args below meth c H locs 2 600 (MQ below (QV G Q) args s 2 600 G.2.2.1) (F0 m 57 ls []) := by
        intro S28 H locs ls hW hS hL h0 h1 h2 h3 h4 hw
        rw [eJ19] at hw
        refine m_ald C dX9_join_57 h4 ?_
        obtain ⟨b29, ho29, hw⟩ := hw
        obtain ⟨hk30, hw⟩ := hw
        refine m_getR C hW ho29 hk30 f_X9_69 rfl dX9_join_59 ?_
        refine m_aldN C dX9_join_62 rfl h2 ?_
        obtain ⟨hk31, hw⟩ := hw
        refine m_getI C hW rfl hk31 f_X9_53 rfl dX9_join_63 ?_
        obtain ⟨b32, ho32, hw⟩ := hw
        obtain ⟨hk33, hw⟩ := hw
        refine m_rV (m_runV (As := [.int (hI S28 l2 0)]) (rest := []) C hW hS hL (c_X5_add hw) v_X9_79 ⟨rfl, rfl⟩ ⟨Nat.le_of_ble_eq_true rfl, Nat.le_of_ble_eq_true rfl⟩ ho32 hk33 rfl rfl (Nat.le_of_ble_eq_true rfl) dX9_join_66 ⟨Nat.le_of_ble_eq_true rfl, Nat.le_of_ble_eq_true rfl⟩) hS (fun S34 H locs hw hW hS => ?_)
        refine m_ald C dX9_join_69 h4 ?_
        obtain ⟨hk35, hw⟩ := hw
        refine m_getR C hW ho29 hk35 f_X9_69 rfl dX9_join_71 ?_
        refine m_aldN C dX9_join_74 rfl h2 ?_
        obtain ⟨hk36, hw⟩ := hw
        refine m_getR C hW rfl hk36 f_X9_69 rfl dX9_join_75 ?_
        obtain ⟨b37, ho37, hw⟩ := hw
        obtain ⟨hk38, hw⟩ := hw
        refine m_rV (m_runV (As := [va_rf (hR S34 l2 6)]) (rest := []) C hW hS hL (c_X5_addAll hw) v_X9_82 ⟨rfl, rfl⟩ ⟨Nat.le_of_ble_eq_true rfl, Nat.le_of_ble_eq_true rfl⟩ ho37 hk38 rfl rfl (Nat.le_of_ble_eq_true rfl) dX9_join_78 ⟨Nat.le_of_ble_eq_true rfl, Nat.le_of_ble_eq_true rfl⟩) hS (fun S39 H locs hw hW hS => ?_)
        refine m_iinc (v := (l3 + 1)) C hL dX9_join_81 h3 rfl (by decide) (fun ls hL hn9 hk9 => ?_)
        have h0 := hk9 0 _ h0 (by decide) (Or.inl (by decide))
        have h1 := hk9 1 _ h1 (by decide) (Or.inl (by decide))
        have h2 := hk9 2 _ h2 (by decide) (Or.inr (va_rf_cat _))
        have h3 := hn9
        refine lv_goto (tgt := 20) C.1 C.2.1 dX9_join_84 (by decide) ?_
        exact ih S39 (l3 + 1) H locs ls hW hS hL h0 h1 h2 h3 hw
      refine lv_acmp_eq (rx := (hR S b15 (l3 : Int32).toNatClampNeg)) (ry := (some l1)) (tgt := 57) C.1 C.2.1 dX9_join_39 (by decide) (fun hc18 => ?_) (fun hc18 => ?_)
      · have hw := hw.1 hc18
        exact wJ19 S H locs ls hW hS hL h0 h1 h2 h3 h4 hw
      · have hw := hw.2 hc18
        refine m_ald C dX9_join_42 h4 ?_
        obtain ⟨b20, ho20, hw⟩ := hw
        obtain ⟨hk21, hw⟩ := hw
        refine m_getR C hW ho20 hk21 f_X9_69 rfl dX9_join_44 ?_
        refine m_aldN C dX9_join_47 rfl h1 ?_
        obtain ⟨hk22, hw⟩ := hw
        refine m_getI C hW rfl hk22 f_X9_53 rfl dX9_join_48 ?_
        obtain ⟨b23, ho23, hw⟩ := hw
        obtain ⟨hk24, hw⟩ := hw
        refine m_rI (m_runV (As := [.int (hI S l1 0)]) (rest := []) C hW hS hL (c_X5_has hw) v_X9_73 ⟨rfl, rfl⟩ ⟨Nat.le_of_ble_eq_true rfl, Nat.le_of_ble_eq_true rfl⟩ ho23 hk24 rfl rfl (Nat.le_of_ble_eq_true rfl) dX9_join_51 ⟨Nat.le_of_ble_eq_true rfl, Nat.le_of_ble_eq_true rfl⟩) hS (fun r26 S25 H locs hw hW hS => ?_)
        refine lv_if_eq (tgt := 81) C.1 C.2.1 dX9_join_54 (by decide) (fun hc27 => ?_) (fun hc27 => ?_)
        · have hw := hw.1 hc27
          refine m_iinc (v := (l3 + 1)) C hL dX9_join_81 h3 rfl (by decide) (fun ls hL hn9 hk9 => ?_)
          have h0 := hk9 0 _ h0 (by decide) (Or.inl (by decide))
          have h1 := hk9 1 _ h1 (by decide) (Or.inl (by decide))
          have h2 := hk9 2 _ h2 (by decide) (Or.inr (va_rf_cat _))
          have h3 := hn9
          refine lv_goto (tgt := 20) C.1 C.2.1 dX9_join_84 (by decide) ?_
          exact ih S25 (l3 + 1) H locs ls hW hS hL h0 h1 h2 h3 hw
        · have hw := hw.2 hc27
          exact wJ19 S25 H locs ls hW hS hL h0 h1 h2 h3 h4 hw
set_option maxRecDepth 100000 in
set_option maxHeartbeats 4000000 in
theorem c_X9_join {l : Launch} {G : GX} {S : Hp} {a0 : Nat} {a1 : Option Nat} {a2 : Option Nat} {Q : Hp → Prop} (hw : wp_X9_join S a0 a1 a2 Q) : Met l yX9_join (Cond.code yX9_join cX9_join 5 none :: TS) { frames := 7, cells := 2, slots := 600, locals := 198 } (Pk G S [va_rf (some a0), va_rf a1, va_rf a2]) (QV G Q) 2 600 G.2.2.1 := by
  refine m_met (by decide) ?_
  intro p e s m below meth c H locs C hW hS
  have C : Cx p s m ([va_rf (some a0), va_rf a1, va_rf a2] : List Value).toArray meth c cX9_join 5 RX9 none "join" G := C
  obtain ⟨ls, hent, hL, hla⟩ := m_entry m (vs := [va_rf (some a0), va_rf a1, va_rf a2]) (nn := 5) [1, 1, 1] (by simp only [List.map_cons, List.map_nil, va_rf_cat] <;> rfl) (by decide)
  rw [hent]
  have h0 : ls[0]? = some (.val (va_rf (some a0))) := hla (0, va_rf (some a0)) (List.mem_of_getElem? (i := 0) rfl)
  have h1 : ls[1]? = some (.val (va_rf a1)) := hla (1, va_rf a1) (List.mem_of_getElem? (i := 1) rfl)
  have h2 : ls[2]? = some (.val (va_rf a2)) := hla (2, va_rf a2) (List.mem_of_getElem? (i := 2) rfl)
  clear hla
  generalize ([va_rf (some a0), va_rf a1, va_rf a2] : List Value).toArray = args at C ⊢
  unfold wp_X9_join at hw
  refine m_aldN C dX9_join_0 rfl h1 ?_
  obtain ⟨b1, ho1, hw⟩ := hw
  obtain ⟨hk2, hw⟩ := hw
  refine m_getR C hW ho1 hk2 f_X9_56 rfl dX9_join_1 ?_
  refine m_aldN C dX9_join_4 rfl h2 ?_
  obtain ⟨b3, ho3, hw⟩ := hw
  obtain ⟨hk4, hw⟩ := hw
  refine m_rI (m_runV (As := [va_rf a2]) (rest := []) C hW hS hL (c_Jx4a65c_add_9ea2d hw) v_X9_60 ⟨rfl, rfl⟩ ⟨Nat.le_of_ble_eq_true rfl, Nat.le_of_ble_eq_true rfl⟩ ho3 hk4 rfl rfl (Nat.le_of_ble_eq_true rfl) dX9_join_5 ⟨Nat.le_of_ble_eq_true rfl, Nat.le_of_ble_eq_true rfl⟩) hS (fun r6 S5 H locs hw hW hS => ?_)
  refine lv_pop C.1 C.2.1 dX9_join_8 (rfl) ?_
  refine m_aldN C dX9_join_9 rfl h2 ?_
  obtain ⟨b7, ho7, hw⟩ := hw
  obtain ⟨hk8, hw⟩ := hw
  refine m_getR C hW ho7 hk8 f_X9_66 rfl dX9_join_10 ?_
  refine m_aldN C dX9_join_13 rfl h1 ?_
  obtain ⟨b9, ho9, hw⟩ := hw
  obtain ⟨hk10, hw⟩ := hw
  refine m_rI (m_runV (As := [va_rf a1]) (rest := []) C hW hS hL (c_Jx4a65c_add_9ea2d hw) v_X9_60 ⟨rfl, rfl⟩ ⟨Nat.le_of_ble_eq_true rfl, Nat.le_of_ble_eq_true rfl⟩ ho9 hk10 rfl rfl (Nat.le_of_ble_eq_true rfl) dX9_join_14 ⟨Nat.le_of_ble_eq_true rfl, Nat.le_of_ble_eq_true rfl⟩) hS (fun r12 S11 H locs hw hW hS => ?_)
  refine lv_pop C.1 C.2.1 dX9_join_17 (rfl) ?_
  refine lv_iconst (v := 0) C.1 C.2.1 dX9_join_18 (by decide) ?_
  refine m_istN C hL dX9_join_19 rfl (by decide) (fun ls hL hn9 hk9 => ?_)
  have h0 := hk9 0 _ h0 (by decide) (Or.inl (by decide))
  have h1 := hk9 1 _ h1 (by decide) (Or.inl (by decide))
  have h2 := hk9 2 _ h2 (by decide) (Or.inr (va_rf_cat _))
  have h3 := hn9
  rw [ho1] at h1
  rw [ho7] at h2
  exact w_X9_join_L20 C  FU S11 0 H locs ls hW hS hL h0 h1 h2 h3 hw
def wp_X11_after (S : Hp) (a0 : Nat) (a1 : Int32) (a2 : Int32) (Q : Int32 → Hp → Prop) : Prop := hK S a0 = 13 ∧ ∃ b2 : Nat, (hR S a0 0) = some b2 ∧ hK S b2 = 11 ∧ wp_X9_hasJob S b2 a1 (fun r5 S4 => (r5 = 0 → Q (-1) S4) ∧ (¬ (r5 = 0) → hK S4 a0 = 13 ∧ ∃ b8 : Nat, (hR S4 a0 0) = some b8 ∧ hK S4 b8 = 11 ∧ wp_X9_hasJob S4 b8 a2 (fun r11 S10 => (r11 = 0 → Q (-1) S10) ∧ (¬ (r11 = 0) → hK S10 a0 = 13 ∧ ∃ b14 : Nat, (hR S10 a0 0) = some b14 ∧ hK S10 b14 = 11 ∧ ∃ b16 : Nat, (hR S10 b14 5) = some b16 ∧ hK S10 b16 = 19 ∧ vp_in a1 (hN S10 b16) ∧ vp_in a2 (hN S10 b16) ∧ ∃ b20 : Nat, (hR S10 b16 (a1 : Int32).toNatClampNeg) = some b20 ∧ hK S10 b20 = 6 ∧ wp_X4_isDirectlyBehind S10 b20 (hR S10 b16 (a2 : Int32).toNatClampNeg) (fun r23 S22 => (r23 = 0 → ((hR S10 b16 (a1 : Int32).toNatClampNeg) = (hR S10 b16 (a2 : Int32).toNatClampNeg) → Q (-4) S22) ∧ (¬ ((hR S10 b16 (a1 : Int32).toNatClampNeg) = (hR S10 b16 (a2 : Int32).toNatClampNeg)) → ∃ b26 : Nat, (hR S10 b16 (a2 : Int32).toNatClampNeg) = some b26 ∧ hK S22 b26 = 6 ∧ ∃ b28 : Nat, (hR S22 b26 6) = some b28 ∧ hK S22 b28 = 7 ∧ wp_X5_has S22 b28 a1 (fun r31 S30 => (r31 = 0 → hK S30 a0 = 13 ∧ ∃ b34 : Nat, (hR S30 a0 3) = some b34 ∧ hK S30 b34 = 10 ∧ wp_X8_empty S30 b34 (fun r37 S36 => hK S36 a0 = 13 ∧ ∃ b39 : Nat, (hR S36 a0 1) = some b39 ∧ hK S36 b39 = 8 ∧ ∃ b41 : Nat, (hR (sI S36 b39 7 0) a0 0) = some b41 ∧ hK (sI S36 b39 7 0) b41 = 11 ∧ wp_X9_join (sI S36 b39 7 0) b41 (hR S10 b16 (a1 : Int32).toNatClampNeg) (hR S10 b16 (a2 : Int32).toNatClampNeg) (fun S43 => Q 0 S43))) ∧ (¬ (r31 = 0) → Q (-4) S30)))) ∧ (¬ (r23 = 0) → Q (-3) S22))))))
set_option maxRecDepth 100000 in
set_option maxHeartbeats 4000000 in
theorem c_X11_after {l : Launch} {G : GX} {S : Hp} {a0 : Nat} {a1 : Int32} {a2 : Int32} {Q : Int32 → Hp → Prop} (hw : wp_X11_after S a0 a1 a2 Q) : Met l yX11_after (Cond.code yX11_after cX11_after 5 (some .int) :: TS) { frames := 8, cells := 2, slots := 600, locals := 222 } (Pk G S [va_rf (some a0), .int a1, .int a2]) (QI G Q) 2 600 G.2.2.1 := by
  refine m_met (by decide) ?_
  intro p e s m below meth c H locs C hW hS
  have C : Cx p s m ([va_rf (some a0), .int a1, .int a2] : List Value).toArray meth c cX11_after 5 RX11 (some .int) "after" G := C
  obtain ⟨ls, hent, hL, hla⟩ := m_entry m (vs := [va_rf (some a0), .int a1, .int a2]) (nn := 5) [1, 1, 1] rfl (by decide)
  rw [hent]
  have h0 : ls[0]? = some (.val (va_rf (some a0))) := hla (0, va_rf (some a0)) (List.mem_of_getElem? (i := 0) rfl)
  have h1 : ls[1]? = some (.val (.int a1)) := hla (1, .int a1) (List.mem_of_getElem? (i := 1) rfl)
  have h2 : ls[2]? = some (.val (.int a2)) := hla (2, .int a2) (List.mem_of_getElem? (i := 2) rfl)
  clear hla
  generalize ([va_rf (some a0), .int a1, .int a2] : List Value).toArray = args at C ⊢
  unfold wp_X11_after at hw
  refine m_aldN C dX11_after_0 rfl h0 ?_
  obtain ⟨hk1, hw⟩ := hw
  refine m_getR C hW rfl hk1 f_X11_10 rfl dX11_after_1 ?_
  refine lv_iload_n C.1 C.2.1 dX11_after_4 rfl h1 ?_
  obtain ⟨b2, ho2, hw⟩ := hw
  obtain ⟨hk3, hw⟩ := hw
  refine m_rI (m_runV (As := [.int a1]) (rest := []) C hW hS hL (c_X9_hasJob hw) v_X11_90 ⟨rfl, rfl⟩ ⟨Nat.le_of_ble_eq_true rfl, Nat.le_of_ble_eq_true rfl⟩ ho2 hk3 rfl rfl (Nat.le_of_ble_eq_true rfl) dX11_after_5 ⟨Nat.le_of_ble_eq_true rfl, Nat.le_of_ble_eq_true rfl⟩) hS (fun r5 S4 H locs hw hW hS => ?_)
  refine lv_if_eq (tgt := 22) C.1 C.2.1 dX11_after_8 (by decide) (fun hc6 => ?_) (fun hc6 => ?_)
  · have hw := hw.1 hc6
    refine lv_iconst (v := (-1)) C.1 C.2.1 dX11_after_22 (by decide) ?_
    refine W.widen (k := 2) (n := 600) (by decide) (by decide) ?_
    exact m_iret C hW hS hw dX11_after_23
  · have hw := hw.2 hc6
    refine m_aldN C dX11_after_11 rfl h0 ?_
    obtain ⟨hk7, hw⟩ := hw
    refine m_getR C hW rfl hk7 f_X11_10 rfl dX11_after_12 ?_
    refine lv_iload_n C.1 C.2.1 dX11_after_15 rfl h2 ?_
    obtain ⟨b8, ho8, hw⟩ := hw
    obtain ⟨hk9, hw⟩ := hw
    refine m_rI (m_runV (As := [.int a2]) (rest := []) C hW hS hL (c_X9_hasJob hw) v_X11_90 ⟨rfl, rfl⟩ ⟨Nat.le_of_ble_eq_true rfl, Nat.le_of_ble_eq_true rfl⟩ ho8 hk9 rfl rfl (Nat.le_of_ble_eq_true rfl) dX11_after_16 ⟨Nat.le_of_ble_eq_true rfl, Nat.le_of_ble_eq_true rfl⟩) hS (fun r11 S10 H locs hw hW hS => ?_)
    refine lv_if_ne (tgt := 24) C.1 C.2.1 dX11_after_19 (by decide) (fun hc12 => ?_) (fun hc12 => ?_)
    · have hw := hw.2 hc12
      refine m_aldN C dX11_after_24 rfl h0 ?_
      obtain ⟨hk13, hw⟩ := hw
      refine m_getR C hW rfl hk13 f_X11_10 rfl dX11_after_25 ?_
      obtain ⟨b14, ho14, hw⟩ := hw
      obtain ⟨hk15, hw⟩ := hw
      refine m_getR C hW ho14 hk15 f_X11_93 rfl dX11_after_28 ?_
      refine lv_iload_n C.1 C.2.1 dX11_after_31 rfl h1 ?_
      obtain ⟨b16, ho16, hw⟩ := hw
      obtain ⟨hk17, hw⟩ := hw
      obtain ⟨hi18, hw⟩ := hw
      refine m_aald C hW ho16 hk17 (by decide) (by decide) hi18 dX11_after_32 ?_
      refine m_astN C hL dX11_after_33 rfl (by decide) (fun ls hL hn9 hk9 => ?_)
      have h0 := hk9 0 _ h0 (by decide) (Or.inl (by decide))
      have h1 := hk9 1 _ h1 (by decide) (Or.inl (by decide))
      have h2 := hk9 2 _ h2 (by decide) (Or.inr (rfl))
      have h3 := hn9
      refine m_aldN C dX11_after_34 rfl h0 ?_
      refine m_getR C hW rfl hk13 f_X11_10 rfl dX11_after_35 ?_
      refine m_getR C hW ho14 hk15 f_X11_93 rfl dX11_after_38 ?_
      refine lv_iload_n C.1 C.2.1 dX11_after_41 rfl h2 ?_
      obtain ⟨hi19, hw⟩ := hw
      refine m_aald C hW ho16 hk17 (by decide) (by decide) hi19 dX11_after_42 ?_
      refine m_ast_ C hL dX11_after_43 (by decide) (fun ls hL hn9 hk9 => ?_)
      have h0 := hk9 0 _ h0 (by decide) (Or.inl (by decide))
      have h1 := hk9 1 _ h1 (by decide) (Or.inl (by decide))
      have h3 := hk9 3 _ h3 (by decide) (Or.inr (va_rf_cat _))
      have h4 := hn9
      refine m_aldN C dX11_after_45 rfl h3 ?_
      refine m_ald C dX11_after_46 h4 ?_
      obtain ⟨b20, ho20, hw⟩ := hw
      obtain ⟨hk21, hw⟩ := hw
      refine m_rI (m_runV (As := [va_rf (hR S10 b16 (a2 : Int32).toNatClampNeg)]) (rest := []) C hW hS hL (c_X4_isDirectlyBehind hw) v_X11_97 ⟨rfl, rfl⟩ ⟨Nat.le_of_ble_eq_true rfl, Nat.le_of_ble_eq_true rfl⟩ ho20 hk21 rfl rfl (Nat.le_of_ble_eq_true rfl) dX11_after_48 ⟨Nat.le_of_ble_eq_true rfl, Nat.le_of_ble_eq_true rfl⟩) hS (fun r23 S22 H locs hw hW hS => ?_)
      refine lv_if_eq (tgt := 57) C.1 C.2.1 dX11_after_51 (by decide) (fun hc24 => ?_) (fun hc24 => ?_)
      · have hw := hw.1 hc24
        refine m_aldN C dX11_after_57 rfl h3 ?_
        refine m_ald C dX11_after_58 h4 ?_
        refine lv_acmp_eq (rx := (hR S10 b16 (a1 : Int32).toNatClampNeg)) (ry := (hR S10 b16 (a2 : Int32).toNatClampNeg)) (tgt := 75) C.1 C.2.1 dX11_after_60 (by decide) (fun hc25 => ?_) (fun hc25 => ?_)
        · have hw := hw.1 hc25
          refine lv_bipush (v := (-4)) C.1 C.2.1 dX11_after_75 (by decide) ?_
          refine W.widen (k := 2) (n := 600) (by decide) (by decide) ?_
          exact m_iret C hW hS hw dX11_after_77
        · have hw := hw.2 hc25
          refine m_ald C dX11_after_63 h4 ?_
          obtain ⟨b26, ho26, hw⟩ := hw
          obtain ⟨hk27, hw⟩ := hw
          refine m_getR C hW ho26 hk27 f_X11_103 rfl dX11_after_65 ?_
          refine lv_iload_n C.1 C.2.1 dX11_after_68 rfl h1 ?_
          obtain ⟨b28, ho28, hw⟩ := hw
          obtain ⟨hk29, hw⟩ := hw
          refine m_rI (m_runV (As := [.int a1]) (rest := []) C hW hS hL (c_X5_has hw) v_X11_107 ⟨rfl, rfl⟩ ⟨Nat.le_of_ble_eq_true rfl, Nat.le_of_ble_eq_true rfl⟩ ho28 hk29 rfl rfl (Nat.le_of_ble_eq_true rfl) dX11_after_69 ⟨Nat.le_of_ble_eq_true rfl, Nat.le_of_ble_eq_true rfl⟩) hS (fun r31 S30 H locs hw hW hS => ?_)
          refine lv_if_eq (tgt := 78) C.1 C.2.1 dX11_after_72 (by decide) (fun hc32 => ?_) (fun hc32 => ?_)
          · have hw := hw.1 hc32
            refine m_aldN C dX11_after_78 rfl h0 ?_
            obtain ⟨hk33, hw⟩ := hw
            refine m_getR C hW rfl hk33 f_X11_35 rfl dX11_after_79 ?_
            obtain ⟨b34, ho34, hw⟩ := hw
            obtain ⟨hk35, hw⟩ := hw
            refine m_rI (m_runV (As := []) (rest := []) C hW hS hL (c_X8_empty hw) v_X11_46 ⟨rfl, rfl⟩ ⟨Nat.le_of_ble_eq_true rfl, Nat.le_of_ble_eq_true rfl⟩ ho34 hk35 rfl rfl (Nat.le_of_ble_eq_true rfl) dX11_after_82 ⟨Nat.le_of_ble_eq_true rfl, Nat.le_of_ble_eq_true rfl⟩) hS (fun r37 S36 H locs hw hW hS => ?_)
            refine lv_pop C.1 C.2.1 dX11_after_85 (rfl) ?_
            refine m_aldN C dX11_after_86 rfl h0 ?_
            obtain ⟨hk38, hw⟩ := hw
            refine m_getR C hW rfl hk38 f_X11_21 rfl dX11_after_87 ?_
            refine lv_iconst (v := 0) C.1 C.2.1 dX11_after_90 (by decide) ?_
            obtain ⟨b39, ho39, hw⟩ := hw
            obtain ⟨hk40, hw⟩ := hw
            refine m_putZ C hW hS ho39 hk40 p_X11_78 (fun z => by cases z) (by decide) rfl dX11_after_91 (fun H locs hW hS => ?_)
            refine m_aldN C dX11_after_94 rfl h0 ?_
            refine m_getR C hW rfl hk38 f_X11_10 rfl dX11_after_95 ?_
            refine m_aldN C dX11_after_98 rfl h3 ?_
            refine m_ald C dX11_after_99 h4 ?_
            obtain ⟨b41, ho41, hw⟩ := hw
            obtain ⟨hk42, hw⟩ := hw
            refine m_rV (m_runV (As := [va_rf (hR S10 b16 (a1 : Int32).toNatClampNeg), va_rf (hR S10 b16 (a2 : Int32).toNatClampNeg)]) (rest := []) C hW hS hL (c_X9_join hw) v_X11_112 ⟨rfl, rfl⟩ ⟨Nat.le_of_ble_eq_true rfl, Nat.le_of_ble_eq_true rfl⟩ ho41 hk42 rfl rfl (Nat.le_of_ble_eq_true rfl) dX11_after_101 ⟨Nat.le_of_ble_eq_true rfl, Nat.le_of_ble_eq_true rfl⟩) hS (fun S43 H locs hw hW hS => ?_)
            refine lv_iconst (v := 0) C.1 C.2.1 dX11_after_104 (by decide) ?_
            exact m_iret C hW hS hw dX11_after_105
          · have hw := hw.2 hc32
            refine lv_bipush (v := (-4)) C.1 C.2.1 dX11_after_75 (by decide) ?_
            refine W.widen (k := 2) (n := 600) (by decide) (by decide) ?_
            exact m_iret C hW hS hw dX11_after_77
      · have hw := hw.2 hc24
        refine lv_bipush (v := (-3)) C.1 C.2.1 dX11_after_54 (by decide) ?_
        refine W.widen (k := 2) (n := 600) (by decide) (by decide) ?_
        exact m_iret C hW hS hw dX11_after_56
    · have hw := hw.1 hc12
      refine lv_iconst (v := (-1)) C.1 C.2.1 dX11_after_22 (by decide) ?_
      refine W.widen (k := 2) (n := 600) (by decide) (by decide) ?_
      exact m_iret C hW hS hw dX11_after_23
def wp_L_state (S : Hp) (a0 : Option Nat) (a1 : Int32) (a2 : Int32) (a3 : Option Nat) (Q : Int32 → Hp → Prop) : Prop := ∃ b1 : Nat, a0 = some b1 ∧ hK S b1 = 13 ∧ wp_X11_state S b1 a1 a2 (fun r4 S3 => ∃ b7 : Nat, a3 = some b7 ∧ hK S3 b7 = 16 ∧ vp_in 0 (hN S3 b7) ∧ Q 0 (sJ S3 b7 (0 : Int32).toNatClampNeg ((r4 : Int32).toInt64))) (fun S5 => Q 1 S5)
set_option maxRecDepth 100000 in
set_option maxHeartbeats 4000000 in
theorem c_L_state {l : Launch} (hl : l.stackTraces = false) {G : GX} {S : Hp} {a0 : Option Nat} {a1 : Int32} {a2 : Int32} {a3 : Option Nat} {Q : Int32 → Hp → Prop} (hw : wp_L_state S a0 a1 a2 a3 Q) : vx_Met l yL_state (Cond.codeWith yL_state cL_state 5 (some .int) [(0, 10, 13, 13)] :: TS) { frames := 8, cells := 1, slots := 6, locals := 127 } (Pk G S [va_rf a0, .int a1, .int a2, va_rf a3]) (QI G Q) XN 1 6 G.2.2.1 := by
  refine m_metH (by decide) ?_
  intro p e s m below meth c H locs C hTab hW hS
  have C : Cx p s m ([va_rf a0, .int a1, .int a2, va_rf a3] : List Value).toArray meth c cL_state 5 RL (some .int) "state" G := C
  obtain ⟨ls, hent, hL, hla⟩ := m_entry m (vs := [va_rf a0, .int a1, .int a2, va_rf a3]) (nn := 5) [1, 1, 1, 1] (by simp only [List.map_cons, List.map_nil, va_rf_cat] <;> rfl) (by decide)
  rw [hent]
  have h0 : ls[0]? = some (.val (va_rf a0)) := hla (0, va_rf a0) (List.mem_of_getElem? (i := 0) rfl)
  have h1 : ls[1]? = some (.val (.int a1)) := hla (1, .int a1) (List.mem_of_getElem? (i := 1) rfl)
  have h2 : ls[2]? = some (.val (.int a2)) := hla (2, .int a2) (List.mem_of_getElem? (i := 2) rfl)
  have h3 : ls[3]? = some (.val (va_rf a3)) := hla (3, va_rf a3) (List.mem_of_getElem? (i := 3) rfl)
  clear hla
  generalize ([va_rf a0, .int a1, .int a2, va_rf a3] : List Value).toArray = args at C ⊢
  unfold wp_L_state at hw
  refine m_aldN C dL_state_0 rfl h3 ?_
  refine lv_iconst (v := 0) C.1 C.2.1 dL_state_1 (by decide) ?_
  refine m_aldN C dL_state_2 rfl h0 ?_
  refine lv_iload_n C.1 C.2.1 dL_state_3 rfl h1 ?_
  refine lv_iload_n C.1 C.2.1 dL_state_4 rfl h2 ?_
  obtain ⟨b1, ho1, hw⟩ := hw
  obtain ⟨hk2, hw⟩ := hw
  refine m_xI (m_runX (As := [.int a1, .int a2]) (rest := [.int 0, va_rf a3]) C hW hS hL (c_X11_state hl hw) v_L_7 ⟨rfl, rfl⟩ ⟨Nat.le_of_ble_eq_true rfl, Nat.le_of_ble_eq_true rfl⟩ ho1 hk2 rfl rfl (by simp only [List.map_cons, List.map_nil, va_rf_cat, List.sum_cons, List.sum_nil] <;> exact Nat.le_of_ble_eq_true rfl) dL_state_5 ⟨Nat.le_of_ble_eq_true rfl, Nat.le_of_ble_eq_true rfl⟩) hS (fun S5 q6 ce H locs hw hW hS g1 g2 g3 => ?_) (fun r4 S3 H locs hw hW hS => ?_)
  · refine m_catch C hTab tw_931 ⟨by decide, by decide⟩ g1 g2 g3 ?_
    refine m_ast_ C hL dL_state_13 (by decide) (fun ls hL hn9 hk9 => ?_)
    refine lv_iconst (v := 1) C.1 C.2.1 dL_state_15 (by decide) ?_
    exact vx_ret (m_iret C hW hS hw dL_state_16)
  · refine lv_i2l (v := ((r4 : Int32).toInt64)) C.1 C.2.1 dL_state_8 rfl ?_
    obtain ⟨b7, ho7, hw⟩ := hw
    obtain ⟨hk8, hw⟩ := hw
    obtain ⟨hi9, hw⟩ := hw
    refine m_last C hW hS ho7 hk8 hi9 dL_state_9 (fun H locs hW hS => ?_)
    refine lv_goto (tgt := 17) C.1 C.2.1 dL_state_10 (by decide) ?_
    refine lv_iconst (v := 0) C.1 C.2.1 dL_state_17 (by decide) ?_
    exact vx_ret (m_iret C hW hS hw dL_state_18)
def wp_L_result (S : Hp) (a0 : Option Nat) (a1 : Int32) (a2 : Option Nat) (Q : Int32 → Hp → Prop) : Prop := ∃ b1 : Nat, a0 = some b1 ∧ hK S b1 = 13 ∧ wp_X11_result S b1 a1 (fun r4 S3 => ∃ b7 : Nat, a2 = some b7 ∧ hK S3 b7 = 16 ∧ vp_in 0 (hN S3 b7) ∧ Q 0 (sJ S3 b7 (0 : Int32).toNatClampNeg ((r4 : Int32).toInt64))) (fun S5 => Q 1 S5)
set_option maxRecDepth 100000 in
set_option maxHeartbeats 4000000 in
theorem c_L_result {l : Launch} (hl : l.stackTraces = false) {G : GX} {S : Hp} {a0 : Option Nat} {a1 : Int32} {a2 : Option Nat} {Q : Int32 → Hp → Prop} (hw : wp_L_result S a0 a1 a2 Q) : vx_Met l yL_result (Cond.codeWith yL_result cL_result 4 (some .int) [(0, 9, 12, 13)] :: TS) { frames := 8, cells := 1, slots := 6, locals := 125 } (Pk G S [va_rf a0, .int a1, va_rf a2]) (QI G Q) XN 1 6 G.2.2.1 := by
  refine m_metH (by decide) ?_
  intro p e s m below meth c H locs C hTab hW hS
  have C : Cx p s m ([va_rf a0, .int a1, va_rf a2] : List Value).toArray meth c cL_result 4 RL (some .int) "result" G := C
  obtain ⟨ls, hent, hL, hla⟩ := m_entry m (vs := [va_rf a0, .int a1, va_rf a2]) (nn := 4) [1, 1, 1] (by simp only [List.map_cons, List.map_nil, va_rf_cat] <;> rfl) (by decide)
  rw [hent]
  have h0 : ls[0]? = some (.val (va_rf a0)) := hla (0, va_rf a0) (List.mem_of_getElem? (i := 0) rfl)
  have h1 : ls[1]? = some (.val (.int a1)) := hla (1, .int a1) (List.mem_of_getElem? (i := 1) rfl)
  have h2 : ls[2]? = some (.val (va_rf a2)) := hla (2, va_rf a2) (List.mem_of_getElem? (i := 2) rfl)
  clear hla
  generalize ([va_rf a0, .int a1, va_rf a2] : List Value).toArray = args at C ⊢
  unfold wp_L_result at hw
  refine m_aldN C dL_result_0 rfl h2 ?_
  refine lv_iconst (v := 0) C.1 C.2.1 dL_result_1 (by decide) ?_
  refine m_aldN C dL_result_2 rfl h0 ?_
  refine lv_iload_n C.1 C.2.1 dL_result_3 rfl h1 ?_
  obtain ⟨b1, ho1, hw⟩ := hw
  obtain ⟨hk2, hw⟩ := hw
  refine m_xI (m_runX (As := [.int a1]) (rest := [.int 0, va_rf a2]) C hW hS hL (c_X11_result hl hw) v_L_15 ⟨rfl, rfl⟩ ⟨Nat.le_of_ble_eq_true rfl, Nat.le_of_ble_eq_true rfl⟩ ho1 hk2 rfl rfl (by simp only [List.map_cons, List.map_nil, va_rf_cat, List.sum_cons, List.sum_nil] <;> exact Nat.le_of_ble_eq_true rfl) dL_result_4 ⟨Nat.le_of_ble_eq_true rfl, Nat.le_of_ble_eq_true rfl⟩) hS (fun S5 q6 ce H locs hw hW hS g1 g2 g3 => ?_) (fun r4 S3 H locs hw hW hS => ?_)
  · refine m_catch C hTab tw_931 ⟨by decide, by decide⟩ g1 g2 g3 ?_
    refine m_astN C hL dL_result_12 rfl (by decide) (fun ls hL hn9 hk9 => ?_)
    refine lv_iconst (v := 1) C.1 C.2.1 dL_result_13 (by decide) ?_
    exact vx_ret (m_iret C hW hS hw dL_result_14)
  · refine lv_i2l (v := ((r4 : Int32).toInt64)) C.1 C.2.1 dL_result_7 rfl ?_
    obtain ⟨b7, ho7, hw⟩ := hw
    obtain ⟨hk8, hw⟩ := hw
    obtain ⟨hi9, hw⟩ := hw
    refine m_last C hW hS ho7 hk8 hi9 dL_result_8 (fun H locs hW hS => ?_)
    refine lv_goto (tgt := 15) C.1 C.2.1 dL_result_9 (by decide) ?_
    refine lv_iconst (v := 0) C.1 C.2.1 dL_result_15 (by decide) ?_
    exact vx_ret (m_iret C hW hS hw dL_result_16)
def wp_L_part (S : Hp) (a0 : Option Nat) (a1 : Int32) (a2 : Int32) (a3 : Option Nat) (Q : Int32 → Hp → Prop) : Prop := ∃ b1 : Nat, a0 = some b1 ∧ hK S b1 = 13 ∧ wp_X11_part S b1 a1 a2 (fun r4 S3 => ∃ b7 : Nat, a3 = some b7 ∧ hK S3 b7 = 16 ∧ vp_in 0 (hN S3 b7) ∧ Q 0 (sJ S3 b7 (0 : Int32).toNatClampNeg r4)) (fun S5 => Q 1 S5)
set_option maxRecDepth 100000 in
set_option maxHeartbeats 4000000 in
theorem c_L_part {l : Launch} (hl : l.stackTraces = false) {G : GX} {S : Hp} {a0 : Option Nat} {a1 : Int32} {a2 : Int32} {a3 : Option Nat} {Q : Int32 → Hp → Prop} (hw : wp_L_part S a0 a1 a2 a3 Q) : vx_Met l yL_part (Cond.codeWith yL_part cL_part 5 (some .int) [(0, 9, 12, 13)] :: TS) { frames := 8, cells := 1, slots := 6, locals := 126 } (Pk G S [va_rf a0, .int a1, .int a2, va_rf a3]) (QI G Q) XN 1 6 G.2.2.1 := by
  refine m_metH (by decide) ?_
  intro p e s m below meth c H locs C hTab hW hS
  have C : Cx p s m ([va_rf a0, .int a1, .int a2, va_rf a3] : List Value).toArray meth c cL_part 5 RL (some .int) "part" G := C
  obtain ⟨ls, hent, hL, hla⟩ := m_entry m (vs := [va_rf a0, .int a1, .int a2, va_rf a3]) (nn := 5) [1, 1, 1, 1] (by simp only [List.map_cons, List.map_nil, va_rf_cat] <;> rfl) (by decide)
  rw [hent]
  have h0 : ls[0]? = some (.val (va_rf a0)) := hla (0, va_rf a0) (List.mem_of_getElem? (i := 0) rfl)
  have h1 : ls[1]? = some (.val (.int a1)) := hla (1, .int a1) (List.mem_of_getElem? (i := 1) rfl)
  have h2 : ls[2]? = some (.val (.int a2)) := hla (2, .int a2) (List.mem_of_getElem? (i := 2) rfl)
  have h3 : ls[3]? = some (.val (va_rf a3)) := hla (3, va_rf a3) (List.mem_of_getElem? (i := 3) rfl)
  clear hla
  generalize ([va_rf a0, .int a1, .int a2, va_rf a3] : List Value).toArray = args at C ⊢
  unfold wp_L_part at hw
  refine m_aldN C dL_part_0 rfl h3 ?_
  refine lv_iconst (v := 0) C.1 C.2.1 dL_part_1 (by decide) ?_
  refine m_aldN C dL_part_2 rfl h0 ?_
  refine lv_iload_n C.1 C.2.1 dL_part_3 rfl h1 ?_
  refine lv_iload_n C.1 C.2.1 dL_part_4 rfl h2 ?_
  obtain ⟨b1, ho1, hw⟩ := hw
  obtain ⟨hk2, hw⟩ := hw
  refine m_xL (m_runX (As := [.int a1, .int a2]) (rest := [.int 0, va_rf a3]) C hW hS hL (c_X11_part hl hw) v_L_19 ⟨rfl, rfl⟩ ⟨Nat.le_of_ble_eq_true rfl, Nat.le_of_ble_eq_true rfl⟩ ho1 hk2 rfl rfl (by simp only [List.map_cons, List.map_nil, va_rf_cat, List.sum_cons, List.sum_nil] <;> exact Nat.le_of_ble_eq_true rfl) dL_part_5 ⟨Nat.le_of_ble_eq_true rfl, Nat.le_of_ble_eq_true rfl⟩) hS (fun S5 q6 ce H locs hw hW hS g1 g2 g3 => ?_) (fun r4 S3 H locs hw hW hS => ?_)
  · refine m_catch C hTab tw_931 ⟨by decide, by decide⟩ g1 g2 g3 ?_
    refine m_ast_ C hL dL_part_12 (by decide) (fun ls hL hn9 hk9 => ?_)
    refine lv_iconst (v := 1) C.1 C.2.1 dL_part_14 (by decide) ?_
    exact vx_ret (m_iret C hW hS hw dL_part_15)
  · obtain ⟨b7, ho7, hw⟩ := hw
    obtain ⟨hk8, hw⟩ := hw
    obtain ⟨hi9, hw⟩ := hw
    refine m_last C hW hS ho7 hk8 hi9 dL_part_8 (fun H locs hW hS => ?_)
    refine lv_goto (tgt := 16) C.1 C.2.1 dL_part_9 (by decide) ?_
    refine lv_iconst (v := 0) C.1 C.2.1 dL_part_16 (by decide) ?_
    exact vx_ret (m_iret C hW hS hw dL_part_17)
