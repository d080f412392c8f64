def wp_X12_frees_L14 (l0 : Nat) (l1 : Int32) (Q : Hp → Prop) : Nat → Hp → Int32 → Prop
  | 0, _, _ => False
  | n + 1, S, l2 => hK S l0 = 14 ∧ ((hI S l0 3) ≤ l2 → ∃ b10 : Nat, (hR S l0 28) = some b10 ∧ hK S b10 = 15 ∧ vp_in l1 (hN S b10) ∧ Q (sI S b10 (l1 : Int32).toNatClampNeg (hI S l0 24))) ∧ (¬ ((hI S l0 3) ≤ l2) → ∃ b13 : Nat, (hR S l0 12) = some b13 ∧ hK S b13 = 17 ∧ vp_in ((40 * l1) + l2) (hN S b13) ∧ ((hI S b13 (((40 * l1) + l2) : Int32).toNatClampNeg) = 0 → wp_X12_frees_L14 l0 l1 Q n S (l2 + 1)) ∧ (¬ ((hI S b13 (((40 * l1) + l2) : Int32).toNatClampNeg) = 0) → ∃ b17 : Nat, (hR S l0 33) = some b17 ∧ hK S b17 = 15 ∧ vp_in l2 (hN S b17) ∧ wp_X12_frees_L14 l0 l1 Q n (sI S b17 (l2 : Int32).toNatClampNeg (-1)) (l2 + 1)))
def wp_X12_frees (S : Hp) (a0 : Nat) (a1 : Int32) (Q : Hp → Prop) : Prop := hK S a0 = 14 ∧ ∃ b2 : Nat, (hR S a0 29) = some b2 ∧ hK S b2 = 15 ∧ vp_in a1 (hN S b2) ∧ ∃ b5 : Nat, (hR S a0 32) = some b5 ∧ hK S b5 = 15 ∧ vp_in (hI S b2 (a1 : Int32).toNatClampNeg) (hN S b5) ∧ wp_X12_frees_L14 a0 a1 Q FU (sI S b5 ((hI S b2 (a1 : Int32).toNatClampNeg) : Int32).toNatClampNeg (-1)) 0
set_option maxRecDepth 100000 in
set_option maxHeartbeats 4000000 in
theorem w_X12_frees_L14 {p : Program} {l : Launch} {e : Env} {s : State} {m : MethodId} {args : Array Value} {below : List Frame} {meth : Method} {c : Code} {G : GX} {Q : Hp → Prop} {l0 : Nat} {l1 : Int32} (C : Cx p s m args meth c cX12_frees 3 RX12 none "frees" G) :
    ∀ (n : Nat) (S : Hp) (l2 : Int32) (H : Heap) (locs : List Loc) (ls : Array Slot), wd G S H → va_S G.2.2.1 s.heap H locs → LV ls 3 → ls[0]? = some (.val (va_rf (some l0))) → ls[1]? = some (.val (.int l1)) → ls[2]? = some (.val (.int l2)) → wp_X12_frees_L14 l0 l1 Q n S l2 → W p l e ({ frames := 0, cells := 0, slots := 0, locals := 0 } : Room) s m args below meth c H locs 0 0 (MQ below (QV G Q) args s 0 0 G.2.2.1) (F0 m 14 ls []) := by
  intro n
  induction n with
  | zero =>
    intro S l2 H locs ls hW hS hL h0 h1 h2 hw
    exact False.elim hw
  | succ n ih =>
    intro S l2 H locs ls hW hS hL h0 h1 h2 hw
    unfold wp_X12_frees_L14 at hw
    refine lv_iload_n C.1 C.2.1 dX12_frees_14 rfl h2 ?_
    refine m_aldN C dX12_frees_15 rfl h0 ?_
    obtain ⟨hk8, hw⟩ := hw
    refine m_getI C hW rfl hk8 f_X12_145 rfl dX12_frees_16 ?_
    refine lv_icmp_ge (tgt := 49) C.1 C.2.1 dX12_frees_19 (by decide) (fun hc9 => ?_) (fun hc9 => ?_)
    · have hw := hw.1 hc9
      refine m_aldN C dX12_frees_49 rfl h0 ?_
      refine m_getR C hW rfl hk8 f_X12_69 rfl dX12_frees_50 ?_
      refine lv_iload_n C.1 C.2.1 dX12_frees_53 rfl h1 ?_
      refine m_aldN C dX12_frees_54 rfl h0 ?_
      refine m_getI C hW rfl hk8 f_X12_202 rfl dX12_frees_55 ?_
      obtain ⟨b10, ho10, hw⟩ := hw
      obtain ⟨hk11, hw⟩ := hw
      obtain ⟨hi12, hw⟩ := hw
      refine m_iast C hW hS ho10 hk11 hi12 dX12_frees_58 (fun H locs hW hS => ?_)
      exact m_vret C hW hS hw dX12_frees_59
    · have hw := hw.2 hc9
      refine m_aldN C dX12_frees_22 rfl h0 ?_
      refine m_getR C hW rfl hk8 f_X12_33 rfl dX12_frees_23 ?_
      refine lv_bipush (v := 40) C.1 C.2.1 dX12_frees_26 (by decide) ?_
      refine lv_iload_n C.1 C.2.1 dX12_frees_28 rfl h1 ?_
      refine lv_imul C.1 C.2.1 dX12_frees_29 ?_
      refine lv_iload_n C.1 C.2.1 dX12_frees_30 rfl h2 ?_
      refine lv_iadd C.1 C.2.1 dX12_frees_31 ?_
      obtain ⟨b13, ho13, hw⟩ := hw
      obtain ⟨hk14, hw⟩ := hw
      obtain ⟨hi15, hw⟩ := hw
      refine m_zald C hW ho13 hk14 hi15 dX12_frees_32 ?_
      refine lv_if_eq (tgt := 43) C.1 C.2.1 dX12_frees_33 (by decide) (fun hc16 => ?_) (fun hc16 => ?_)
      · have hw := hw.1 hc16
        refine m_iinc (v := (l2 + 1)) C hL dX12_frees_43 h2 rfl (by decide) (fun ls hL hn9 hk9 => ?_)
        have h0 := hk9 0 _ h0 (by decide) (Or.inl (by decide))
        have h1 := hk9 1 _ h1 (by decide) (Or.inr (rfl))
        have h2 := hn9
        refine lv_goto (tgt := 14) C.1 C.2.1 dX12_frees_46 (by decide) ?_
        exact ih S (l2 + 1) H locs ls hW hS hL h0 h1 h2 hw
      · have hw := hw.2 hc16
        refine m_aldN C dX12_frees_36 rfl h0 ?_
        refine m_getR C hW rfl hk8 f_X12_84 rfl dX12_frees_37 ?_
        refine lv_iload_n C.1 C.2.1 dX12_frees_40 rfl h2 ?_
        refine lv_iconst (v := (-1)) C.1 C.2.1 dX12_frees_41 (by decide) ?_
        obtain ⟨b17, ho17, hw⟩ := hw
        obtain ⟨hk18, hw⟩ := hw
        obtain ⟨hi19, hw⟩ := hw
        refine m_iast C hW hS ho17 hk18 hi19 dX12_frees_42 (fun H locs hW hS => ?_)
        refine m_iinc (v := (l2 + 1)) C hL dX12_frees_43 h2 rfl (by decide) (fun ls hL hn9 hk9 => ?_)
        have h0 := hk9 0 _ h0 (by decide) (Or.inl (by decide))
        have h1 := hk9 1 _ h1 (by decide) (Or.inr (rfl))
        have h2 := hn9
        refine lv_goto (tgt := 14) C.1 C.2.1 dX12_frees_46 (by decide) ?_
        exact ih (sI S b17 (l2 : Int32).toNatClampNeg (-1)) (l2 + 1) H locs ls hW hS hL h0 h1 h2 hw
set_option maxRecDepth 100000 in
set_option maxHeartbeats 4000000 in
theorem c_X12_frees {l : Launch} {G : GX} {S : Hp} {a0 : Nat} {a1 : Int32} {Q : Hp → Prop} (hw : wp_X12_frees S a0 a1 Q) : Met l yX12_frees (Cond.code yX12_frees cX12_frees 3 none :: TS) { frames := 0, cells := 0, slots := 0, locals := 0 } (Pk G S [va_rf (some a0), .int a1]) (QV G Q) 0 0 G.2.2.1 := by
  refine m_met (by decide) ?_
  intro p e s m below meth c H locs C hW hS
  have C : Cx p s m ([va_rf (some a0), .int a1] : List Value).toArray meth c cX12_frees 3 RX12 none "frees" G := C
  obtain ⟨ls, hent, hL, hla⟩ := m_entry m (vs := [va_rf (some a0), .int a1]) (nn := 3) [1, 1] rfl (by decide)
  rw [hent]
  have h0 : ls[0]? = some (.val (va_rf (some a0))) := hla (0, va_rf (some a0)) (List.mem_of_getElem? (i := 0) rfl)
  have h1 : ls[1]? = some (.val (.int a1)) := hla (1, .int a1) (List.mem_of_getElem? (i := 1) rfl)
  clear hla
  generalize ([va_rf (some a0), .int a1] : List Value).toArray = args at C ⊢
  unfold wp_X12_frees at hw
  refine m_aldN C dX12_frees_0 rfl h0 ?_
  obtain ⟨hk1, hw⟩ := hw
  refine m_getR C hW rfl hk1 f_X12_81 rfl dX12_frees_1 ?_
  refine m_aldN C dX12_frees_4 rfl h0 ?_
  refine m_getR C hW rfl hk1 f_X12_72 rfl dX12_frees_5 ?_
  refine lv_iload_n C.1 C.2.1 dX12_frees_8 rfl h1 ?_
  obtain ⟨b2, ho2, hw⟩ := hw
  obtain ⟨hk3, hw⟩ := hw
  obtain ⟨hi4, hw⟩ := hw
  refine m_iald C hW ho2 hk3 hi4 dX12_frees_9 ?_
  refine lv_iconst (v := (-1)) C.1 C.2.1 dX12_frees_10 (by decide) ?_
  obtain ⟨b5, ho5, hw⟩ := hw
  obtain ⟨hk6, hw⟩ := hw
  obtain ⟨hi7, hw⟩ := hw
  refine m_iast C hW hS ho5 hk6 hi7 dX12_frees_11 (fun H locs hW hS => ?_)
  refine lv_iconst (v := 0) C.1 C.2.1 dX12_frees_12 (by decide) ?_
  refine m_istN C hL dX12_frees_13 rfl (by decide) (fun ls hL hn9 hk9 => ?_)
  have h0 := hk9 0 _ h0 (by decide) (Or.inl (by decide))
  have h1 := hk9 1 _ h1 (by decide) (Or.inr (rfl))
  have h2 := hn9
  exact w_X12_frees_L14 C  FU (sI S b5 ((hI S b2 (a1 : Int32).toNatClampNeg) : Int32).toNatClampNeg (-1)) 0 H locs ls hW hS hL h0 h1 h2 hw
def wp_X12_farOf (S : Hp) (a0 : Nat) (a1 : Int32) (Q : Int32 → Hp → Prop) : Prop := hK S a0 = 14 ∧ ∃ b2 : Nat, (hR S a0 27) = some b2 ∧ hK S b2 = 15 ∧ vp_in a1 (hN S b2) ∧ ((hI S b2 (a1 : Int32).toNatClampNeg) = (-1) → Q 0 S) ∧ (¬ ((hI S b2 (a1 : Int32).toNatClampNeg) = (-1)) → ∃ b6 : Nat, (hR S a0 28) = some b6 ∧ hK S b6 = 15 ∧ vp_in a1 (hN S b6) ∧ ((hI S b6 (a1 : Int32).toNatClampNeg) = (-1) → Q 0 S) ∧ (¬ ((hI S b6 (a1 : Int32).toNatClampNeg) = (-1)) → vp_in a1 (hN S b6) ∧ vp_in a1 (hN S b2) ∧ Q ((hI S b6 (a1 : Int32).toNatClampNeg) - (hI S b2 (a1 : Int32).toNatClampNeg)) S))
set_option maxRecDepth 100000 in
set_option maxHeartbeats 4000000 in
theorem c_X12_farOf {l : Launch} {G : GX} {S : Hp} {a0 : Nat} {a1 : Int32} {Q : Int32 → Hp → Prop} (hw : wp_X12_farOf S a0 a1 Q) : Met l yX12_farOf (Cond.code yX12_farOf cX12_farOf 2 (some .int) :: TS) { frames := 0, cells := 0, slots := 0, locals := 0 } (Pk G S [va_rf (some a0), .int a1]) (QI G Q) 0 0 G.2.2.1 := by
  refine m_met (by decide) ?_
  intro p e s m below meth c H locs C hW hS
  have C : Cx p s m ([va_rf (some a0), .int a1] : List Value).toArray meth c cX12_farOf 2 RX12 (some .int) "farOf" G := C
  obtain ⟨ls, hent, hL, hla⟩ := m_entry m (vs := [va_rf (some a0), .int a1]) (nn := 2) [1, 1] rfl (by decide)
  rw [hent]
  have h0 : ls[0]? = some (.val (va_rf (some a0))) := hla (0, va_rf (some a0)) (List.mem_of_getElem? (i := 0) rfl)
  have h1 : ls[1]? = some (.val (.int a1)) := hla (1, .int a1) (List.mem_of_getElem? (i := 1) rfl)
  clear hla
  generalize ([va_rf (some a0), .int a1] : List Value).toArray = args at C ⊢
  unfold wp_X12_farOf at hw
  refine m_aldN C dX12_farOf_0 rfl h0 ?_
  obtain ⟨hk1, hw⟩ := hw
  refine m_getR C hW rfl hk1 f_X12_66 rfl dX12_farOf_1 ?_
  refine lv_iload_n C.1 C.2.1 dX12_farOf_4 rfl h1 ?_
  obtain ⟨b2, ho2, hw⟩ := hw
  obtain ⟨hk3, hw⟩ := hw
  obtain ⟨hi4, hw⟩ := hw
  refine m_iald C hW ho2 hk3 hi4 dX12_farOf_5 ?_
  refine lv_iconst (v := (-1)) C.1 C.2.1 dX12_farOf_6 (by decide) ?_
  refine lv_icmp_eq (tgt := 20) C.1 C.2.1 dX12_farOf_7 (by decide) (fun hc5 => ?_) (fun hc5 => ?_)
  · have hw := hw.1 hc5
    refine lv_iconst (v := 0) C.1 C.2.1 dX12_farOf_20 (by decide) ?_
    refine lv_goto (tgt := 37) C.1 C.2.1 dX12_farOf_21 (by decide) ?_
    exact m_iret C hW hS hw dX12_farOf_37
  · have hw := hw.2 hc5
    refine m_aldN C dX12_farOf_10 rfl h0 ?_
    refine m_getR C hW rfl hk1 f_X12_69 rfl dX12_farOf_11 ?_
    refine lv_iload_n C.1 C.2.1 dX12_farOf_14 rfl h1 ?_
    obtain ⟨b6, ho6, hw⟩ := hw
    obtain ⟨hk7, hw⟩ := hw
    obtain ⟨hi8, hw⟩ := hw
    refine m_iald C hW ho6 hk7 hi8 dX12_farOf_15 ?_
    refine lv_iconst (v := (-1)) C.1 C.2.1 dX12_farOf_16 (by decide) ?_
    refine lv_icmp_ne (tgt := 24) C.1 C.2.1 dX12_farOf_17 (by decide) (fun hc9 => ?_) (fun hc9 => ?_)
    · have hw := hw.2 hc9
      refine m_aldN C dX12_farOf_24 rfl h0 ?_
      refine m_getR C hW rfl hk1 f_X12_69 rfl dX12_farOf_25 ?_
      refine lv_iload_n C.1 C.2.1 dX12_farOf_28 rfl h1 ?_
      obtain ⟨hi10, hw⟩ := hw
      refine m_iald C hW ho6 hk7 hi10 dX12_farOf_29 ?_
      refine m_aldN C dX12_farOf_30 rfl h0 ?_
      refine m_getR C hW rfl hk1 f_X12_66 rfl dX12_farOf_31 ?_
      refine lv_iload_n C.1 C.2.1 dX12_farOf_34 rfl h1 ?_
      obtain ⟨hi11, hw⟩ := hw
      refine m_iald C hW ho2 hk3 hi11 dX12_farOf_35 ?_
      refine lv_isub C.1 C.2.1 dX12_farOf_36 ?_
      exact m_iret C hW hS hw dX12_farOf_37
    · have hw := hw.1 hc9
      refine lv_iconst (v := 0) C.1 C.2.1 dX12_farOf_20 (by decide) ?_
      refine lv_goto (tgt := 37) C.1 C.2.1 dX12_farOf_21 (by decide) ?_
      exact m_iret C hW hS hw dX12_farOf_37
def wp_X12_restBack_L2 (l0 : Nat) (l1 : Int32) (Q : Hp → Prop) : Nat → Hp → Int32 → Prop
  | 0, _, _ => False
  | n + 1, S, l2 => (60 ≤ l2 → Q S) ∧ (¬ (60 ≤ l2) → hK S l0 = 14 ∧ ∃ b3 : Nat, (hR S l0 13) = some b3 ∧ hK S b3 = 15 ∧ vp_in ((60 * l1) + l2) (hN S b3) ∧ ∀ z6 : Int64, z6 = (((hI S b3 (((60 * l1) + l2) : Int32).toNatClampNeg) : Int32).toInt64) → ∃ b7 : Nat, (hR S l0 35) = some b7 ∧ hK S b7 = 16 ∧ vp_in l2 (hN S b7) ∧ wp_X12_farOf S l0 l1 (fun r11 S10 => hK S10 l0 = 14 ∧ ∃ b13 : Nat, (hR S10 l0 8) = some b13 ∧ hK S10 b13 = 15 ∧ vp_in l1 (hN S10 b13) ∧ ¬ (((hI S10 b13 (l1 : Int32).toNatClampNeg) : Int32).toInt64) = 0 ∧ hK S10 b7 = 16 ∧ vp_in l2 (hN S10 b7) ∧ wp_X12_restBack_L2 l0 l1 Q n (sJ S10 b7 (l2 : Int32).toNatClampNeg ((hJ S b7 (l2 : Int32).toNatClampNeg) + (z6 - ((z6 * ((r11 : Int32).toInt64)) / (((hI S10 b13 (l1 : Int32).toNatClampNeg) : Int32).toInt64))))) (l2 + 1)))
def wp_X12_restBack (S : Hp) (a0 : Nat) (a1 : Int32) (Q : Hp → Prop) : Prop := wp_X12_restBack_L2 a0 a1 Q FU S 0
set_option maxRecDepth 100000 in
set_option maxHeartbeats 4000000 in
theorem w_X12_restBack_L2 {p : Program} {l : Launch} {e : Env} {s : State} {m : MethodId} {args : Array Value} {below : List Frame} {meth : Method} {c : Code} {G : GX} {Q : Hp → Prop} {l0 : Nat} {l1 : Int32} (C : Cx p s m args meth c cX12_restBack 5 RX12 none "restBack" G) :
    ∀ (n : Nat) (S : Hp) (l2 : Int32) (H : Heap) (locs : List Loc) (ls : Array Slot), wd G S H → va_S G.2.2.1 s.heap H locs → LV ls 5 → ls[0]? = some (.val (va_rf (some l0))) → ls[1]? = some (.val (.int l1)) → ls[2]? = some (.val (.int l2)) → wp_X12_restBack_L2 l0 l1 Q n S l2 → W p l e ({ frames := 1, cells := 0, slots := 0, locals := 21 } : Room) s m args below meth c H locs 0 0 (MQ below (QV G Q) args s 0 0 G.2.2.1) (F0 m 2 ls []) := by
  intro n
  induction n with
  | zero =>
    intro S l2 H locs ls hW hS hL h0 h1 h2 hw
    exact False.elim hw
  | succ n ih =>
    intro S l2 H locs ls hW hS hL h0 h1 h2 hw
    unfold wp_X12_restBack_L2 at hw
    refine lv_iload_n C.1 C.2.1 dX12_restBack_2 rfl h2 ?_
    refine lv_bipush (v := 60) C.1 C.2.1 dX12_restBack_3 (by decide) ?_
    refine lv_icmp_ge (tgt := 54) C.1 C.2.1 dX12_restBack_5 (by decide) (fun hc1 => ?_) (fun hc1 => ?_)
    · have hw := hw.1 hc1
      exact m_vret C hW hS hw dX12_restBack_54
    · have hw := hw.2 hc1
      refine m_aldN C dX12_restBack_8 rfl h0 ?_
      obtain ⟨hk2, hw⟩ := hw
      refine m_getR C hW rfl hk2 f_X12_36 rfl dX12_restBack_9 ?_
      refine lv_bipush (v := 60) C.1 C.2.1 dX12_restBack_12 (by decide) ?_
      refine lv_iload_n C.1 C.2.1 dX12_restBack_14 rfl h1 ?_
      refine lv_imul C.1 C.2.1 dX12_restBack_15 ?_
      refine lv_iload_n C.1 C.2.1 dX12_restBack_16 rfl h2 ?_
      refine lv_iadd C.1 C.2.1 dX12_restBack_17 ?_
      obtain ⟨b3, ho3, hw⟩ := hw
      obtain ⟨hk4, hw⟩ := hw
      obtain ⟨hi5, hw⟩ := hw
      refine m_iald C hW ho3 hk4 hi5 dX12_restBack_18 ?_
      refine lv_i2l (v := (((hI S b3 (((60 * l1) + l2) : Int32).toNatClampNeg) : Int32).toInt64)) C.1 C.2.1 dX12_restBack_19 rfl ?_
      refine lv_topl (fun z6 ez6 => ?_)
      have hw := hw z6 ez6
      refine m_lstN C hL dX12_restBack_20 rfl (by decide) (fun ls hL hn9 hk9 => ?_)
      have h0 := hk9 0 _ h0 (by decide) (by decide) (Or.inl (by decide))
      have h1 := hk9 1 _ h1 (by decide) (by decide) (Or.inl (by decide))
      have h2 := hk9 2 _ h2 (by decide) (by decide) (Or.inr (rfl))
      have h3 := hn9
      refine m_aldN C dX12_restBack_21 rfl h0 ?_
      refine m_getR C hW rfl hk2 f_X12_90 rfl dX12_restBack_22 ?_
      refine lv_iload_n C.1 C.2.1 dX12_restBack_25 rfl h2 ?_
      refine lv_dup2_11 C.1 C.2.1 dX12_restBack_26 (rfl) (va_rf_cat _) ?_
      obtain ⟨b7, ho7, hw⟩ := hw
      obtain ⟨hk8, hw⟩ := hw
      obtain ⟨hi9, hw⟩ := hw
      refine m_lald C hW ho7 hk8 hi9 dX12_restBack_27 ?_
      refine lv_lload_n C.1 C.2.1 dX12_restBack_28 rfl h3 ?_
      refine lv_lload_n C.1 C.2.1 dX12_restBack_29 rfl h3 ?_
      refine m_aldN C dX12_restBack_30 rfl h0 ?_
      refine lv_iload_n C.1 C.2.1 dX12_restBack_31 rfl h1 ?_
      refine m_rI (m_runV (As := [.int l1]) (rest := [.long z6, .long z6, .long (hJ S b7 (l2 : Int32).toNatClampNeg), .int l2, va_rf (hR S l0 35)]) C hW hS hL (c_X12_farOf hw) v_X12_215 ⟨rfl, rfl⟩ ⟨Nat.le_of_ble_eq_true rfl, Nat.le_of_ble_eq_true rfl⟩ rfl hk2 rfl rfl (by simp only [List.map_cons, List.map_nil, va_rf_cat, List.sum_cons, List.sum_nil] <;> exact Nat.le_of_ble_eq_true rfl) dX12_restBack_32 ⟨Nat.le_of_ble_eq_true rfl, Nat.le_of_ble_eq_true rfl⟩) hS (fun r11 S10 H locs hw hW hS => ?_)
      refine lv_i2l (v := ((r11 : Int32).toInt64)) C.1 C.2.1 dX12_restBack_35 rfl ?_
      refine lv_lmul C.1 C.2.1 dX12_restBack_36 ?_
      refine m_aldN C dX12_restBack_37 rfl h0 ?_
      obtain ⟨hk12, hw⟩ := hw
      refine m_getR C hW rfl hk12 f_X12_19 rfl dX12_restBack_38 ?_
      refine lv_iload_n C.1 C.2.1 dX12_restBack_41 rfl h1 ?_
      obtain ⟨b13, ho13, hw⟩ := hw
      obtain ⟨hk14, hw⟩ := hw
      obtain ⟨hi15, hw⟩ := hw
      refine m_iald C hW ho13 hk14 hi15 dX12_restBack_42 ?_
      refine lv_i2l (v := (((hI S10 b13 (l1 : Int32).toNatClampNeg) : Int32).toInt64)) C.1 C.2.1 dX12_restBack_43 rfl ?_
      obtain ⟨hz16, hw⟩ := hw
      refine lv_ldiv C.1 C.2.1 dX12_restBack_44 hz16 ?_
      refine lv_lsub C.1 C.2.1 dX12_restBack_45 ?_
      refine lv_ladd C.1 C.2.1 dX12_restBack_46 ?_
      obtain ⟨hk17, hw⟩ := hw
      obtain ⟨hi18, hw⟩ := hw
      refine m_last C hW hS ho7 hk17 hi18 dX12_restBack_47 (fun H locs hW hS => ?_)
      refine m_iinc (v := (l2 + 1)) C hL dX12_restBack_48 h2 rfl (by decide) (fun ls hL hn9 hk9 => ?_)
      have h0 := hk9 0 _ h0 (by decide) (Or.inl (by decide))
      have h1 := hk9 1 _ h1 (by decide) (Or.inr (rfl))
      have h2 := hn9
      refine lv_goto (tgt := 2) C.1 C.2.1 dX12_restBack_51 (by decide) ?_
      exact ih (sJ S10 b7 (l2 : Int32).toNatClampNeg ((hJ S b7 (l2 : Int32).toNatClampNeg) + (z6 - ((z6 * ((r11 : Int32).toInt64)) / (((hI S10 b13 (l1 : Int32).toNatClampNeg) : Int32).toInt64))))) (l2 + 1) H locs ls hW hS hL h0 h1 h2 hw
set_option maxRecDepth 100000 in
set_option maxHeartbeats 4000000 in
theorem c_X12_restBack {l : Launch} {G : GX} {S : Hp} {a0 : Nat} {a1 : Int32} {Q : Hp → Prop} (hw : wp_X12_restBack S a0 a1 Q) : Met l yX12_restBack (Cond.code yX12_restBack cX12_restBack 5 none :: TS) { frames := 1, cells := 0, slots := 0, locals := 21 } (Pk G S [va_rf (some a0), .int a1]) (QV G Q) 0 0 G.2.2.1 := by
  refine m_met (by decide) ?_
  intro p e s m below meth c H locs C hW hS
  have C : Cx p s m ([va_rf (some a0), .int a1] : List Value).toArray meth c cX12_restBack 5 RX12 none "restBack" G := C
  obtain ⟨ls, hent, hL, hla⟩ := m_entry m (vs := [va_rf (some a0), .int a1]) (nn := 5) [1, 1] rfl (by decide)
  rw [hent]
  have h0 : ls[0]? = some (.val (va_rf (some a0))) := hla (0, va_rf (some a0)) (List.mem_of_getElem? (i := 0) rfl)
  have h1 : ls[1]? = some (.val (.int a1)) := hla (1, .int a1) (List.mem_of_getElem? (i := 1) rfl)
  clear hla
  generalize ([va_rf (some a0), .int a1] : List Value).toArray = args at C ⊢
  unfold wp_X12_restBack at hw
  refine lv_iconst (v := 0) C.1 C.2.1 dX12_restBack_0 (by decide) ?_
  refine m_istN C hL dX12_restBack_1 rfl (by decide) (fun ls hL hn9 hk9 => ?_)
  have h0 := hk9 0 _ h0 (by decide) (Or.inl (by decide))
  have h1 := hk9 1 _ h1 (by decide) (Or.inr (rfl))
  have h2 := hn9
  exact w_X12_restBack_L2 C  FU S 0 H locs ls hW hS hL h0 h1 h2 hw
def wp_X12_ends_L71 (l0 : Nat) (l1 : Int32) (Q : Hp → Prop) : Nat → Hp → Int32 → Prop
  | 0, _, _ => False
  | n + 1, S, l2 => (60 ≤ l2 → hK S l0 = 14 ∧ wp_X12_tells S l0 l1 1 (fun S31 => Q S31)) ∧ (¬ (60 ≤ l2) → hK S l0 = 14 ∧ ∃ b33 : Nat, (hR S l0 35) = some b33 ∧ hK S b33 = 16 ∧ vp_in l2 (hN S b33) ∧ ∃ b36 : Nat, (hR S l0 14) = some b36 ∧ hK S b36 = 15 ∧ vp_in ((60 * l1) + l2) (hN S b36) ∧ vp_in l2 (hN S b33) ∧ wp_X12_ends_L71 l0 l1 Q n (sJ S b33 (l2 : Int32).toNatClampNeg ((hJ S b33 (l2 : Int32).toNatClampNeg) + (((hI S b36 (((60 * l1) + l2) : Int32).toNatClampNeg) : Int32).toInt64))) (l2 + 1))
def wp_X12_ends (S : Hp) (a0 : Nat) (a1 : Int32) (Q : Hp → Prop) : Prop := hK S a0 = 14 ∧ wp_X12_frees S a0 a1 (fun S2 => hK S2 a0 = 14 ∧ ∃ b4 : Nat, (hR S2 a0 20) = some b4 ∧ hK S2 b4 = 15 ∧ vp_in a1 (hN S2 b4) ∧ ∃ J8 : Hp → Option Nat → Int32 → Int32 → Prop, J8 = (fun (S14 : Hp) (o15 : Option Nat) (x16 : Int32) (x17 : Int32) => ∃ b18 : Nat, o15 = some b18 ∧ hK S14 b18 = 15 ∧ vp_in x16 (hN S14 b18) ∧ hK (sI S14 b18 (x16 : Int32).toNatClampNeg x17) a0 = 14 ∧ ∃ b22 : Nat, (hR (sI S14 b18 (x16 : Int32).toNatClampNeg x17) a0 31) = some b22 ∧ hK (sI S14 b18 (x16 : Int32).toNatClampNeg x17) b22 = 15 ∧ vp_in a1 (hN (sI S14 b18 (x16 : Int32).toNatClampNeg x17) b22) ∧ ((hI (sI S14 b18 (x16 : Int32).toNatClampNeg x17) b22 (a1 : Int32).toNatClampNeg) ≤ 0 → ∃ b26 : Nat, (hR (sI S14 b18 (x16 : Int32).toNatClampNeg x17) a0 26) = some b26 ∧ hK (sI S14 b18 (x16 : Int32).toNatClampNeg x17) b26 = 15 ∧ vp_in a1 (hN (sI S14 b18 (x16 : Int32).toNatClampNeg x17) b26) ∧ wp_X12_ends_L71 a0 a1 Q FU (sI (sI S14 b18 (x16 : Int32).toNatClampNeg x17) b26 (a1 : Int32).toNatClampNeg 1) 0) ∧ (¬ ((hI (sI S14 b18 (x16 : Int32).toNatClampNeg x17) b22 (a1 : Int32).toNatClampNeg) ≤ 0) → ∃ b40 : Nat, (hR (sI S14 b18 (x16 : Int32).toNatClampNeg x17) a0 26) = some b40 ∧ hK (sI S14 b18 (x16 : Int32).toNatClampNeg x17) b40 = 15 ∧ vp_in a1 (hN (sI S14 b18 (x16 : Int32).toNatClampNeg x17) b40) ∧ wp_X12_restBack (sI (sI S14 b18 (x16 : Int32).toNatClampNeg x17) b40 (a1 : Int32).toNatClampNeg 2) a0 a1 (fun S43 => hK S43 a0 = 14 ∧ wp_X12_tells S43 a0 a1 2 (fun S45 => Q S45)))) ∧ ((hI S2 b4 (a1 : Int32).toNatClampNeg) ≤ 0 → wp_X12_bodyOf S2 a0 a1 (fun r10 S9 => J8 S9 (hR S2 a0 31) a1 r10)) ∧ (¬ ((hI S2 b4 (a1 : Int32).toNatClampNeg) ≤ 0) → ∃ b11 : Nat, (hR S2 a0 21) = some b11 ∧ hK S2 b11 = 15 ∧ vp_in a1 (hN S2 b11) ∧ J8 S2 (hR S2 a0 31) a1 (hI S2 b11 (a1 : Int32).toNatClampNeg)))
set_option maxRecDepth 100000 in
set_option maxHeartbeats 4000000 in
theorem w_X12_ends_L71 {p : Program} {l : Launch} {e : Env} {s : State} {m : MethodId} {args : Array Value} {below : List Frame} {meth : Method} {c : Code} {G : GX} {Q : Hp → Prop} {l0 : Nat} {l1 : Int32} (C : Cx p s m args meth c cX12_ends 3 RX12 none "ends" G) :
    ∀ (n : Nat) (S : Hp) (l2 : Int32) (H : Heap) (locs : List Loc) (ls : Array Slot), wd G S H → va_S G.2.2.1 s.heap H locs → LV ls 3 → ls[0]? = some (.val (va_rf (some l0))) → ls[1]? = some (.val (.int l1)) → ls[2]? = some (.val (.int l2)) → wp_X12_ends_L71 l0 l1 Q n S l2 → W p l e ({ frames := 4, cells := 0, slots := 0, locals := 97 } : Room) s m args below meth c H locs 0 0 (MQ below (QV G Q) args s 0 0 G.2.2.1) (F0 m 71 ls []) := by
  intro n
  induction n with
  | zero =>
    intro S l2 H locs ls hW hS hL h0 h1 h2 hw
    exact False.elim hw
  | succ n ih =>
    intro S l2 H locs ls hW hS hL h0 h1 h2 hw
    unfold wp_X12_ends_L71 at hw
    refine lv_iload_n C.1 C.2.1 dX12_ends_71 rfl h2 ?_
    refine lv_bipush (v := 60) C.1 C.2.1 dX12_ends_72 (by decide) ?_
    refine lv_icmp_ge (tgt := 104) C.1 C.2.1 dX12_ends_74 (by decide) (fun hc29 => ?_) (fun hc29 => ?_)
    · have hw := hw.1 hc29
      refine m_aldN C dX12_ends_104 rfl h0 ?_
      refine lv_iload_n C.1 C.2.1 dX12_ends_105 rfl h1 ?_
      refine lv_iconst (v := 1) C.1 C.2.1 dX12_ends_106 (by decide) ?_
      obtain ⟨hk30, hw⟩ := hw
      refine m_rV (m_runV (As := [.int l1, .int 1]) (rest := []) C hW hS hL (c_X12_tells hw) v_X12_211 ⟨rfl, rfl⟩ ⟨Nat.le_of_ble_eq_true rfl, Nat.le_of_ble_eq_true rfl⟩ rfl hk30 rfl rfl (Nat.le_of_ble_eq_true rfl) dX12_ends_107 ⟨Nat.le_of_ble_eq_true rfl, Nat.le_of_ble_eq_true rfl⟩) hS (fun S31 H locs hw hW hS => ?_)
      exact m_vret C hW hS hw dX12_ends_110
    · have hw := hw.2 hc29
      refine m_aldN C dX12_ends_77 rfl h0 ?_
      obtain ⟨hk32, hw⟩ := hw
      refine m_getR C hW rfl hk32 f_X12_90 rfl dX12_ends_78 ?_
      refine lv_iload_n C.1 C.2.1 dX12_ends_81 rfl h2 ?_
      refine lv_dup2_11 C.1 C.2.1 dX12_ends_82 (rfl) (va_rf_cat _) ?_
      obtain ⟨b33, ho33, hw⟩ := hw
      obtain ⟨hk34, hw⟩ := hw
      obtain ⟨hi35, hw⟩ := hw
      refine m_lald C hW ho33 hk34 hi35 dX12_ends_83 ?_
      refine m_aldN C dX12_ends_84 rfl h0 ?_
      refine m_getR C hW rfl hk32 f_X12_39 rfl dX12_ends_85 ?_
      refine lv_bipush (v := 60) C.1 C.2.1 dX12_ends_88 (by decide) ?_
      refine lv_iload_n C.1 C.2.1 dX12_ends_90 rfl h1 ?_
      refine lv_imul C.1 C.2.1 dX12_ends_91 ?_
      refine lv_iload_n C.1 C.2.1 dX12_ends_92 rfl h2 ?_
      refine lv_iadd C.1 C.2.1 dX12_ends_93 ?_
      obtain ⟨b36, ho36, hw⟩ := hw
      obtain ⟨hk37, hw⟩ := hw
      obtain ⟨hi38, hw⟩ := hw
      refine m_iald C hW ho36 hk37 hi38 dX12_ends_94 ?_
      refine lv_i2l (v := (((hI S b36 (((60 * l1) + l2) : Int32).toNatClampNeg) : Int32).toInt64)) C.1 C.2.1 dX12_ends_95 rfl ?_
      refine lv_ladd C.1 C.2.1 dX12_ends_96 ?_
      obtain ⟨hi39, hw⟩ := hw
      refine m_last C hW hS ho33 hk34 hi39 dX12_ends_97 (fun H locs hW hS => ?_)
      refine m_iinc (v := (l2 + 1)) C hL dX12_ends_98 h2 rfl (by decide) (fun ls hL hn9 hk9 => ?_)
      have h0 := hk9 0 _ h0 (by decide) (Or.inl (by decide))
      have h1 := hk9 1 _ h1 (by decide) (Or.inr (rfl))
      have h2 := hn9
      refine lv_goto (tgt := 71) C.1 C.2.1 dX12_ends_101 (by decide) ?_
      exact ih (sJ S b33 (l2 : Int32).toNatClampNeg ((hJ S b33 (l2 : Int32).toNatClampNeg) + (((hI S b36 (((60 * l1) + l2) : Int32).toNatClampNeg) : Int32).toInt64))) (l2 + 1) H locs ls hW hS hL h0 h1 h2 hw
set_option maxRecDepth 100000 in
set_option maxHeartbeats 4000000 in
theorem c_X12_ends {l : Launch} {G : GX} {S : Hp} {a0 : Nat} {a1 : Int32} {Q : Hp → Prop} (hw : wp_X12_ends S a0 a1 Q) : Met l yX12_ends (Cond.code yX12_ends cX12_ends 3 none :: TS) { frames := 4, cells := 0, slots := 0, locals := 97 } (Pk G S [va_rf (some a0), .int a1]) (QV G Q) 0 0 G.2.2.1 := by
  refine m_met (by decide) ?_
  intro p e s m below meth c H locs C hW hS
  have C : Cx p s m ([va_rf (some a0), .int a1] : List Value).toArray meth c cX12_ends 3 RX12 none "ends" G := C
  obtain ⟨ls, hent, hL, hla⟩ := m_entry m (vs := [va_rf (some a0), .int a1]) (nn := 3) [1, 1] rfl (by decide)
  rw [hent]
  have h0 : ls[0]? = some (.val (va_rf (some a0))) := hla (0, va_rf (some a0)) (List.mem_of_getElem? (i := 0) rfl)
  have h1 : ls[1]? = some (.val (.int a1)) := hla (1, .int a1) (List.mem_of_getElem? (i := 1) rfl)
  clear hla
  generalize ([va_rf (some a0), .int a1] : List Value).toArray = args at C ⊢
  unfold wp_X12_ends at hw
  refine m_aldN C dX12_ends_0 rfl h0 ?_
  refine lv_iload_n C.1 C.2.1 dX12_ends_1 rfl h1 ?_
  obtain ⟨hk1, hw⟩ := hw
  refine m_rV (m_runV (As := [.int a1]) (rest := []) C hW hS hL (c_X12_frees hw) v_X12_218 ⟨rfl, rfl⟩ ⟨Nat.le_of_ble_eq_true rfl, Nat.le_of_ble_eq_true rfl⟩ rfl hk1 rfl rfl (Nat.le_of_ble_eq_true rfl) dX12_ends_2 ⟨Nat.le_of_ble_eq_true rfl, Nat.le_of_ble_eq_true rfl⟩) hS (fun S2 H locs hw hW hS => ?_)
  refine m_aldN C dX12_ends_5 rfl h0 ?_
  obtain ⟨hk3, hw⟩ := hw
  refine m_getR C hW rfl hk3 f_X12_78 rfl dX12_ends_6 ?_
  refine lv_iload_n C.1 C.2.1 dX12_ends_9 rfl h1 ?_
  refine m_aldN C dX12_ends_10 rfl h0 ?_
  refine m_getR C hW rfl hk3 f_X12_57 rfl dX12_ends_11 ?_
  refine lv_iload_n C.1 C.2.1 dX12_ends_14 rfl h1 ?_
  obtain ⟨b4, ho4, hw⟩ := hw
  obtain ⟨hk5, hw⟩ := hw
  obtain ⟨hi6, hw⟩ := hw
  refine m_iald C hW ho4 hk5 hi6 dX12_ends_15 ?_
  obtain ⟨J8, eJ8, hw⟩ := hw
  have wJ8 : ∀ (S14 : Hp) (o15 : Option Nat) (x16 : Int32) (x17 : Int32) (H : Heap) (locs : List Loc) (ls : Array Slot), wd G S14 H → va_S G.2.2.1 s.heap H locs → LV ls 3 → ls[0]? = some (.val (va_rf (some a0))) → ls[1]? = some (.val (.int a1)) → J8 S14 o15 x16 x17 → W p l e ({ frames := 4, cells := 0, slots := 0, locals := 97 } : Room) s m args below meth c H locs 0 0 (MQ below (QV G Q) args s 0 0 G.2.2.1) (F0 m 33 ls [.int x17, .int x16, va_rf o15]) := by
    intro S14 o15 x16 x17 H locs ls hW hS hL h0 h1 hw
    rw [eJ8] at hw
    obtain ⟨b18, ho18, hw⟩ := hw
    obtain ⟨hk19, hw⟩ := hw
    obtain ⟨hi20, hw⟩ := hw
    refine m_iast C hW hS ho18 hk19 hi20 dX12_ends_33 (fun H locs hW hS => ?_)
    refine m_aldN C dX12_ends_34 rfl h0 ?_
    obtain ⟨hk21, hw⟩ := hw
    refine m_getR C hW rfl hk21 f_X12_78 rfl dX12_ends_35 ?_
    refine lv_iload_n C.1 C.2.1 dX12_ends_38 rfl h1 ?_
    obtain ⟨b22, ho22, hw⟩ := hw
    obtain ⟨hk23, hw⟩ := hw
    obtain ⟨hi24, hw⟩ := hw
    refine m_iald C hW ho22 hk23 hi24 dX12_ends_39 ?_
    refine lv_if_le (tgt := 62) C.1 C.2.1 dX12_ends_40 (by decide) (fun hc25 => ?_) (fun hc25 => ?_)
    · have hw := hw.1 hc25
      refine m_aldN C dX12_ends_62 rfl h0 ?_
      refine m_getR C hW rfl hk21 f_X12_63 rfl dX12_ends_63 ?_
      refine lv_iload_n C.1 C.2.1 dX12_ends_66 rfl h1 ?_
      refine lv_iconst (v := 1) C.1 C.2.1 dX12_ends_67 (by decide) ?_
      obtain ⟨b26, ho26, hw⟩ := hw
      obtain ⟨hk27, hw⟩ := hw
      obtain ⟨hi28, hw⟩ := hw
      refine m_iast C hW hS ho26 hk27 hi28 dX12_ends_68 (fun H locs hW hS => ?_)
      refine lv_iconst (v := 0) C.1 C.2.1 dX12_ends_69 (by decide) ?_
      refine m_istN C hL dX12_ends_70 rfl (by decide) (fun ls hL hn9 hk9 => ?_)
      have h0 := hk9 0 _ h0 (by decide) (Or.inl (by decide))
      have h1 := hk9 1 _ h1 (by decide) (Or.inr (rfl))
      have h2 := hn9
      exact w_X12_ends_L71 C  FU (sI (sI S14 b18 (x16 : Int32).toNatClampNeg x17) b26 (a1 : Int32).toNatClampNeg 1) 0 H locs ls hW hS hL h0 h1 h2 hw
    · have hw := hw.2 hc25
      refine m_aldN C dX12_ends_43 rfl h0 ?_
      refine m_getR C hW rfl hk21 f_X12_63 rfl dX12_ends_44 ?_
      refine lv_iload_n C.1 C.2.1 dX12_ends_47 rfl h1 ?_
      refine lv_iconst (v := 2) C.1 C.2.1 dX12_ends_48 (by decide) ?_
      obtain ⟨b40, ho40, hw⟩ := hw
      obtain ⟨hk41, hw⟩ := hw
      obtain ⟨hi42, hw⟩ := hw
      refine m_iast C hW hS ho40 hk41 hi42 dX12_ends_49 (fun H locs hW hS => ?_)
      refine m_aldN C dX12_ends_50 rfl h0 ?_
      refine lv_iload_n C.1 C.2.1 dX12_ends_51 rfl h1 ?_
      refine m_rV (m_runV (As := [.int a1]) (rest := []) C hW hS hL (c_X12_restBack hw) v_X12_225 ⟨rfl, rfl⟩ ⟨Nat.le_of_ble_eq_true rfl, Nat.le_of_ble_eq_true rfl⟩ rfl hk21 rfl rfl (Nat.le_of_ble_eq_true rfl) dX12_ends_52 ⟨Nat.le_of_ble_eq_true rfl, Nat.le_of_ble_eq_true rfl⟩) hS (fun S43 H locs hw hW hS => ?_)
      refine m_aldN C dX12_ends_55 rfl h0 ?_
      refine lv_iload_n C.1 C.2.1 dX12_ends_56 rfl h1 ?_
      refine lv_iconst (v := 2) C.1 C.2.1 dX12_ends_57 (by decide) ?_
      obtain ⟨hk44, hw⟩ := hw
      refine m_rV (m_runV (As := [.int a1, .int 2]) (rest := []) C hW hS hL (c_X12_tells hw) v_X12_211 ⟨rfl, rfl⟩ ⟨Nat.le_of_ble_eq_true rfl, Nat.le_of_ble_eq_true rfl⟩ rfl hk44 rfl rfl (Nat.le_of_ble_eq_true rfl) dX12_ends_58 ⟨Nat.le_of_ble_eq_true rfl, Nat.le_of_ble_eq_true rfl⟩) hS (fun S45 H locs hw hW hS => ?_)
      exact m_vret C hW hS hw dX12_ends_61
  refine lv_if_le (tgt := 28) C.1 C.2.1 dX12_ends_16 (by decide) (fun hc7 => ?_) (fun hc7 => ?_)
  · have hw := hw.1 hc7
    refine m_aldN C dX12_ends_28 rfl h0 ?_
    refine lv_iload_n C.1 C.2.1 dX12_ends_29 rfl h1 ?_
    refine m_rI (m_runV (As := [.int a1]) (rest := [.int a1, va_rf (hR S2 a0 31)]) C hW hS hL (c_X12_bodyOf hw) v_X12_222 ⟨rfl, rfl⟩ ⟨Nat.le_of_ble_eq_true rfl, Nat.le_of_ble_eq_true rfl⟩ rfl hk3 rfl rfl (by simp only [List.map_cons, List.map_nil, va_rf_cat, List.sum_cons, List.sum_nil] <;> exact Nat.le_of_ble_eq_true rfl) dX12_ends_30 ⟨Nat.le_of_ble_eq_true rfl, Nat.le_of_ble_eq_true rfl⟩) hS (fun r10 S9 H locs hw hW hS => ?_)
    exact wJ8 S9 (hR S2 a0 31) a1 r10 H locs ls hW hS hL h0 h1 hw
  · have hw := hw.2 hc7
    refine m_aldN C dX12_ends_19 rfl h0 ?_
    refine m_getR C hW rfl hk3 f_X12_60 rfl dX12_ends_20 ?_
    refine lv_iload_n C.1 C.2.1 dX12_ends_23 rfl h1 ?_
    obtain ⟨b11, ho11, hw⟩ := hw
    obtain ⟨hk12, hw⟩ := hw
    obtain ⟨hi13, hw⟩ := hw
    refine m_iald C hW ho11 hk12 hi13 dX12_ends_24 ?_
    refine lv_goto (tgt := 33) C.1 C.2.1 dX12_ends_25 (by decide) ?_
    exact wJ8 S2 (hR S2 a0 31) a1 (hI S2 b11 (a1 : Int32).toNatClampNeg) H locs ls hW hS hL h0 h1 hw
def wp_X12_cancels_L12 (l0 : Nat) (l1 : Int32) (K89 : Hp → Prop) (Q : Hp → Prop) : Nat → Hp → Int32 → Prop
  | 0, _, _ => False
  | n + 1, S, l2 => hK S l0 = 14 ∧ ((hI S l0 4) ≤ l2 → K89 S) ∧ (¬ ((hI S l0 4) ≤ l2) → ∃ b5 : Nat, (hR S l0 26) = some b5 ∧ hK S b5 = 15 ∧ vp_in l1 (hN S b5) ∧ ((hI S b5 (l1 : Int32).toNatClampNeg) = 0 → ∃ b9 : Nat, (hR S l0 11) = some b9 ∧ hK S b9 = 17 ∧ vp_in ((200 * l1) + l2) (hN S b9) ∧ ((hI S b9 (((200 * l1) + l2) : Int32).toNatClampNeg) = 0 → wp_X12_cancels_L12 l0 l1 K89 Q n S (l2 + 1)) ∧ (¬ ((hI S b9 (((200 * l1) + l2) : Int32).toNatClampNeg) = 0) → vp_in l2 (hN S b5) ∧ ((hI S b5 (l2 : Int32).toNatClampNeg) = 2 → ∃ b15 : Nat, (hR S l0 28) = some b15 ∧ hK S b15 = 15 ∧ vp_in l2 (hN S b15) ∧ ((hI S b15 (l2 : Int32).toNatClampNeg) = (hI S l0 24) → vp_in l1 (hN S b5) ∧ wp_X12_tells (sI S b5 (l1 : Int32).toNatClampNeg 3) l0 l1 3 (fun S20 => wp_X12_cancels_L12 l0 l1 K89 Q n S20 (l2 + 1))) ∧ (¬ ((hI S b15 (l2 : Int32).toNatClampNeg) = (hI S l0 24)) → wp_X12_cancels_L12 l0 l1 K89 Q n S (l2 + 1))) ∧ (¬ ((hI S b5 (l2 : Int32).toNatClampNeg) = 2) → wp_X12_cancels_L12 l0 l1 K89 Q n S (l2 + 1)))) ∧ (¬ ((hI S b5 (l1 : Int32).toNatClampNeg) = 0) → K89 S))
def wp_X12_cancels_L2 (l0 : Nat) (Q : Hp → Prop) : Nat → Hp → Int32 → Prop
  | 0, _, _ => False
  | n + 1, S, l1 => hK S l0 = 14 ∧ ((hI S l0 4) ≤ l1 → Q S) ∧ (¬ ((hI S l0 4) ≤ l1) → wp_X12_cancels_L12 l0 l1 (fun (S21 : Hp) => wp_X12_cancels_L2 l0 Q n S21 (l1 + 1)) Q FU S 0)
def wp_X12_cancels (S : Hp) (a0 : Nat) (Q : Hp → Prop) : Prop := wp_X12_cancels_L2 a0 Q FU S 0
set_option maxRecDepth 100000 in
set_option maxHeartbeats 4000000 in
theorem w_X12_cancels_L12 {p : Program} {l : Launch} {e : Env} {s : State} {m : MethodId} {args : Array Value} {below : List Frame} {meth : Method} {c : Code} {G : GX} {Q : Hp → Prop} {K89 : Hp → Prop} {l0 : Nat} {l1 : Int32} (C : Cx p s m args meth c cX12_cancels 3 RX12 none "cancels" G)
    (k89 : ∀ (S : Hp) (H : Heap) (locs : List Loc) (ls : Array Slot), wd G S H → va_S G.2.2.1 s.heap H locs → LV ls 3 → ls[0]? = some (.val (va_rf (some l0))) → ls[1]? = some (.val (.int l1)) → K89 S → W p l e ({ frames := 1, cells := 0, slots := 0, locals := 22 } : Room) s m args below meth c H locs 0 0 (MQ below (QV G Q) args s 0 0 G.2.2.1) (F0 m 89 ls [])) :
    ∀ (n : Nat) (S : Hp) (l2 : Int32) (H : Heap) (locs : List Loc) (ls : Array Slot), wd G S H → va_S G.2.2.1 s.heap H locs → LV ls 3 → ls[0]? = some (.val (va_rf (some l0))) → ls[1]? = some (.val (.int l1)) → ls[2]? = some (.val (.int l2)) → wp_X12_cancels_L12 l0 l1 K89 Q n S l2 → W p l e ({ frames := 1, cells := 0, slots := 0, locals := 22 } : Room) s m args below meth c H locs 0 0 (MQ below (QV G Q) args s 0 0 G.2.2.1) (F0 m 12 ls []) := by
  intro n
  induction n with
  | zero =>
    intro S l2 H locs ls hW hS hL h0 h1 h2 hw
    exact False.elim hw
  | succ n ih =>
    intro S l2 H locs ls hW hS hL h0 h1 h2 hw
    unfold wp_X12_cancels_L12 at hw
    refine lv_iload_n C.1 C.2.1 dX12_cancels_12 rfl h2 ?_
    refine m_aldN C dX12_cancels_13 rfl h0 ?_
    obtain ⟨hk3, hw⟩ := hw
    refine m_getI C hW rfl hk3 f_X12_128 rfl dX12_cancels_14 ?_
    refine lv_icmp_ge (tgt := 89) C.1 C.2.1 dX12_cancels_17 (by decide) (fun hc4 => ?_) (fun hc4 => ?_)
    · have hw := hw.1 hc4
      exact k89 S H locs ls hW hS hL h0 h1 hw
    · have hw := hw.2 hc4
      refine m_aldN C dX12_cancels_20 rfl h0 ?_
      refine m_getR C hW rfl hk3 f_X12_63 rfl dX12_cancels_21 ?_
      refine lv_iload_n C.1 C.2.1 dX12_cancels_24 rfl h1 ?_
      obtain ⟨b5, ho5, hw⟩ := hw
      obtain ⟨hk6, hw⟩ := hw
      obtain ⟨hi7, hw⟩ := hw
      refine m_iald C hW ho5 hk6 hi7 dX12_cancels_25 ?_
      refine lv_if_ne (tgt := 89) C.1 C.2.1 dX12_cancels_26 (by decide) (fun hc8 => ?_) (fun hc8 => ?_)
      · have hw := hw.2 hc8
        exact k89 S H locs ls hW hS hL h0 h1 hw
      · have hw := hw.1 hc8
        refine m_aldN C dX12_cancels_29 rfl h0 ?_
        refine m_getR C hW rfl hk3 f_X12_30 rfl dX12_cancels_30 ?_
        refine lv_sipush (v := 200) C.1 C.2.1 dX12_cancels_33 (by decide) ?_
        refine lv_iload_n C.1 C.2.1 dX12_cancels_36 rfl h1 ?_
        refine lv_imul C.1 C.2.1 dX12_cancels_37 ?_
        refine lv_iload_n C.1 C.2.1 dX12_cancels_38 rfl h2 ?_
        refine lv_iadd C.1 C.2.1 dX12_cancels_39 ?_
        obtain ⟨b9, ho9, hw⟩ := hw
        obtain ⟨hk10, hw⟩ := hw
        obtain ⟨hi11, hw⟩ := hw
        refine m_zald C hW ho9 hk10 hi11 dX12_cancels_40 ?_
        refine lv_if_eq (tgt := 83) C.1 C.2.1 dX12_cancels_41 (by decide) (fun hc12 => ?_) (fun hc12 => ?_)
        · have hw := hw.1 hc12
          refine m_iinc (v := (l2 + 1)) C hL dX12_cancels_83 h2 rfl (by decide) (fun ls hL hn9 hk9 => ?_)
          have h0 := hk9 0 _ h0 (by decide) (Or.inl (by decide))
          have h1 := hk9 1 _ h1 (by decide) (Or.inr (rfl))
          have h2 := hn9
          refine lv_goto (tgt := 12) C.1 C.2.1 dX12_cancels_86 (by decide) ?_
          exact ih S (l2 + 1) H locs ls hW hS hL h0 h1 h2 hw
        · have hw := hw.2 hc12
          refine m_aldN C dX12_cancels_44 rfl h0 ?_
          refine m_getR C hW rfl hk3 f_X12_63 rfl dX12_cancels_45 ?_
          refine lv_iload_n C.1 C.2.1 dX12_cancels_48 rfl h2 ?_
          obtain ⟨hi13, hw⟩ := hw
          refine m_iald C hW ho5 hk6 hi13 dX12_cancels_49 ?_
          refine lv_iconst (v := 2) C.1 C.2.1 dX12_cancels_50 (by decide) ?_
          refine lv_icmp_ne (tgt := 83) C.1 C.2.1 dX12_cancels_51 (by decide) (fun hc14 => ?_) (fun hc14 => ?_)
          · have hw := hw.2 hc14
            refine m_iinc (v := (l2 + 1)) C hL dX12_cancels_83 h2 rfl (by decide) (fun ls hL hn9 hk9 => ?_)
            have h0 := hk9 0 _ h0 (by decide) (Or.inl (by decide))
            have h1 := hk9 1 _ h1 (by decide) (Or.inr (rfl))
            have h2 := hn9
            refine lv_goto (tgt := 12) C.1 C.2.1 dX12_cancels_86 (by decide) ?_
            exact ih S (l2 + 1) H locs ls hW hS hL h0 h1 h2 hw
          · have hw := hw.1 hc14
            refine m_aldN C dX12_cancels_54 rfl h0 ?_
            refine m_getR C hW rfl hk3 f_X12_69 rfl dX12_cancels_55 ?_
            refine lv_iload_n C.1 C.2.1 dX12_cancels_58 rfl h2 ?_
            obtain ⟨b15, ho15, hw⟩ := hw
            obtain ⟨hk16, hw⟩ := hw
            obtain ⟨hi17, hw⟩ := hw
            refine m_iald C hW ho15 hk16 hi17 dX12_cancels_59 ?_
            refine m_aldN C dX12_cancels_60 rfl h0 ?_
            refine m_getI C hW rfl hk3 f_X12_202 rfl dX12_cancels_61 ?_
            refine lv_icmp_eq (tgt := 70) C.1 C.2.1 dX12_cancels_64 (by decide) (fun hc18 => ?_) (fun hc18 => ?_)
            · have hw := hw.1 hc18
              refine m_aldN C dX12_cancels_70 rfl h0 ?_
              refine m_getR C hW rfl hk3 f_X12_63 rfl dX12_cancels_71 ?_
              refine lv_iload_n C.1 C.2.1 dX12_cancels_74 rfl h1 ?_
              refine lv_iconst (v := 3) C.1 C.2.1 dX12_cancels_75 (by decide) ?_
              obtain ⟨hi19, hw⟩ := hw
              refine m_iast C hW hS ho5 hk6 hi19 dX12_cancels_76 (fun H locs hW hS => ?_)
              refine m_aldN C dX12_cancels_77 rfl h0 ?_
              refine lv_iload_n C.1 C.2.1 dX12_cancels_78 rfl h1 ?_
              refine lv_iconst (v := 3) C.1 C.2.1 dX12_cancels_79 (by decide) ?_
              refine m_rV (m_runV (As := [.int l1, .int 3]) (rest := []) C hW hS hL (c_X12_tells hw) v_X12_211 ⟨rfl, rfl⟩ ⟨Nat.le_of_ble_eq_true rfl, Nat.le_of_ble_eq_true rfl⟩ rfl hk3 rfl rfl (Nat.le_of_ble_eq_true rfl) dX12_cancels_80 ⟨Nat.le_of_ble_eq_true rfl, Nat.le_of_ble_eq_true rfl⟩) hS (fun S20 H locs hw hW hS => ?_)
              refine m_iinc (v := (l2 + 1)) C hL dX12_cancels_83 h2 rfl (by decide) (fun ls hL hn9 hk9 => ?_)
              have h0 := hk9 0 _ h0 (by decide) (Or.inl (by decide))
              have h1 := hk9 1 _ h1 (by decide) (Or.inr (rfl))
              have h2 := hn9
              refine lv_goto (tgt := 12) C.1 C.2.1 dX12_cancels_86 (by decide) ?_
              exact ih S20 (l2 + 1) H locs ls hW hS hL h0 h1 h2 hw
            · have hw := hw.2 hc18
              refine lv_goto (tgt := 83) C.1 C.2.1 dX12_cancels_67 (by decide) ?_
              refine m_iinc (v := (l2 + 1)) C hL dX12_cancels_83 h2 rfl (by decide) (fun ls hL hn9 hk9 => ?_)
              have h0 := hk9 0 _ h0 (by decide) (Or.inl (by decide))
              have h1 := hk9 1 _ h1 (by decide) (Or.inr (rfl))
              have h2 := hn9
              refine lv_goto (tgt := 12) C.1 C.2.1 dX12_cancels_86 (by decide) ?_
              exact ih S (l2 + 1) H locs ls hW hS hL h0 h1 h2 hw
set_option maxRecDepth 100000 in
set_option maxHeartbeats 4000000 in
theorem w_X12_cancels_L2 {p : Program} {l : Launch} {e : Env} {s : State} {m : MethodId} {args : Array Value} {below : List Frame} {meth : Method} {c : Code} {G : GX} {Q : Hp → Prop} {l0 : Nat} (C : Cx p s m args meth c cX12_cancels 3 RX12 none "cancels" G) :
    ∀ (n : Nat) (S : Hp) (l1 : Int32) (H : Heap) (locs : List Loc) (ls : Array Slot), wd G S H → va_S G.2.2.1 s.heap H locs → LV ls 3 → ls[0]? = some (.val (va_rf (some l0))) → ls[1]? = some (.val (.int l1)) → wp_X12_cancels_L2 l0 Q n S l1 → W p l e ({ frames := 1, cells := 0, slots := 0, locals := 22 } : Room) s m args below meth c H locs 0 0 (MQ below (QV G Q) args s 0 0 G.2.2.1) (F0 m 2 ls []) := by
  intro n
  induction n with
  | zero =>
    intro S l1 H locs ls hW hS hL h0 h1 hw
    exact False.elim hw
  | succ n ih =>
    intro S l1 H locs ls hW hS hL h0 h1 hw
    unfold wp_X12_cancels_L2 at hw
    refine lv_iload_n C.1 C.2.1 dX12_cancels_2 rfl h1 ?_
    refine m_aldN C dX12_cancels_3 rfl h0 ?_
    obtain ⟨hk1, hw⟩ := hw
    refine m_getI C hW rfl hk1 f_X12_128 rfl dX12_cancels_4 ?_
    refine lv_icmp_ge (tgt := 95) C.1 C.2.1 dX12_cancels_7 (by decide) (fun hc2 => ?_) (fun hc2 => ?_)
    · have hw := hw.1 hc2
      exact m_vret C hW hS hw dX12_cancels_95
    · have hw := hw.2 hc2
      refine lv_iconst (v := 0) C.1 C.2.1 dX12_cancels_10 (by decide) ?_
      refine m_istN C hL dX12_cancels_11 rfl (by decide) (fun ls hL hn9 hk9 => ?_)
      have h0 := hk9 0 _ h0 (by decide) (Or.inl (by decide))
      have h1 := hk9 1 _ h1 (by decide) (Or.inr (rfl))
      have h2 := hn9
      refine w_X12_cancels_L12 C ?_ FU S 0 H locs ls hW hS hL h0 h1 h2 hw
      · intro S21 H locs ls hW hS hL h0 h1 hw
        refine m_iinc (v := (l1 + 1)) C hL dX12_cancels_89 h1 rfl (by decide) (fun ls hL hn9 hk9 => ?_)
        have h0 := hk9 0 _ h0 (by decide) (Or.inr (va_rf_cat _))
        have h1 := hn9
        refine lv_goto (tgt := 2) C.1 C.2.1 dX12_cancels_92 (by decide) ?_
        exact ih S21 (l1 + 1) H locs ls hW hS hL h0 h1 hw
set_option maxRecDepth 100000 in
set_option maxHeartbeats 4000000 in
theorem c_X12_cancels {l : Launch} {G : GX} {S : Hp} {a0 : Nat} {Q : Hp → Prop} (hw : wp_X12_cancels S a0 Q) : Met l yX12_cancels (Cond.code yX12_cancels cX12_cancels 3 none :: TS) { frames := 1, cells := 0, slots := 0, locals := 22 } (Pk G S [va_rf (some a0)]) (QV G Q) 0 0 G.2.2.1 := by
  refine m_met (by decide) ?_
  intro p e s m below meth c H locs C hW hS
  have C : Cx p s m ([va_rf (some a0)] : List Value).toArray meth c cX12_cancels 3 RX12 none "cancels" G := C
  obtain ⟨ls, hent, hL, hla⟩ := m_entry m (vs := [va_rf (some a0)]) (nn := 3) [1] rfl (by decide)
  rw [hent]
  have h0 : ls[0]? = some (.val (va_rf (some a0))) := hla (0, va_rf (some a0)) (List.mem_of_getElem? (i := 0) rfl)
  clear hla
  generalize ([va_rf (some a0)] : List Value).toArray = args at C ⊢
  unfold wp_X12_cancels at hw
  refine lv_iconst (v := 0) C.1 C.2.1 dX12_cancels_0 (by decide) ?_
  refine m_istN C hL dX12_cancels_1 rfl (by decide) (fun ls hL hn9 hk9 => ?_)
  have h0 := hk9 0 _ h0 (by decide) (Or.inr (va_rf_cat _))
  have h1 := hn9
  exact w_X12_cancels_L2 C  FU S 0 H locs ls hW hS hL h0 h1 hw
def wp_X12_interrupts (S : Hp) (a0 : Nat) (a1 : Int32) (Q : Hp → Prop) : Prop := hK S a0 = 14 ∧ wp_X12_frees S a0 a1 (fun S2 => hK S2 a0 = 14 ∧ ∃ b4 : Nat, (hR S2 a0 26) = some b4 ∧ hK S2 b4 = 15 ∧ vp_in a1 (hN S2 b4) ∧ ∃ b7 : Nat, (hR (sI S2 b4 (a1 : Int32).toNatClampNeg 4) a0 15) = some b7 ∧ hK (sI S2 b4 (a1 : Int32).toNatClampNeg 4) b7 = 15 ∧ vp_in a1 (hN (sI S2 b4 (a1 : Int32).toNatClampNeg 4) b7) ∧ ∃ J11 : Hp → Option Nat → Int32 → Prop, J11 = (fun (S25 : Hp) (o26 : Option Nat) (x27 : Int32) => ∃ b28 : Nat, o26 = some b28 ∧ hK S25 b28 = 15 ∧ vp_in x27 (hN S25 b28) ∧ hK (sI S25 b28 (x27 : Int32).toNatClampNeg 1) a0 = 14 ∧ wp_X12_restBack (sI S25 b28 (x27 : Int32).toNatClampNeg 1) a0 a1 (fun S32 => hK S32 a0 = 14 ∧ wp_X12_tells S32 a0 a1 4 (fun S34 => Q S34))) ∧ ((hI (sI S2 b4 (a1 : Int32).toNatClampNeg 4) b7 (a1 : Int32).toNatClampNeg) ≤ 0 → J11 (sI S2 b4 (a1 : Int32).toNatClampNeg 4) (hR (sI S2 b4 (a1 : Int32).toNatClampNeg 4) a0 30) a1) ∧ (¬ ((hI (sI S2 b4 (a1 : Int32).toNatClampNeg 4) b7 (a1 : Int32).toNatClampNeg) ≤ 0) → wp_X12_farOf (sI S2 b4 (a1 : Int32).toNatClampNeg 4) a0 a1 (fun r13 S12 => hK S12 a0 = 14 ∧ ∃ b15 : Nat, (hR S12 a0 8) = some b15 ∧ hK S12 b15 = 15 ∧ vp_in a1 (hN S12 b15) ∧ (((hI S12 b15 (a1 : Int32).toNatClampNeg) / 2) ≤ r13 → J11 S12 (hR (sI S2 b4 (a1 : Int32).toNatClampNeg 4) a0 30) a1) ∧ (¬ (((hI S12 b15 (a1 : Int32).toNatClampNeg) / 2) ≤ r13) → ∃ b19 : Nat, (hR (sI S2 b4 (a1 : Int32).toNatClampNeg 4) a0 30) = some b19 ∧ hK S12 b19 = 15 ∧ vp_in a1 (hN S12 b19) ∧ wp_X12_restBack (sI S12 b19 (a1 : Int32).toNatClampNeg 2) a0 a1 (fun S22 => hK S22 a0 = 14 ∧ wp_X12_tells S22 a0 a1 4 (fun S24 => Q S24))))))
set_option maxRecDepth 100000 in
set_option maxHeartbeats 4000000 in
theorem c_X12_interrupts {l : Launch} {G : GX} {S : Hp} {a0 : Nat} {a1 : Int32} {Q : Hp → Prop} (hw : wp_X12_interrupts S a0 a1 Q) : Met l yX12_interrupts (Cond.code yX12_interrupts cX12_interrupts 2 none :: TS) { frames := 2, cells := 0, slots := 0, locals := 45 } (Pk G S [va_rf (some a0), .int a1]) (QV G Q) 0 0 G.2.2.1 := by
  refine m_met (by decide) ?_
  intro p e s m below meth c H locs C hW hS
  have C : Cx p s m ([va_rf (some a0), .int a1] : List Value).toArray meth c cX12_interrupts 2 RX12 none "interrupts" G := C
  obtain ⟨ls, hent, hL, hla⟩ := m_entry m (vs := [va_rf (some a0), .int a1]) (nn := 2) [1, 1] rfl (by decide)
  rw [hent]
  have h0 : ls[0]? = some (.val (va_rf (some a0))) := hla (0, va_rf (some a0)) (List.mem_of_getElem? (i := 0) rfl)
  have h1 : ls[1]? = some (.val (.int a1)) := hla (1, .int a1) (List.mem_of_getElem? (i := 1) rfl)
  clear hla
  generalize ([va_rf (some a0), .int a1] : List Value).toArray = args at C ⊢
  unfold wp_X12_interrupts at hw
  refine m_aldN C dX12_interrupts_0 rfl h0 ?_
  refine lv_iload_n C.1 C.2.1 dX12_interrupts_1 rfl h1 ?_
  obtain ⟨hk1, hw⟩ := hw
  refine m_rV (m_runV (As := [.int a1]) (rest := []) C hW hS hL (c_X12_frees hw) v_X12_218 ⟨rfl, rfl⟩ ⟨Nat.le_of_ble_eq_true rfl, Nat.le_of_ble_eq_true rfl⟩ rfl hk1 rfl rfl (Nat.le_of_ble_eq_true rfl) dX12_interrupts_2 ⟨Nat.le_of_ble_eq_true rfl, Nat.le_of_ble_eq_true rfl⟩) hS (fun S2 H locs hw hW hS => ?_)
  refine m_aldN C dX12_interrupts_5 rfl h0 ?_
  obtain ⟨hk3, hw⟩ := hw
  refine m_getR C hW rfl hk3 f_X12_63 rfl dX12_interrupts_6 ?_
  refine lv_iload_n C.1 C.2.1 dX12_interrupts_9 rfl h1 ?_
  refine lv_iconst (v := 4) C.1 C.2.1 dX12_interrupts_10 (by decide) ?_
  obtain ⟨b4, ho4, hw⟩ := hw
  obtain ⟨hk5, hw⟩ := hw
  obtain ⟨hi6, hw⟩ := hw
  refine m_iast C hW hS ho4 hk5 hi6 dX12_interrupts_11 (fun H locs hW hS => ?_)
  refine m_aldN C dX12_interrupts_12 rfl h0 ?_
  refine m_getR C hW rfl hk3 f_X12_75 rfl dX12_interrupts_13 ?_
  refine lv_iload_n C.1 C.2.1 dX12_interrupts_16 rfl h1 ?_
  refine m_aldN C dX12_interrupts_17 rfl h0 ?_
  refine m_getR C hW rfl hk3 f_X12_42 rfl dX12_interrupts_18 ?_
  refine lv_iload_n C.1 C.2.1 dX12_interrupts_21 rfl h1 ?_
  obtain ⟨b7, ho7, hw⟩ := hw
  obtain ⟨hk8, hw⟩ := hw
  obtain ⟨hi9, hw⟩ := hw
  refine m_iald C hW ho7 hk8 hi9 dX12_interrupts_22 ?_
  obtain ⟨J11, eJ11, hw⟩ := hw
  have wJ11 : ∀ (S25 : Hp) (o26 : Option Nat) (x27 : Int32) (H : Heap) (locs : List Loc) (ls : Array Slot), wd G S25 H → va_S G.2.2.1 s.heap H locs → LV ls 2 → ls[0]? = some (.val (va_rf (some a0))) → ls[1]? = some (.val (.int a1)) → J11 S25 o26 x27 → W p l e ({ frames := 2, cells := 0, slots := 0, locals := 45 } : Room) s m args below meth c H locs 0 0 (MQ below (QV G Q) args s 0 0 G.2.2.1) (F0 m 46 ls [.int x27, va_rf o26]) := by
    intro S25 o26 x27 H locs ls hW hS hL h0 h1 hw
    rw [eJ11] at hw
    refine lv_iconst (v := 1) C.1 C.2.1 dX12_interrupts_46 (by decide) ?_
    obtain ⟨b28, ho28, hw⟩ := hw
    obtain ⟨hk29, hw⟩ := hw
    obtain ⟨hi30, hw⟩ := hw
    refine m_iast C hW hS ho28 hk29 hi30 dX12_interrupts_47 (fun H locs hW hS => ?_)
    refine m_aldN C dX12_interrupts_48 rfl h0 ?_
    refine lv_iload_n C.1 C.2.1 dX12_interrupts_49 rfl h1 ?_
    obtain ⟨hk31, hw⟩ := hw
    refine m_rV (m_runV (As := [.int a1]) (rest := []) C hW hS hL (c_X12_restBack hw) v_X12_225 ⟨rfl, rfl⟩ ⟨Nat.le_of_ble_eq_true rfl, Nat.le_of_ble_eq_true rfl⟩ rfl hk31 rfl rfl (Nat.le_of_ble_eq_true rfl) dX12_interrupts_50 ⟨Nat.le_of_ble_eq_true rfl, Nat.le_of_ble_eq_true rfl⟩) hS (fun S32 H locs hw hW hS => ?_)
    refine m_aldN C dX12_interrupts_53 rfl h0 ?_
    refine lv_iload_n C.1 C.2.1 dX12_interrupts_54 rfl h1 ?_
    refine lv_iconst (v := 4) C.1 C.2.1 dX12_interrupts_55 (by decide) ?_
    obtain ⟨hk33, hw⟩ := hw
    refine m_rV (m_runV (As := [.int a1, .int 4]) (rest := []) C hW hS hL (c_X12_tells hw) v_X12_211 ⟨rfl, rfl⟩ ⟨Nat.le_of_ble_eq_true rfl, Nat.le_of_ble_eq_true rfl⟩ rfl hk33 rfl rfl (Nat.le_of_ble_eq_true rfl) dX12_interrupts_56 ⟨Nat.le_of_ble_eq_true rfl, Nat.le_of_ble_eq_true rfl⟩) hS (fun S34 H locs hw hW hS => ?_)
    exact m_vret C hW hS hw dX12_interrupts_59
  refine lv_if_le (tgt := 46) C.1 C.2.1 dX12_interrupts_23 (by decide) (fun hc10 => ?_) (fun hc10 => ?_)
  · have hw := hw.1 hc10
    exact wJ11 (sI S2 b4 (a1 : Int32).toNatClampNeg 4) (hR (sI S2 b4 (a1 : Int32).toNatClampNeg 4) a0 30) a1 H locs ls hW hS hL h0 h1 hw
  · have hw := hw.2 hc10
    refine m_aldN C dX12_interrupts_26 rfl h0 ?_
    refine lv_iload_n C.1 C.2.1 dX12_interrupts_27 rfl h1 ?_
    refine m_rI (m_runV (As := [.int a1]) (rest := [.int a1, va_rf (hR (sI S2 b4 (a1 : Int32).toNatClampNeg 4) a0 30)]) C hW hS hL (c_X12_farOf hw) v_X12_215 ⟨rfl, rfl⟩ ⟨Nat.le_of_ble_eq_true rfl, Nat.le_of_ble_eq_true rfl⟩ rfl hk3 rfl rfl (by simp only [List.map_cons, List.map_nil, va_rf_cat, List.sum_cons, List.sum_nil] <;> exact Nat.le_of_ble_eq_true rfl) dX12_interrupts_28 ⟨Nat.le_of_ble_eq_true rfl, Nat.le_of_ble_eq_true rfl⟩) hS (fun r13 S12 H locs hw hW hS => ?_)
    refine m_aldN C dX12_interrupts_31 rfl h0 ?_
    obtain ⟨hk14, hw⟩ := hw
    refine m_getR C hW rfl hk14 f_X12_19 rfl dX12_interrupts_32 ?_
    refine lv_iload_n C.1 C.2.1 dX12_interrupts_35 rfl h1 ?_
    obtain ⟨b15, ho15, hw⟩ := hw
    obtain ⟨hk16, hw⟩ := hw
    obtain ⟨hi17, hw⟩ := hw
    refine m_iald C hW ho15 hk16 hi17 dX12_interrupts_36 ?_
    refine lv_iconst (v := 2) C.1 C.2.1 dX12_interrupts_37 (by decide) ?_
    refine lv_idiv C.1 C.2.1 dX12_interrupts_38 (by decide) ?_
    refine lv_icmp_ge (tgt := 46) C.1 C.2.1 dX12_interrupts_39 (by decide) (fun hc18 => ?_) (fun hc18 => ?_)
    · have hw := hw.1 hc18
      exact wJ11 S12 (hR (sI S2 b4 (a1 : Int32).toNatClampNeg 4) a0 30) a1 H locs ls hW hS hL h0 h1 hw
    · have hw := hw.2 hc18
      refine lv_iconst (v := 2) C.1 C.2.1 dX12_interrupts_42 (by decide) ?_
      refine lv_goto (tgt := 47) C.1 C.2.1 dX12_interrupts_43 (by decide) ?_
      obtain ⟨b19, ho19, hw⟩ := hw
      obtain ⟨hk20, hw⟩ := hw
      obtain ⟨hi21, hw⟩ := hw
      refine m_iast C hW hS ho19 hk20 hi21 dX12_interrupts_47 (fun H locs hW hS => ?_)
      refine m_aldN C dX12_interrupts_48 rfl h0 ?_
      refine lv_iload_n C.1 C.2.1 dX12_interrupts_49 rfl h1 ?_
      refine m_rV (m_runV (As := [.int a1]) (rest := []) C hW hS hL (c_X12_restBack hw) v_X12_225 ⟨rfl, rfl⟩ ⟨Nat.le_of_ble_eq_true rfl, Nat.le_of_ble_eq_true rfl⟩ rfl hk14 rfl rfl (Nat.le_of_ble_eq_true rfl) dX12_interrupts_50 ⟨Nat.le_of_ble_eq_true rfl, Nat.le_of_ble_eq_true rfl⟩) hS (fun S22 H locs hw hW hS => ?_)
      refine m_aldN C dX12_interrupts_53 rfl h0 ?_
      refine lv_iload_n C.1 C.2.1 dX12_interrupts_54 rfl h1 ?_
      refine lv_iconst (v := 4) C.1 C.2.1 dX12_interrupts_55 (by decide) ?_
      obtain ⟨hk23, hw⟩ := hw
      refine m_rV (m_runV (As := [.int a1, .int 4]) (rest := []) C hW hS hL (c_X12_tells hw) v_X12_211 ⟨rfl, rfl⟩ ⟨Nat.le_of_ble_eq_true rfl, Nat.le_of_ble_eq_true rfl⟩ rfl hk23 rfl rfl (Nat.le_of_ble_eq_true rfl) dX12_interrupts_56 ⟨Nat.le_of_ble_eq_true rfl, Nat.le_of_ble_eq_true rfl⟩) hS (fun S24 H locs hw hW hS => ?_)
      exact m_vret C hW hS hw dX12_interrupts_59
def wp_X12_isReady_L13 (S : Hp) (l0 : Nat) (l1 : Int32) (Q : Int32 → Hp → Prop) : Nat → Int32 → Prop
  | 0, _ => False
  | n + 1, l2 => hK S l0 = 14 ∧ ((hI S l0 4) ≤ l2 → Q 1 S) ∧ (¬ ((hI S l0 4) ≤ l2) → ∃ b8 : Nat, (hR S l0 10) = some b8 ∧ hK S b8 = 17 ∧ vp_in ((200 * l1) + l2) (hN S b8) ∧ ((hI S b8 (((200 * l1) + l2) : Int32).toNatClampNeg) = 0 → wp_X12_isReady_L13 S l0 l1 Q n (l2 + 1)) ∧ (¬ ((hI S b8 (((200 * l1) + l2) : Int32).toNatClampNeg) = 0) → ∃ b12 : Nat, (hR S l0 26) = some b12 ∧ hK S b12 = 15 ∧ vp_in l2 (hN S b12) ∧ ((hI S b12 (l2 : Int32).toNatClampNeg) = 1 → wp_X12_isReady_L13 S l0 l1 Q n (l2 + 1)) ∧ (¬ ((hI S b12 (l2 : Int32).toNatClampNeg) = 1) → Q 0 S)))
def wp_X12_isReady (S : Hp) (a0 : Nat) (a1 : Int32) (Q : Int32 → Hp → Prop) : Prop := hK S a0 = 14 ∧ ∃ b2 : Nat, (hR S a0 26) = some b2 ∧ hK S b2 = 15 ∧ vp_in a1 (hN S b2) ∧ ((hI S b2 (a1 : Int32).toNatClampNeg) = 0 → wp_X12_isReady_L13 S a0 a1 Q FU 0) ∧ (¬ ((hI S b2 (a1 : Int32).toNatClampNeg) = 0) → Q 0 S)
set_option maxRecDepth 100000 in
set_option maxHeartbeats 4000000 in
theorem w_X12_isReady_L13 {p : Program} {l : Launch} {e : Env} {s : State} {m : MethodId} {args : Array Value} {below : List Frame} {meth : Method} {c : Code} {G : GX} {Q : Int32 → Hp → Prop} {l0 : Nat} {l1 : Int32} {S : Hp} {H : Heap} {locs : List Loc} (C : Cx p s m args meth c cX12_isReady 3 RX12 (some .boolean) "isReady" G) (hW : wd G S H) (hS : va_S G.2.2.1 s.heap H locs) :
    ∀ (n : Nat) (l2 : Int32) (ls : Array Slot), LV ls 3 → ls[0]? = some (.val (va_rf (some l0))) → ls[1]? = some (.val (.int l1)) → ls[2]? = some (.val (.int l2)) → wp_X12_isReady_L13 S l0 l1 Q n l2 → W p l e ({ frames := 0, cells := 0, slots := 0, locals := 0 } : Room) s m args below meth c H locs 0 0 (MQ below (QI G Q) args s 0 0 G.2.2.1) (F0 m 13 ls []) := by
  intro n
  induction n with
  | zero =>
    intro l2 ls hL h0 h1 h2 hw
    exact False.elim hw
  | succ n ih =>
    intro l2 ls hL h0 h1 h2 hw
    unfold wp_X12_isReady_L13 at hw
    refine lv_iload_n C.1 C.2.1 dX12_isReady_13 rfl h2 ?_
    refine m_aldN C dX12_isReady_14 rfl h0 ?_
    obtain ⟨hk6, hw⟩ := hw
    refine m_getI C hW rfl hk6 f_X12_128 rfl dX12_isReady_15 ?_
    refine lv_icmp_ge (tgt := 54) C.1 C.2.1 dX12_isReady_18 (by decide) (fun hc7 => ?_) (fun hc7 => ?_)
    · have hw := hw.1 hc7
      refine lv_iconst (v := 1) C.1 C.2.1 dX12_isReady_54 (by decide) ?_
      exact m_zret C hW hS (by decide) hw dX12_isReady_55
    · have hw := hw.2 hc7
      refine m_aldN C dX12_isReady_21 rfl h0 ?_
      refine m_getR C hW rfl hk6 f_X12_26 rfl dX12_isReady_22 ?_
      refine lv_sipush (v := 200) C.1 C.2.1 dX12_isReady_25 (by decide) ?_
      refine lv_iload_n C.1 C.2.1 dX12_isReady_28 rfl h1 ?_
      refine lv_imul C.1 C.2.1 dX12_isReady_29 ?_
      refine lv_iload_n C.1 C.2.1 dX12_isReady_30 rfl h2 ?_
      refine lv_iadd C.1 C.2.1 dX12_isReady_31 ?_
      obtain ⟨b8, ho8, hw⟩ := hw
      obtain ⟨hk9, hw⟩ := hw
      obtain ⟨hi10, hw⟩ := hw
      refine m_zald C hW ho8 hk9 hi10 dX12_isReady_32 ?_
      refine lv_if_eq (tgt := 48) C.1 C.2.1 dX12_isReady_33 (by decide) (fun hc11 => ?_) (fun hc11 => ?_)
      · have hw := hw.1 hc11
        refine m_iinc (v := (l2 + 1)) C hL dX12_isReady_48 h2 rfl (by decide) (fun ls hL hn9 hk9 => ?_)
        have h0 := hk9 0 _ h0 (by decide) (Or.inl (by decide))
        have h1 := hk9 1 _ h1 (by decide) (Or.inr (rfl))
        have h2 := hn9
        refine lv_goto (tgt := 13) C.1 C.2.1 dX12_isReady_51 (by decide) ?_
        exact ih (l2 + 1) ls hL h0 h1 h2 hw
      · have hw := hw.2 hc11
        refine m_aldN C dX12_isReady_36 rfl h0 ?_
        refine m_getR C hW rfl hk6 f_X12_63 rfl dX12_isReady_37 ?_
        refine lv_iload_n C.1 C.2.1 dX12_isReady_40 rfl h2 ?_
        obtain ⟨b12, ho12, hw⟩ := hw
        obtain ⟨hk13, hw⟩ := hw
        obtain ⟨hi14, hw⟩ := hw
        refine m_iald C hW ho12 hk13 hi14 dX12_isReady_41 ?_
        refine lv_iconst (v := 1) C.1 C.2.1 dX12_isReady_42 (by decide) ?_
        refine lv_icmp_eq (tgt := 48) C.1 C.2.1 dX12_isReady_43 (by decide) (fun hc15 => ?_) (fun hc15 => ?_)
        · have hw := hw.1 hc15
          refine m_iinc (v := (l2 + 1)) C hL dX12_isReady_48 h2 rfl (by decide) (fun ls hL hn9 hk9 => ?_)
          have h0 := hk9 0 _ h0 (by decide) (Or.inl (by decide))
          have h1 := hk9 1 _ h1 (by decide) (Or.inr (rfl))
          have h2 := hn9
          refine lv_goto (tgt := 13) C.1 C.2.1 dX12_isReady_51 (by decide) ?_
          exact ih (l2 + 1) ls hL h0 h1 h2 hw
        · have hw := hw.2 hc15
          refine lv_iconst (v := 0) C.1 C.2.1 dX12_isReady_46 (by decide) ?_
          exact m_zret C hW hS (by decide) hw dX12_isReady_47
set_option maxRecDepth 100000 in
set_option maxHeartbeats 4000000 in
theorem c_X12_isReady {l : Launch} {G : GX} {S : Hp} {a0 : Nat} {a1 : Int32} {Q : Int32 → Hp → Prop} (hw : wp_X12_isReady S a0 a1 Q) : Met l yX12_isReady (Cond.code yX12_isReady cX12_isReady 3 (some .boolean) :: TS) { frames := 0, cells := 0, slots := 0, locals := 0 } (Pk G S [va_rf (some a0), .int a1]) (QI G Q) 0 0 G.2.2.1 := by
  refine m_met (by decide) ?_
  intro p e s m below meth c H locs C hW hS
  have C : Cx p s m ([va_rf (some a0), .int a1] : List Value).toArray meth c cX12_isReady 3 RX12 (some .boolean) "isReady" G := C
  obtain ⟨ls, hent, hL, hla⟩ := m_entry m (vs := [va_rf (some a0), .int a1]) (nn := 3) [1, 1] rfl (by decide)
  rw [hent]
  have h0 : ls[0]? = some (.val (va_rf (some a0))) := hla (0, va_rf (some a0)) (List.mem_of_getElem? (i := 0) rfl)
  have h1 : ls[1]? = some (.val (.int a1)) := hla (1, .int a1) (List.mem_of_getElem? (i := 1) rfl)
  clear hla
  generalize ([va_rf (some a0), .int a1] : List Value).toArray = args at C ⊢
  unfold wp_X12_isReady at hw
  refine m_aldN C dX12_isReady_0 rfl h0 ?_
  obtain ⟨hk1, hw⟩ := hw
  refine m_getR C hW rfl hk1 f_X12_63 rfl dX12_isReady_1 ?_
  refine lv_iload_n C.1 C.2.1 dX12_isReady_4 rfl h1 ?_
  obtain ⟨b2, ho2, hw⟩ := hw
  obtain ⟨hk3, hw⟩ := hw
  obtain ⟨hi4, hw⟩ := hw
  refine m_iald C hW ho2 hk3 hi4 dX12_isReady_5 ?_
  refine lv_if_eq (tgt := 11) C.1 C.2.1 dX12_isReady_6 (by decide) (fun hc5 => ?_) (fun hc5 => ?_)
  · have hw := hw.1 hc5
    refine lv_iconst (v := 0) C.1 C.2.1 dX12_isReady_11 (by decide) ?_
    refine m_istN C hL dX12_isReady_12 rfl (by decide) (fun ls hL hn9 hk9 => ?_)
    have h0 := hk9 0 _ h0 (by decide) (Or.inl (by decide))
    have h1 := hk9 1 _ h1 (by decide) (Or.inr (rfl))
    have h2 := hn9
    exact w_X12_isReady_L13 C hW hS  FU 0 ls hL h0 h1 h2 hw
  · have hw := hw.2 hc5
    refine lv_iconst (v := 0) C.1 C.2.1 dX12_isReady_9 (by decide) ?_
    exact m_zret C hW hS (by decide) hw dX12_isReady_10
def wp_X12_freeWorker_L4 (S : Hp) (l0 : Nat) (l1 : Int32) (K24 : Int32 → Prop) (Q : Int32 → Hp → Prop) : Nat → Int32 → Int32 → Prop
  | 0, _, _ => False
  | n + 1, l2, l3 => (l1 ≤ l3 → K24 l2) ∧ (¬ (l1 ≤ l3) → hK S l0 = 14 ∧ ∃ b3 : Nat, (hR S l0 5) = some b3 ∧ hK S b3 = 15 ∧ vp_in l3 (hN S b3) ∧ ∀ x6 : Int32, x6 = (l2 + (hI S b3 (l3 : Int32).toNatClampNeg)) → wp_X12_freeWorker_L4 S l0 l1 K24 Q n x6 (l3 + 1))
def wp_X12_freeWorker_L26 (S : Hp) (l0 : Nat) (l1 : Int32) (l2 : Int32) (Q : Int32 → Hp → Prop) : Nat → Int32 → Prop
  | 0, _ => False
  | n + 1, l3 => hK S l0 = 14 ∧ ∃ b9 : Nat, (hR S l0 5) = some b9 ∧ hK S b9 = 15 ∧ vp_in l1 (hN S b9) ∧ ((hI S b9 (l1 : Int32).toNatClampNeg) ≤ l3 → Q (-1) S) ∧ (¬ ((hI S b9 (l1 : Int32).toNatClampNeg) ≤ l3) → ∃ b13 : Nat, (hR S l0 32) = some b13 ∧ hK S b13 = 15 ∧ vp_in (l2 + l3) (hN S b13) ∧ ((hI S b13 ((l2 + l3) : Int32).toNatClampNeg) = (-1) → Q (l2 + l3) S) ∧ (¬ ((hI S b13 ((l2 + l3) : Int32).toNatClampNeg) = (-1)) → wp_X12_freeWorker_L26 S l0 l1 l2 Q n (l3 + 1)))
def wp_X12_freeWorker (S : Hp) (a0 : Nat) (a1 : Int32) (Q : Int32 → Hp → Prop) : Prop := wp_X12_freeWorker_L4 S a0 a1 (fun (x7 : Int32) => wp_X12_freeWorker_L26 S a0 a1 x7 Q FU 0) Q FU 0 0
set_option maxRecDepth 100000 in
set_option maxHeartbeats 4000000 in
theorem w_X12_freeWorker_L4 {p : Program} {l : Launch} {e : Env} {s : State} {m : MethodId} {args : Array Value} {below : List Frame} {meth : Method} {c : Code} {G : GX} {Q : Int32 → Hp → Prop} {K24 : Int32 → Prop} {l0 : Nat} {l1 : Int32} {S : Hp} {H : Heap} {locs : List Loc} (C : Cx p s m args meth c cX12_freeWorker 4 RX12 (some .int) "freeWorker" G) (hW : wd G S H) (hS : va_S G.2.2.1 s.heap H locs)
    (k24 : ∀  (l2 : Int32) (ls : Array Slot), LV ls 4 → ls[0]? = some (.val (va_rf (some l0))) → ls[1]? = some (.val (.int l1)) → ls[2]? = some (.val (.int l2)) → K24 l2 → W p l e ({ frames := 0, cells := 0, slots := 0, locals := 0 } : Room) s m args below meth c H locs 0 0 (MQ below (QI G Q) args s 0 0 G.2.2.1) (F0 m 24 ls [])) :
    ∀ (n : Nat) (l2 : Int32) (l3 : Int32) (ls : Array Slot), LV ls 4 → ls[0]? = some (.val (va_rf (some l0))) → ls[1]? = some (.val (.int l1)) → ls[2]? = some (.val (.int l2)) → ls[3]? = some (.val (.int l3)) → wp_X12_freeWorker_L4 S l0 l1 K24 Q n l2 l3 → W p l e ({ frames := 0, cells := 0, slots := 0, locals := 0 } : Room) s m args below meth c H locs 0 0 (MQ below (QI G Q) args s 0 0 G.2.2.1) (F0 m 4 ls []) := by
  intro n
  induction n with
  | zero =>
    intro l2 l3 ls hL h0 h1 h2 h3 hw
    exact False.elim hw
  | succ n ih =>
    intro l2 l3 ls hL h0 h1 h2 h3 hw
    unfold wp_X12_freeWorker_L4 at hw
    refine lv_iload_n C.1 C.2.1 dX12_freeWorker_4 rfl h3 ?_
    refine lv_iload_n C.1 C.2.1 dX12_freeWorker_5 rfl h1 ?_
    refine lv_icmp_ge (tgt := 24) C.1 C.2.1 dX12_freeWorker_6 (by decide) (fun hc1 => ?_) (fun hc1 => ?_)
    · have hw := hw.1 hc1
      exact k24 l2 ls hL h0 h1 h2 hw
    · have hw := hw.2 hc1
      refine lv_iload_n C.1 C.2.1 dX12_freeWorker_9 rfl h2 ?_
      refine m_aldN C dX12_freeWorker_10 rfl h0 ?_
      obtain ⟨hk2, hw⟩ := hw
      refine m_getR C hW rfl hk2 f_X12_9 rfl dX12_freeWorker_11 ?_
      refine lv_iload_n C.1 C.2.1 dX12_freeWorker_14 rfl h3 ?_
      obtain ⟨b3, ho3, hw⟩ := hw
      obtain ⟨hk4, hw⟩ := hw
      obtain ⟨hi5, hw⟩ := hw
      refine m_iald C hW ho3 hk4 hi5 dX12_freeWorker_15 ?_
      refine lv_iadd C.1 C.2.1 dX12_freeWorker_16 ?_
      refine lv_topi (fun x6 ex6 => ?_)
      have hw := hw x6 ex6
      refine m_istN C hL dX12_freeWorker_17 rfl (by decide) (fun ls hL hn9 hk9 => ?_)
      have h0 := hk9 0 _ h0 (by decide) (Or.inl (by decide))
      have h1 := hk9 1 _ h1 (by decide) (Or.inr (rfl))
      have h3 := hk9 3 _ h3 (by decide) (Or.inl (by decide))
      have h2 := hn9
      refine m_iinc (v := (l3 + 1)) C hL dX12_freeWorker_18 h3 rfl (by decide) (fun ls hL hn9 hk9 => ?_)
      have h0 := hk9 0 _ h0 (by decide) (Or.inl (by decide))
      have h1 := hk9 1 _ h1 (by decide) (Or.inl (by decide))
      have h2 := hk9 2 _ h2 (by decide) (Or.inr (rfl))
      have h3 := hn9
      refine lv_goto (tgt := 4) C.1 C.2.1 dX12_freeWorker_21 (by decide) ?_
      exact ih x6 (l3 + 1) ls hL h0 h1 h2 h3 hw
set_option maxRecDepth 100000 in
set_option maxHeartbeats 4000000 in
theorem w_X12_freeWorker_L26 {p : Program} {l : Launch} {e : Env} {s : State} {m : MethodId} {args : Array Value} {below : List Frame} {meth : Method} {c : Code} {G : GX} {Q : Int32 → Hp → Prop} {l0 : Nat} {l1 : Int32} {l2 : Int32} {S : Hp} {H : Heap} {locs : List Loc} (C : Cx p s m args meth c cX12_freeWorker 4 RX12 (some .int) "freeWorker" G) (hW : wd G S H) (hS : va_S G.2.2.1 s.heap H locs) :
    ∀ (n : Nat) (l3 : Int32) (ls : Array Slot), LV ls 4 → ls[0]? = some (.val (va_rf (some l0))) → ls[1]? = some (.val (.int l1)) → ls[2]? = some (.val (.int l2)) → ls[3]? = some (.val (.int l3)) → wp_X12_freeWorker_L26 S l0 l1 l2 Q n l3 → W p l e ({ frames := 0, cells := 0, slots := 0, locals := 0 } : Room) s m args below meth c H locs 0 0 (MQ below (QI G Q) args s 0 0 G.2.2.1) (F0 m 26 ls []) := by
  intro n
  induction n with
  | zero =>
    intro l3 ls hL h0 h1 h2 h3 hw
    exact False.elim hw
  | succ n ih =>
    intro l3 ls hL h0 h1 h2 h3 hw
    unfold wp_X12_freeWorker_L26 at hw
    refine lv_iload_n C.1 C.2.1 dX12_freeWorker_26 rfl h3 ?_
    refine m_aldN C dX12_freeWorker_27 rfl h0 ?_
    obtain ⟨hk8, hw⟩ := hw
    refine m_getR C hW rfl hk8 f_X12_9 rfl dX12_freeWorker_28 ?_
    refine lv_iload_n C.1 C.2.1 dX12_freeWorker_31 rfl h1 ?_
    obtain ⟨b9, ho9, hw⟩ := hw
    obtain ⟨hk10, hw⟩ := hw
    obtain ⟨hi11, hw⟩ := hw
    refine m_iald C hW ho9 hk10 hi11 dX12_freeWorker_32 ?_
    refine lv_icmp_ge (tgt := 58) C.1 C.2.1 dX12_freeWorker_33 (by decide) (fun hc12 => ?_) (fun hc12 => ?_)
    · have hw := hw.1 hc12
      refine lv_iconst (v := (-1)) C.1 C.2.1 dX12_freeWorker_58 (by decide) ?_
      exact m_iret C hW hS hw dX12_freeWorker_59
    · have hw := hw.2 hc12
      refine m_aldN C dX12_freeWorker_36 rfl h0 ?_
      refine m_getR C hW rfl hk8 f_X12_81 rfl dX12_freeWorker_37 ?_
      refine lv_iload_n C.1 C.2.1 dX12_freeWorker_40 rfl h2 ?_
      refine lv_iload_n C.1 C.2.1 dX12_freeWorker_41 rfl h3 ?_
      refine lv_iadd C.1 C.2.1 dX12_freeWorker_42 ?_
      obtain ⟨b13, ho13, hw⟩ := hw
      obtain ⟨hk14, hw⟩ := hw
      obtain ⟨hi15, hw⟩ := hw
      refine m_iald C hW ho13 hk14 hi15 dX12_freeWorker_43 ?_
      refine lv_iconst (v := (-1)) C.1 C.2.1 dX12_freeWorker_44 (by decide) ?_
      refine lv_icmp_ne (tgt := 52) C.1 C.2.1 dX12_freeWorker_45 (by decide) (fun hc16 => ?_) (fun hc16 => ?_)
      · have hw := hw.2 hc16
        refine m_iinc (v := (l3 + 1)) C hL dX12_freeWorker_52 h3 rfl (by decide) (fun ls hL hn9 hk9 => ?_)
        have h0 := hk9 0 _ h0 (by decide) (Or.inl (by decide))
        have h1 := hk9 1 _ h1 (by decide) (Or.inl (by decide))
        have h2 := hk9 2 _ h2 (by decide) (Or.inr (rfl))
        have h3 := hn9
        refine lv_goto (tgt := 26) C.1 C.2.1 dX12_freeWorker_55 (by decide) ?_
        exact ih (l3 + 1) ls hL h0 h1 h2 h3 hw
      · have hw := hw.1 hc16
        refine lv_iload_n C.1 C.2.1 dX12_freeWorker_48 rfl h2 ?_
        refine lv_iload_n C.1 C.2.1 dX12_freeWorker_49 rfl h3 ?_
        refine lv_iadd C.1 C.2.1 dX12_freeWorker_50 ?_
        exact m_iret C hW hS hw dX12_freeWorker_51
set_option maxRecDepth 100000 in
set_option maxHeartbeats 4000000 in
theorem c_X12_freeWorker {l : Launch} {G : GX} {S : Hp} {a0 : Nat} {a1 : Int32} {Q : Int32 → Hp → Prop} (hw : wp_X12_freeWorker S a0 a1 Q) : Met l yX12_freeWorker (Cond.code yX12_freeWorker cX12_freeWorker 4 (some .int) :: TS) { frames := 0, cells := 0, slots := 0, locals := 0 } (Pk G S [va_rf (some a0), .int a1]) (QI G Q) 0 0 G.2.2.1 := by
  refine m_met (by decide) ?_
  intro p e s m below meth c H locs C hW hS
  have C : Cx p s m ([va_rf (some a0), .int a1] : List Value).toArray meth c cX12_freeWorker 4 RX12 (some .int) "freeWorker" G := C
  obtain ⟨ls, hent, hL, hla⟩ := m_entry m (vs := [va_rf (some a0), .int a1]) (nn := 4) [1, 1] rfl (by decide)
  rw [hent]
  have h0 : ls[0]? = some (.val (va_rf (some a0))) := hla (0, va_rf (some a0)) (List.mem_of_getElem? (i := 0) rfl)
  have h1 : ls[1]? = some (.val (.int a1)) := hla (1, .int a1) (List.mem_of_getElem? (i := 1) rfl)
  clear hla
  generalize ([va_rf (some a0), .int a1] : List Value).toArray = args at C ⊢
  unfold wp_X12_freeWorker at hw
  refine lv_iconst (v := 0) C.1 C.2.1 dX12_freeWorker_0 (by decide) ?_
  refine m_istN C hL dX12_freeWorker_1 rfl (by decide) (fun ls hL hn9 hk9 => ?_)
  have h0 := hk9 0 _ h0 (by decide) (Or.inl (by decide))
  have h1 := hk9 1 _ h1 (by decide) (Or.inr (rfl))
  have h2 := hn9
  refine lv_iconst (v := 0) C.1 C.2.1 dX12_freeWorker_2 (by decide) ?_
  refine m_istN C hL dX12_freeWorker_3 rfl (by decide) (fun ls hL hn9 hk9 => ?_)
  have h0 := hk9 0 _ h0 (by decide) (Or.inl (by decide))
  have h1 := hk9 1 _ h1 (by decide) (Or.inl (by decide))
  have h2 := hk9 2 _ h2 (by decide) (Or.inr (rfl))
  have h3 := hn9
  refine w_X12_freeWorker_L4 C hW hS ?_ FU 0 0 ls hL h0 h1 h2 h3 hw
  · intro x7 ls hL h0 h1 h2 hw
    refine lv_iconst (v := 0) C.1 C.2.1 dX12_freeWorker_24 (by decide) ?_
    refine m_istN C hL dX12_freeWorker_25 rfl (by decide) (fun ls hL hn9 hk9 => ?_)
    have h0 := hk9 0 _ h0 (by decide) (Or.inl (by decide))
    have h1 := hk9 1 _ h1 (by decide) (Or.inl (by decide))
    have h2 := hk9 2 _ h2 (by decide) (Or.inr (rfl))
    have h3 := hn9
    exact w_X12_freeWorker_L26 C hW hS  FU 0 ls hL h0 h1 h2 h3 hw
def wp_X12_canBegin_L18 (S : Hp) (l0 : Nat) (l1 : Int32) (K58 : Prop) (Q : Int32 → Hp → Prop) : Nat → Int32 → Prop
  | 0, _ => False
  | n + 1, l2 => hK S l0 = 14 ∧ ((hI S l0 3) ≤ l2 → K58) ∧ (¬ ((hI S l0 3) ≤ l2) → ∃ b10 : Nat, (hR S l0 12) = some b10 ∧ hK S b10 = 17 ∧ vp_in ((40 * l1) + l2) (hN S b10) ∧ ((hI S b10 (((40 * l1) + l2) : Int32).toNatClampNeg) = 0 → wp_X12_canBegin_L18 S l0 l1 K58 Q n (l2 + 1)) ∧ (¬ ((hI S b10 (((40 * l1) + l2) : Int32).toNatClampNeg) = 0) → ∃ b14 : Nat, (hR S l0 33) = some b14 ∧ hK S b14 = 15 ∧ vp_in l2 (hN S b14) ∧ ((hI S b14 (l2 : Int32).toNatClampNeg) = (-1) → wp_X12_canBegin_L18 S l0 l1 K58 Q n (l2 + 1)) ∧ (¬ ((hI S b14 (l2 : Int32).toNatClampNeg) = (-1)) → Q 0 S)))
def wp_X12_canBegin_L60 (S : Hp) (l0 : Nat) (l1 : Int32) (Q : Int32 → Hp → Prop) : Nat → Int32 → Prop
  | 0, _ => False
  | n + 1, l2 => (60 ≤ l2 → Q 1 S) ∧ (¬ (60 ≤ l2) → hK S l0 = 14 ∧ ∃ b20 : Nat, (hR S l0 13) = some b20 ∧ hK S b20 = 15 ∧ vp_in ((60 * l1) + l2) (hN S b20) ∧ ∃ b23 : Nat, (hR S l0 35) = some b23 ∧ hK S b23 = 16 ∧ vp_in l2 (hN S b23) ∧ ((((hI S b20 (((60 * l1) + l2) : Int32).toNatClampNeg) : Int32).toInt64) ≤ (hJ S b23 (l2 : Int32).toNatClampNeg) → wp_X12_canBegin_L60 S l0 l1 Q n (l2 + 1)) ∧ (¬ ((((hI S b20 (((60 * l1) + l2) : Int32).toNatClampNeg) : Int32).toInt64) ≤ (hJ S b23 (l2 : Int32).toNatClampNeg)) → Q 0 S))
def wp_X12_canBegin (S : Hp) (a0 : Nat) (a1 : Int32) (Q : Int32 → Hp → Prop) : Prop := hK S a0 = 14 ∧ ∃ b2 : Nat, (hR S a0 7) = some b2 ∧ hK S b2 = 15 ∧ vp_in a1 (hN S b2) ∧ wp_X12_freeWorker S a0 (hI S b2 (a1 : Int32).toNatClampNeg) (fun r6 S5 => (r6 = (-1) → Q 0 S5) ∧ (¬ (r6 = (-1)) → wp_X12_canBegin_L18 S5 a0 a1 (wp_X12_canBegin_L60 S5 a0 a1 Q FU 0) Q FU 0))
set_option maxRecDepth 100000 in
set_option maxHeartbeats 4000000 in
theorem w_X12_canBegin_L18 {p : Program} {l : Launch} {e : Env} {s : State} {m : MethodId} {args : Array Value} {below : List Frame} {meth : Method} {c : Code} {G : GX} {Q : Int32 → Hp → Prop} {K58 : Prop} {l0 : Nat} {l1 : Int32} {S : Hp} {H : Heap} {locs : List Loc} (C : Cx p s m args meth c cX12_canBegin 3 RX12 (some .boolean) "canBegin" G) (hW : wd G S H) (hS : va_S G.2.2.1 s.heap H locs)
    (k58 : ∀  (ls : Array Slot), LV ls 3 → ls[0]? = some (.val (va_rf (some l0))) → ls[1]? = some (.val (.int l1)) → K58  → W p l e ({ frames := 1, cells := 0, slots := 0, locals := 23 } : Room) s m args below meth c H locs 0 0 (MQ below (QI G Q) args s 0 0 G.2.2.1) (F0 m 58 ls [])) :
    ∀ (n : Nat) (l2 : Int32) (ls : Array Slot), LV ls 3 → ls[0]? = some (.val (va_rf (some l0))) → ls[1]? = some (.val (.int l1)) → ls[2]? = some (.val (.int l2)) → wp_X12_canBegin_L18 S l0 l1 K58 Q n l2 → W p l e ({ frames := 1, cells := 0, slots := 0, locals := 23 } : Room) s m args below meth c H locs 0 0 (MQ below (QI G Q) args s 0 0 G.2.2.1) (F0 m 18 ls []) := by
  intro n
  induction n with
  | zero =>
    intro l2 ls hL h0 h1 h2 hw
    exact False.elim hw
  | succ n ih =>
    intro l2 ls hL h0 h1 h2 hw
    unfold wp_X12_canBegin_L18 at hw
    refine lv_iload_n C.1 C.2.1 dX12_canBegin_18 rfl h2 ?_
    refine m_aldN C dX12_canBegin_19 rfl h0 ?_
    obtain ⟨hk8, hw⟩ := hw
    refine m_getI C hW rfl hk8 f_X12_145 rfl dX12_canBegin_20 ?_
    refine lv_icmp_ge (tgt := 58) C.1 C.2.1 dX12_canBegin_23 (by decide) (fun hc9 => ?_) (fun hc9 => ?_)
    · have hw := hw.1 hc9
      exact k58  ls hL h0 h1 hw
    · have hw := hw.2 hc9
      refine m_aldN C dX12_canBegin_26 rfl h0 ?_
      refine m_getR C hW rfl hk8 f_X12_33 rfl dX12_canBegin_27 ?_
      refine lv_bipush (v := 40) C.1 C.2.1 dX12_canBegin_30 (by decide) ?_
      refine lv_iload_n C.1 C.2.1 dX12_canBegin_32 rfl h1 ?_
      refine lv_imul C.1 C.2.1 dX12_canBegin_33 ?_
      refine lv_iload_n C.1 C.2.1 dX12_canBegin_34 rfl h2 ?_
      refine lv_iadd C.1 C.2.1 dX12_canBegin_35 ?_
      obtain ⟨b10, ho10, hw⟩ := hw
      obtain ⟨hk11, hw⟩ := hw
      obtain ⟨hi12, hw⟩ := hw
      refine m_zald C hW ho10 hk11 hi12 dX12_canBegin_36 ?_
      refine lv_if_eq (tgt := 52) C.1 C.2.1 dX12_canBegin_37 (by decide) (fun hc13 => ?_) (fun hc13 => ?_)
      · have hw := hw.1 hc13
        refine m_iinc (v := (l2 + 1)) C hL dX12_canBegin_52 h2 rfl (by decide) (fun ls hL hn9 hk9 => ?_)
        have h0 := hk9 0 _ h0 (by decide) (Or.inl (by decide))
        have h1 := hk9 1 _ h1 (by decide) (Or.inr (rfl))
        have h2 := hn9
        refine lv_goto (tgt := 18) C.1 C.2.1 dX12_canBegin_55 (by decide) ?_
        exact ih (l2 + 1) ls hL h0 h1 h2 hw
      · have hw := hw.2 hc13
        refine m_aldN C dX12_canBegin_40 rfl h0 ?_
        refine m_getR C hW rfl hk8 f_X12_84 rfl dX12_canBegin_41 ?_
        refine lv_iload_n C.1 C.2.1 dX12_canBegin_44 rfl h2 ?_
        obtain ⟨b14, ho14, hw⟩ := hw
        obtain ⟨hk15, hw⟩ := hw
        obtain ⟨hi16, hw⟩ := hw
        refine m_iald C hW ho14 hk15 hi16 dX12_canBegin_45 ?_
        refine lv_iconst (v := (-1)) C.1 C.2.1 dX12_canBegin_46 (by decide) ?_
        refine lv_icmp_eq (tgt := 52) C.1 C.2.1 dX12_canBegin_47 (by decide) (fun hc17 => ?_) (fun hc17 => ?_)
        · have hw := hw.1 hc17
          refine m_iinc (v := (l2 + 1)) C hL dX12_canBegin_52 h2 rfl (by decide) (fun ls hL hn9 hk9 => ?_)
          have h0 := hk9 0 _ h0 (by decide) (Or.inl (by decide))
          have h1 := hk9 1 _ h1 (by decide) (Or.inr (rfl))
          have h2 := hn9
          refine lv_goto (tgt := 18) C.1 C.2.1 dX12_canBegin_55 (by decide) ?_
          exact ih (l2 + 1) ls hL h0 h1 h2 hw
        · have hw := hw.2 hc17
          refine lv_iconst (v := 0) C.1 C.2.1 dX12_canBegin_50 (by decide) ?_
          exact m_zret C hW hS (by decide) hw dX12_canBegin_51
set_option maxRecDepth 100000 in
set_option maxHeartbeats 4000000 in
theorem w_X12_canBegin_L60 {p : Program} {l : Launch} {e : Env} {s : State} {m : MethodId} {args : Array Value} {below : List Frame} {meth : Method} {c : Code} {G : GX} {Q : Int32 → Hp → Prop} {l0 : Nat} {l1 : Int32} {S : Hp} {H : Heap} {locs : List Loc} (C : Cx p s m args meth c cX12_canBegin 3 RX12 (some .boolean) "canBegin" G) (hW : wd G S H) (hS : va_S G.2.2.1 s.heap H locs) :
    ∀ (n : Nat) (l2 : Int32) (ls : Array Slot), LV ls 3 → ls[0]? = some (.val (va_rf (some l0))) → ls[1]? = some (.val (.int l1)) → ls[2]? = some (.val (.int l2)) → wp_X12_canBegin_L60 S l0 l1 Q n l2 → W p l e ({ frames := 1, cells := 0, slots := 0, locals := 23 } : Room) s m args below meth c H locs 0 0 (MQ below (QI G Q) args s 0 0 G.2.2.1) (F0 m 60 ls []) := by
  intro n
  induction n with
  | zero =>
    intro l2 ls hL h0 h1 h2 hw
    exact False.elim hw
  | succ n ih =>
    intro l2 ls hL h0 h1 h2 hw
    unfold wp_X12_canBegin_L60 at hw
    refine lv_iload_n C.1 C.2.1 dX12_canBegin_60 rfl h2 ?_
    refine lv_bipush (v := 60) C.1 C.2.1 dX12_canBegin_61 (by decide) ?_
    refine lv_icmp_ge (tgt := 96) C.1 C.2.1 dX12_canBegin_63 (by decide) (fun hc18 => ?_) (fun hc18 => ?_)
    · have hw := hw.1 hc18
      refine lv_iconst (v := 1) C.1 C.2.1 dX12_canBegin_96 (by decide) ?_
      exact m_zret C hW hS (by decide) hw dX12_canBegin_97
    · have hw := hw.2 hc18
      refine m_aldN C dX12_canBegin_66 rfl h0 ?_
      obtain ⟨hk19, hw⟩ := hw
      refine m_getR C hW rfl hk19 f_X12_36 rfl dX12_canBegin_67 ?_
      refine lv_bipush (v := 60) C.1 C.2.1 dX12_canBegin_70 (by decide) ?_
      refine lv_iload_n C.1 C.2.1 dX12_canBegin_72 rfl h1 ?_
      refine lv_imul C.1 C.2.1 dX12_canBegin_73 ?_
      refine lv_iload_n C.1 C.2.1 dX12_canBegin_74 rfl h2 ?_
      refine lv_iadd C.1 C.2.1 dX12_canBegin_75 ?_
      obtain ⟨b20, ho20, hw⟩ := hw
      obtain ⟨hk21, hw⟩ := hw
      obtain ⟨hi22, hw⟩ := hw
      refine m_iald C hW ho20 hk21 hi22 dX12_canBegin_76 ?_
      refine lv_i2l (v := (((hI S b20 (((60 * l1) + l2) : Int32).toNatClampNeg) : Int32).toInt64)) C.1 C.2.1 dX12_canBegin_77 rfl ?_
      refine m_aldN C dX12_canBegin_78 rfl h0 ?_
      refine m_getR C hW rfl hk19 f_X12_90 rfl dX12_canBegin_79 ?_
      refine lv_iload_n C.1 C.2.1 dX12_canBegin_82 rfl h2 ?_
      obtain ⟨b23, ho23, hw⟩ := hw
      obtain ⟨hk24, hw⟩ := hw
      obtain ⟨hi25, hw⟩ := hw
      refine m_lald C hW ho23 hk24 hi25 dX12_canBegin_83 ?_
      refine W.lcmp C.1 C.2.1 dX12_canBegin_84 ?_
      refine lv_if_le (tgt := 90) C.1 C.2.1 dX12_canBegin_85 (by decide) (fun hc26 => ?_) (fun hc26 => ?_)
      · have hw := hw.1 ((q_le _ _).mp hc26)
        refine m_iinc (v := (l2 + 1)) C hL dX12_canBegin_90 h2 rfl (by decide) (fun ls hL hn9 hk9 => ?_)
        have h0 := hk9 0 _ h0 (by decide) (Or.inl (by decide))
        have h1 := hk9 1 _ h1 (by decide) (Or.inr (rfl))
        have h2 := hn9
        refine lv_goto (tgt := 60) C.1 C.2.1 dX12_canBegin_93 (by decide) ?_
        exact ih (l2 + 1) ls hL h0 h1 h2 hw
      · have hw := hw.2 (fun z => hc26 ((q_le _ _).mpr z))
        refine lv_iconst (v := 0) C.1 C.2.1 dX12_canBegin_88 (by decide) ?_
        exact m_zret C hW hS (by decide) hw dX12_canBegin_89
set_option maxRecDepth 100000 in
set_option maxHeartbeats 4000000 in
theorem c_X12_canBegin {l : Launch} {G : GX} {S : Hp} {a0 : Nat} {a1 : Int32} {Q : Int32 → Hp → Prop} (hw : wp_X12_canBegin S a0 a1 Q) : Met l yX12_canBegin (Cond.code yX12_canBegin cX12_canBegin 3 (some .boolean) :: TS) { frames := 1, cells := 0, slots := 0, locals := 23 } (Pk G S [va_rf (some a0), .int a1]) (QI G Q) 0 0 G.2.2.1 := by
  refine m_met (by decide) ?_
  intro p e s m below meth c H locs C hW hS
  have C : Cx p s m ([va_rf (some a0), .int a1] : List Value).toArray meth c cX12_canBegin 3 RX12 (some .boolean) "canBegin" G := C
  obtain ⟨ls, hent, hL, hla⟩ := m_entry m (vs := [va_rf (some a0), .int a1]) (nn := 3) [1, 1] rfl (by decide)
  rw [hent]
  have h0 : ls[0]? = some (.val (va_rf (some a0))) := hla (0, va_rf (some a0)) (List.mem_of_getElem? (i := 0) rfl)
  have h1 : ls[1]? = some (.val (.int a1)) := hla (1, .int a1) (List.mem_of_getElem? (i := 1) rfl)
  clear hla
  generalize ([va_rf (some a0), .int a1] : List Value).toArray = args at C ⊢
  unfold wp_X12_canBegin at hw
  refine m_aldN C dX12_canBegin_0 rfl h0 ?_
  refine m_aldN C dX12_canBegin_1 rfl h0 ?_
  obtain ⟨hk1, hw⟩ := hw
  refine m_getR C hW rfl hk1 f_X12_16 rfl dX12_canBegin_2 ?_
  refine lv_iload_n C.1 C.2.1 dX12_canBegin_5 rfl h1 ?_
  obtain ⟨b2, ho2, hw⟩ := hw
  obtain ⟨hk3, hw⟩ := hw
  obtain ⟨hi4, hw⟩ := hw
  refine m_iald C hW ho2 hk3 hi4 dX12_canBegin_6 ?_
  refine m_rI (m_runV (As := [.int (hI S b2 (a1 : Int32).toNatClampNeg)]) (rest := []) C hW hS hL (c_X12_freeWorker hw) v_X12_228 ⟨rfl, rfl⟩ ⟨Nat.le_of_ble_eq_true rfl, Nat.le_of_ble_eq_true rfl⟩ rfl hk1 rfl rfl (Nat.le_of_ble_eq_true rfl) dX12_canBegin_7 ⟨Nat.le_of_ble_eq_true rfl, Nat.le_of_ble_eq_true rfl⟩) hS (fun r6 S5 H locs hw hW hS => ?_)
  refine lv_iconst (v := (-1)) C.1 C.2.1 dX12_canBegin_10 (by decide) ?_
  refine lv_icmp_ne (tgt := 16) C.1 C.2.1 dX12_canBegin_11 (by decide) (fun hc7 => ?_) (fun hc7 => ?_)
  · have hw := hw.2 hc7
    refine lv_iconst (v := 0) C.1 C.2.1 dX12_canBegin_16 (by decide) ?_
    refine m_istN C hL dX12_canBegin_17 rfl (by decide) (fun ls hL hn9 hk9 => ?_)
    have h0 := hk9 0 _ h0 (by decide) (Or.inl (by decide))
    have h1 := hk9 1 _ h1 (by decide) (Or.inr (rfl))
    have h2 := hn9
    refine w_X12_canBegin_L18 C hW hS ?_ FU 0 ls hL h0 h1 h2 hw
    · intro  ls hL h0 h1 hw
      refine lv_iconst (v := 0) C.1 C.2.1 dX12_canBegin_58 (by decide) ?_
      refine m_istN C hL dX12_canBegin_59 rfl (by decide) (fun ls hL hn9 hk9 => ?_)
      have h0 := hk9 0 _ h0 (by decide) (Or.inl (by decide))
      have h1 := hk9 1 _ h1 (by decide) (Or.inr (rfl))
      have h2 := hn9
      exact w_X12_canBegin_L60 C hW hS  FU 0 ls hL h0 h1 h2 hw
  · have hw := hw.1 hc7
    refine lv_iconst (v := 0) C.1 C.2.1 dX12_canBegin_14 (by decide) ?_
    exact m_zret C hW hS (by decide) hw dX12_canBegin_15
def wp_X12_beginsWork_L55 (l0 : Nat) (l1 : Int32) (K120 : Hp → Prop) (Q : Hp → Prop) : Nat → Hp → Int32 → Prop
  | 0, _, _ => False
  | n + 1, S, l2 => hK S l0 = 14 ∧ ((hI S l0 3) ≤ l2 → K120 S) ∧ (¬ ((hI S l0 3) ≤ l2) → ∃ b29 : Nat, (hR S l0 12) = some b29 ∧ hK S b29 = 17 ∧ vp_in ((40 * l1) + l2) (hN S b29) ∧ ((hI S b29 (((40 * l1) + l2) : Int32).toNatClampNeg) = 0 → wp_X12_beginsWork_L55 l0 l1 K120 Q n S (l2 + 1)) ∧ (¬ ((hI S b29 (((40 * l1) + l2) : Int32).toNatClampNeg) = 0) → ∃ b33 : Nat, (hR S l0 33) = some b33 ∧ hK S b33 = 15 ∧ vp_in l2 (hN S b33) ∧ ∃ J37 : Hp → Prop, J37 = (fun (S38 : Hp) => hK S38 l0 = 14 ∧ ∃ b40 : Nat, (hR S38 l0 33) = some b40 ∧ hK S38 b40 = 15 ∧ vp_in l2 (hN S38 b40) ∧ ∃ b43 : Nat, (hR (sI S38 b40 (l2 : Int32).toNatClampNeg l1) l0 34) = some b43 ∧ hK (sI S38 b40 (l2 : Int32).toNatClampNeg l1) b43 = 15 ∧ vp_in l2 (hN (sI S38 b40 (l2 : Int32).toNatClampNeg l1) b43) ∧ wp_X12_beginsWork_L55 l0 l1 K120 Q n (sI (sI S38 b40 (l2 : Int32).toNatClampNeg l1) b43 (l2 : Int32).toNatClampNeg l1) (l2 + 1)) ∧ ((hI S b33 (l2 : Int32).toNatClampNeg) = (-1) → J37 S) ∧ (¬ ((hI S b33 (l2 : Int32).toNatClampNeg) = (-1)) → J37 (sI S l0 39 ((hI S l0 39) + 1)))))
def wp_X12_beginsWork_L122 (l0 : Nat) (l1 : Int32) (K176 : Hp → Prop) (Q : Hp → Prop) : Nat → Hp → Int32 → Prop
  | 0, _, _ => False
  | n + 1, S, l2 => (60 ≤ l2 → K176 S) ∧ (¬ (60 ≤ l2) → hK S l0 = 14 ∧ ∃ b49 : Nat, (hR S l0 35) = some b49 ∧ hK S b49 = 16 ∧ vp_in l2 (hN S b49) ∧ ∃ b52 : Nat, (hR S l0 13) = some b52 ∧ hK S b52 = 15 ∧ vp_in ((60 * l1) + l2) (hN S b52) ∧ vp_in l2 (hN S b49) ∧ ∃ b56 : Nat, (hR (sJ S b49 (l2 : Int32).toNatClampNeg ((hJ S b49 (l2 : Int32).toNatClampNeg) - (((hI S b52 (((60 * l1) + l2) : Int32).toNatClampNeg) : Int32).toInt64))) l0 35) = some b56 ∧ hK (sJ S b49 (l2 : Int32).toNatClampNeg ((hJ S b49 (l2 : Int32).toNatClampNeg) - (((hI S b52 (((60 * l1) + l2) : Int32).toNatClampNeg) : Int32).toInt64))) b56 = 16 ∧ vp_in l2 (hN (sJ S b49 (l2 : Int32).toNatClampNeg ((hJ S b49 (l2 : Int32).toNatClampNeg) - (((hI S b52 (((60 * l1) + l2) : Int32).toNatClampNeg) : Int32).toInt64))) b56) ∧ (0 ≤ (hJ (sJ S b49 (l2 : Int32).toNatClampNeg ((hJ S b49 (l2 : Int32).toNatClampNeg) - (((hI S b52 (((60 * l1) + l2) : Int32).toNatClampNeg) : Int32).toInt64))) b56 (l2 : Int32).toNatClampNeg) → wp_X12_beginsWork_L122 l0 l1 K176 Q n (sJ S b49 (l2 : Int32).toNatClampNeg ((hJ S b49 (l2 : Int32).toNatClampNeg) - (((hI S b52 (((60 * l1) + l2) : Int32).toNatClampNeg) : Int32).toInt64))) (l2 + 1)) ∧ (¬ (0 ≤ (hJ (sJ S b49 (l2 : Int32).toNatClampNeg ((hJ S b49 (l2 : Int32).toNatClampNeg) - (((hI S b52 (((60 * l1) + l2) : Int32).toNatClampNeg) : Int32).toInt64))) b56 (l2 : Int32).toNatClampNeg)) → wp_X12_beginsWork_L122 l0 l1 K176 Q n (sI (sJ S b49 (l2 : Int32).toNatClampNeg ((hJ S b49 (l2 : Int32).toNatClampNeg) - (((hI S b52 (((60 * l1) + l2) : Int32).toNatClampNeg) : Int32).toInt64))) l0 39 ((hI (sJ S b49 (l2 : Int32).toNatClampNeg ((hJ S b49 (l2 : Int32).toNatClampNeg) - (((hI S b52 (((60 * l1) + l2) : Int32).toNatClampNeg) : Int32).toInt64))) l0 39) + 1)) (l2 + 1)))
def wp_X12_beginsWork (S : Hp) (a0 : Nat) (a1 : Int32) (Q : Hp → Prop) : Prop := hK S a0 = 14 ∧ ∃ b2 : Nat, (hR S a0 7) = some b2 ∧ hK S b2 = 15 ∧ vp_in a1 (hN S b2) ∧ wp_X12_freeWorker S a0 (hI S b2 (a1 : Int32).toNatClampNeg) (fun r6 S5 => ∃ b7 : Nat, (hR S a0 29) = some b7 ∧ hK S5 b7 = 15 ∧ vp_in a1 (hN S5 b7) ∧ hK (sI S5 b7 (a1 : Int32).toNatClampNeg r6) a0 = 14 ∧ ∃ b11 : Nat, (hR (sI S5 b7 (a1 : Int32).toNatClampNeg r6) a0 29) = some b11 ∧ hK (sI S5 b7 (a1 : Int32).toNatClampNeg r6) b11 = 15 ∧ vp_in a1 (hN (sI S5 b7 (a1 : Int32).toNatClampNeg r6) b11) ∧ ∃ b14 : Nat, (hR (sI S5 b7 (a1 : Int32).toNatClampNeg r6) a0 32) = some b14 ∧ hK (sI S5 b7 (a1 : Int32).toNatClampNeg r6) b14 = 15 ∧ vp_in (hI (sI S5 b7 (a1 : Int32).toNatClampNeg r6) b11 (a1 : Int32).toNatClampNeg) (hN (sI S5 b7 (a1 : Int32).toNatClampNeg r6) b14) ∧ ∃ J18 : Hp → Prop, J18 = (fun (S19 : Hp) => hK S19 a0 = 14 ∧ ∃ b21 : Nat, (hR S19 a0 29) = some b21 ∧ hK S19 b21 = 15 ∧ vp_in a1 (hN S19 b21) ∧ ∃ b24 : Nat, (hR S19 a0 32) = some b24 ∧ hK S19 b24 = 15 ∧ vp_in (hI S19 b21 (a1 : Int32).toNatClampNeg) (hN S19 b24) ∧ wp_X12_beginsWork_L55 a0 a1 (fun (S46 : Hp) => wp_X12_beginsWork_L122 a0 a1 (fun (S60 : Hp) => hK S60 a0 = 14 ∧ ∃ b62 : Nat, (hR S60 a0 27) = some b62 ∧ hK S60 b62 = 15 ∧ vp_in a1 (hN S60 b62) ∧ ∃ b65 : Nat, (hR (sI S60 b62 (a1 : Int32).toNatClampNeg (hI S60 a0 24)) a0 26) = some b65 ∧ hK (sI S60 b62 (a1 : Int32).toNatClampNeg (hI S60 a0 24)) b65 = 15 ∧ vp_in a1 (hN (sI S60 b62 (a1 : Int32).toNatClampNeg (hI S60 a0 24)) b65) ∧ wp_X12_tells (sI (sI S60 b62 (a1 : Int32).toNatClampNeg (hI S60 a0 24)) b65 (a1 : Int32).toNatClampNeg 6) a0 a1 5 (fun S68 => Q S68)) Q FU S46 0) Q FU (sI S19 b24 ((hI S19 b21 (a1 : Int32).toNatClampNeg) : Int32).toNatClampNeg a1) 0) ∧ ((hI (sI S5 b7 (a1 : Int32).toNatClampNeg r6) b14 ((hI (sI S5 b7 (a1 : Int32).toNatClampNeg r6) b11 (a1 : Int32).toNatClampNeg) : Int32).toNatClampNeg) = (-1) → J18 (sI S5 b7 (a1 : Int32).toNatClampNeg r6)) ∧ (¬ ((hI (sI S5 b7 (a1 : Int32).toNatClampNeg r6) b14 ((hI (sI S5 b7 (a1 : Int32).toNatClampNeg r6) b11 (a1 : Int32).toNatClampNeg) : Int32).toNatClampNeg) = (-1)) → J18 (sI (sI S5 b7 (a1 : Int32).toNatClampNeg r6) a0 39 ((hI (sI S5 b7 (a1 : Int32).toNatClampNeg r6) a0 39) + 1))))
set_option maxRecDepth 100000 in
set_option maxHeartbeats 4000000 in
theorem w_X12_beginsWork_L55 {p : Program} {l : Launch} {e : Env} {s : State} {m : MethodId} {args : Array Value} {below : List Frame} {meth : Method} {c : Code} {G : GX} {Q : Hp → Prop} {K120 : Hp → Prop} {l0 : Nat} {l1 : Int32} (C : Cx p s m args meth c cX12_beginsWork 3 RX12 none "beginsWork" G)
    (k120 : ∀ (S : Hp) (H : Heap) (locs : List Loc) (ls : Array Slot), wd G S H → va_S G.2.2.1 s.heap H locs → LV ls 3 → ls[0]? = some (.val (va_rf (some l0))) → ls[1]? = some (.val (.int l1)) → K120 S → W p l e ({ frames := 1, cells := 0, slots := 0, locals := 23 } : Room) s m args below meth c H locs 0 0 (MQ below (QV G Q) args s 0 0 G.2.2.1) (F0 m 120 ls [])) :
    ∀ (n : Nat) (S : Hp) (l2 : Int32) (H : Heap) (locs : List Loc) (ls : Array Slot), wd G S H → va_S G.2.2.1 s.heap H locs → LV ls 3 → ls[0]? = some (.val (va_rf (some l0))) → ls[1]? = some (.val (.int l1)) → ls[2]? = some (.val (.int l2)) → wp_X12_beginsWork_L55 l0 l1 K120 Q n S l2 → W p l e ({ frames := 1, cells := 0, slots := 0, locals := 23 } : Room) s m args below meth c H locs 0 0 (MQ below (QV G Q) args s 0 0 G.2.2.1) (F0 m 55 ls []) := by
  intro n
  induction n with
  | zero =>
    intro S l2 H locs ls hW hS hL h0 h1 h2 hw
    exact False.elim hw
  | succ n ih =>
    intro S l2 H locs ls hW hS hL h0 h1 h2 hw
    unfold wp_X12_beginsWork_L55 at hw
    refine lv_iload_n C.1 C.2.1 dX12_beginsWork_55 rfl h2 ?_
    refine m_aldN C dX12_beginsWork_56 rfl h0 ?_
    obtain ⟨hk27, hw⟩ := hw
    refine m_getI C hW rfl hk27 f_X12_145 rfl dX12_beginsWork_57 ?_
    refine lv_icmp_ge (tgt := 120) C.1 C.2.1 dX12_beginsWork_60 (by decide) (fun hc28 => ?_) (fun hc28 => ?_)
    · have hw := hw.1 hc28
      exact k120 S H locs ls hW hS hL h0 h1 hw
    · have hw := hw.2 hc28
      refine m_aldN C dX12_beginsWork_63 rfl h0 ?_
      refine m_getR C hW rfl hk27 f_X12_33 rfl dX12_beginsWork_64 ?_
      refine lv_bipush (v := 40) C.1 C.2.1 dX12_beginsWork_67 (by decide) ?_
      refine lv_iload_n C.1 C.2.1 dX12_beginsWork_69 rfl h1 ?_
      refine lv_imul C.1 C.2.1 dX12_beginsWork_70 ?_
      refine lv_iload_n C.1 C.2.1 dX12_beginsWork_71 rfl h2 ?_
      refine lv_iadd C.1 C.2.1 dX12_beginsWork_72 ?_
      obtain ⟨b29, ho29, hw⟩ := hw
      obtain ⟨hk30, hw⟩ := hw
      obtain ⟨hi31, hw⟩ := hw
      refine m_zald C hW ho29 hk30 hi31 dX12_beginsWork_73 ?_
      refine lv_if_ne (tgt := 80) C.1 C.2.1 dX12_beginsWork_74 (by decide) (fun hc32 => ?_) (fun hc32 => ?_)
      · have hw := hw.2 hc32
        refine m_aldN C dX12_beginsWork_80 rfl h0 ?_
        refine m_getR C hW rfl hk27 f_X12_84 rfl dX12_beginsWork_81 ?_
        refine lv_iload_n C.1 C.2.1 dX12_beginsWork_84 rfl h2 ?_
        obtain ⟨b33, ho33, hw⟩ := hw
        obtain ⟨hk34, hw⟩ := hw
        obtain ⟨hi35, hw⟩ := hw
        refine m_iald C hW ho33 hk34 hi35 dX12_beginsWork_85 ?_
        refine lv_iconst (v := (-1)) C.1 C.2.1 dX12_beginsWork_86 (by decide) ?_
        obtain ⟨J37, eJ37, hw⟩ := hw
        have wJ37 : ∀ (S38 : Hp) (H : Heap) (locs : List Loc) (ls : Array Slot), wd G S38 H → va_S G.2.2.1 s.heap H locs → LV ls 3 → ls[0]? = some (.val (va_rf (some l0))) → ls[1]? = some (.val (.int l1)) → ls[2]? = some (.val (.int l2)) → J37 S38 → W p l e ({ frames := 1, cells := 0, slots := 0, locals := 23 } : Room) s m args below meth c H locs 0 0 (MQ below (QV G Q) args s 0 0 G.2.2.1) (F0 m 100 ls []) := by
          intro S38 H locs ls hW hS hL h0 h1 h2 hw
          rw [eJ37] at hw
          refine m_aldN C dX12_beginsWork_100 rfl h0 ?_
          obtain ⟨hk39, hw⟩ := hw
          refine m_getR C hW rfl hk39 f_X12_84 rfl dX12_beginsWork_101 ?_
          refine lv_iload_n C.1 C.2.1 dX12_beginsWork_104 rfl h2 ?_
          refine lv_iload_n C.1 C.2.1 dX12_beginsWork_105 rfl h1 ?_
          obtain ⟨b40, ho40, hw⟩ := hw
          obtain ⟨hk41, hw⟩ := hw
          obtain ⟨hi42, hw⟩ := hw
          refine m_iast C hW hS ho40 hk41 hi42 dX12_beginsWork_106 (fun H locs hW hS => ?_)
          refine m_aldN C dX12_beginsWork_107 rfl h0 ?_
          refine m_getR C hW rfl hk39 f_X12_87 rfl dX12_beginsWork_108 ?_
          refine lv_iload_n C.1 C.2.1 dX12_beginsWork_111 rfl h2 ?_
          refine lv_iload_n C.1 C.2.1 dX12_beginsWork_112 rfl h1 ?_
          obtain ⟨b43, ho43, hw⟩ := hw
          obtain ⟨hk44, hw⟩ := hw
          obtain ⟨hi45, hw⟩ := hw
          refine m_iast C hW hS ho43 hk44 hi45 dX12_beginsWork_113 (fun H locs hW hS => ?_)
          refine m_iinc (v := (l2 + 1)) C hL dX12_beginsWork_114 h2 rfl (by decide) (fun ls hL hn9 hk9 => ?_)
          have h0 := hk9 0 _ h0 (by decide) (Or.inl (by decide))
          have h1 := hk9 1 _ h1 (by decide) (Or.inr (rfl))
          have h2 := hn9
          refine lv_goto (tgt := 55) C.1 C.2.1 dX12_beginsWork_117 (by decide) ?_
          exact ih (sI (sI S38 b40 (l2 : Int32).toNatClampNeg l1) b43 (l2 : Int32).toNatClampNeg l1) (l2 + 1) H locs ls hW hS hL h0 h1 h2 hw
        refine lv_icmp_eq (tgt := 100) C.1 C.2.1 dX12_beginsWork_87 (by decide) (fun hc36 => ?_) (fun hc36 => ?_)
        · have hw := hw.1 hc36
          exact wJ37 S H locs ls hW hS hL h0 h1 h2 hw
        · have hw := hw.2 hc36
          refine m_aldN C dX12_beginsWork_90 rfl h0 ?_
          refine lv_dup C.1 C.2.1 dX12_beginsWork_91 (va_rf_cat _) ?_
          refine m_getI C hW rfl hk27 f_X12_205 rfl dX12_beginsWork_92 ?_
          refine lv_iconst (v := 1) C.1 C.2.1 dX12_beginsWork_95 (by decide) ?_
          refine lv_iadd C.1 C.2.1 dX12_beginsWork_96 ?_
          refine m_putI C hW hS rfl hk27 p_X12_205 (fun z => by cases z) rfl dX12_beginsWork_97 (fun H locs hW hS => ?_)
          exact wJ37 (sI S l0 39 ((hI S l0 39) + 1)) H locs ls hW hS hL h0 h1 h2 hw
      · have hw := hw.1 hc32
        refine lv_goto (tgt := 114) C.1 C.2.1 dX12_beginsWork_77 (by decide) ?_
        refine m_iinc (v := (l2 + 1)) C hL dX12_beginsWork_114 h2 rfl (by decide) (fun ls hL hn9 hk9 => ?_)
        have h0 := hk9 0 _ h0 (by decide) (Or.inl (by decide))
        have h1 := hk9 1 _ h1 (by decide) (Or.inr (rfl))
        have h2 := hn9
        refine lv_goto (tgt := 55) C.1 C.2.1 dX12_beginsWork_117 (by decide) ?_
        exact ih S (l2 + 1) H locs ls hW hS hL h0 h1 h2 hw
set_option maxRecDepth 100000 in
set_option maxHeartbeats 4000000 in
theorem w_X12_beginsWork_L122 {p : Program} {l : Launch} {e : Env} {s : State} {m : MethodId} {args : Array Value} {below : List Frame} {meth : Method} {c : Code} {G : GX} {Q : Hp → Prop} {K176 : Hp → Prop} {l0 : Nat} {l1 : Int32} (C : Cx p s m args meth c cX12_beginsWork 3 RX12 none "beginsWork" G)
    (k176 : ∀ (S : Hp) (H : Heap) (locs : List Loc) (ls : Array Slot), wd G S H → va_S G.2.2.1 s.heap H locs → LV ls 3 → ls[0]? = some (.val (va_rf (some l0))) → ls[1]? = some (.val (.int l1)) → K176 S → W p l e ({ frames := 1, cells := 0, slots := 0, locals := 23 } : Room) s m args below meth c H locs 0 0 (MQ below (QV G Q) args s 0 0 G.2.2.1) (F0 m 176 ls [])) :
    ∀ (n : Nat) (S : Hp) (l2 : Int32) (H : Heap) (locs : List Loc) (ls : Array Slot), wd G S H → va_S G.2.2.1 s.heap H locs → LV ls 3 → ls[0]? = some (.val (va_rf (some l0))) → ls[1]? = some (.val (.int l1)) → ls[2]? = some (.val (.int l2)) → wp_X12_beginsWork_L122 l0 l1 K176 Q n S l2 → W p l e ({ frames := 1, cells := 0, slots := 0, locals := 23 } : Room) s m args below meth c H locs 0 0 (MQ below (QV G Q) args s 0 0 G.2.2.1) (F0 m 122 ls []) := by
  intro n
  induction n with
  | zero =>
    intro S l2 H locs ls hW hS hL h0 h1 h2 hw
    exact False.elim hw
  | succ n ih =>
    intro S l2 H locs ls hW hS hL h0 h1 h2 hw
    unfold wp_X12_beginsWork_L122 at hw
    refine lv_iload_n C.1 C.2.1 dX12_beginsWork_122 rfl h2 ?_
    refine lv_bipush (v := 60) C.1 C.2.1 dX12_beginsWork_123 (by decide) ?_
    refine lv_icmp_ge (tgt := 176) C.1 C.2.1 dX12_beginsWork_125 (by decide) (fun hc47 => ?_) (fun hc47 => ?_)
    · have hw := hw.1 hc47
      exact k176 S H locs ls hW hS hL h0 h1 hw
    · have hw := hw.2 hc47
      refine m_aldN C dX12_beginsWork_128 rfl h0 ?_
      obtain ⟨hk48, hw⟩ := hw
      refine m_getR C hW rfl hk48 f_X12_90 rfl dX12_beginsWork_129 ?_
      refine lv_iload_n C.1 C.2.1 dX12_beginsWork_132 rfl h2 ?_
      refine lv_dup2_11 C.1 C.2.1 dX12_beginsWork_133 (rfl) (va_rf_cat _) ?_
      obtain ⟨b49, ho49, hw⟩ := hw
      obtain ⟨hk50, hw⟩ := hw
      obtain ⟨hi51, hw⟩ := hw
      refine m_lald C hW ho49 hk50 hi51 dX12_beginsWork_134 ?_
      refine m_aldN C dX12_beginsWork_135 rfl h0 ?_
      refine m_getR C hW rfl hk48 f_X12_36 rfl dX12_beginsWork_136 ?_
      refine lv_bipush (v := 60) C.1 C.2.1 dX12_beginsWork_139 (by decide) ?_
      refine lv_iload_n C.1 C.2.1 dX12_beginsWork_141 rfl h1 ?_
      refine lv_imul C.1 C.2.1 dX12_beginsWork_142 ?_
      refine lv_iload_n C.1 C.2.1 dX12_beginsWork_143 rfl h2 ?_
      refine lv_iadd C.1 C.2.1 dX12_beginsWork_144 ?_
      obtain ⟨b52, ho52, hw⟩ := hw
      obtain ⟨hk53, hw⟩ := hw
      obtain ⟨hi54, hw⟩ := hw
      refine m_iald C hW ho52 hk53 hi54 dX12_beginsWork_145 ?_
      refine lv_i2l (v := (((hI S b52 (((60 * l1) + l2) : Int32).toNatClampNeg) : Int32).toInt64)) C.1 C.2.1 dX12_beginsWork_146 rfl ?_
      refine lv_lsub C.1 C.2.1 dX12_beginsWork_147 ?_
      obtain ⟨hi55, hw⟩ := hw
      refine m_last C hW hS ho49 hk50 hi55 dX12_beginsWork_148 (fun H locs hW hS => ?_)
      refine m_aldN C dX12_beginsWork_149 rfl h0 ?_
      refine m_getR C hW rfl hk48 f_X12_90 rfl dX12_beginsWork_150 ?_
      refine lv_iload_n C.1 C.2.1 dX12_beginsWork_153 rfl h2 ?_
      obtain ⟨b56, ho56, hw⟩ := hw
      obtain ⟨hk57, hw⟩ := hw
      obtain ⟨hi58, hw⟩ := hw
      refine m_lald C hW ho56 hk57 hi58 dX12_beginsWork_154 ?_
      refine lv_lconst (v := 0) C.1 C.2.1 dX12_beginsWork_155 (by decide) ?_
      refine W.lcmp C.1 C.2.1 dX12_beginsWork_156 ?_
      refine lv_if_ge (tgt := 170) C.1 C.2.1 dX12_beginsWork_157 (by decide) (fun hc59 => ?_) (fun hc59 => ?_)
      · have hw := hw.1 ((q_ge _ _).mp hc59)
        refine m_iinc (v := (l2 + 1)) C hL dX12_beginsWork_170 h2 rfl (by decide) (fun ls hL hn9 hk9 => ?_)
        have h0 := hk9 0 _ h0 (by decide) (Or.inl (by decide))
        have h1 := hk9 1 _ h1 (by decide) (Or.inr (rfl))
        have h2 := hn9
        refine lv_goto (tgt := 122) C.1 C.2.1 dX12_beginsWork_173 (by decide) ?_
        exact ih (sJ S b49 (l2 : Int32).toNatClampNeg ((hJ S b49 (l2 : Int32).toNatClampNeg) - (((hI S b52 (((60 * l1) + l2) : Int32).toNatClampNeg) : Int32).toInt64))) (l2 + 1) H locs ls hW hS hL h0 h1 h2 hw
      · have hw := hw.2 (fun z => hc59 ((q_ge _ _).mpr z))
        refine m_aldN C dX12_beginsWork_160 rfl h0 ?_
        refine lv_dup C.1 C.2.1 dX12_beginsWork_161 (va_rf_cat _) ?_
        refine m_getI C hW rfl hk48 f_X12_205 rfl dX12_beginsWork_162 ?_
        refine lv_iconst (v := 1) C.1 C.2.1 dX12_beginsWork_165 (by decide) ?_
        refine lv_iadd C.1 C.2.1 dX12_beginsWork_166 ?_
        refine m_putI C hW hS rfl hk48 p_X12_205 (fun z => by cases z) rfl dX12_beginsWork_167 (fun H locs hW hS => ?_)
        refine m_iinc (v := (l2 + 1)) C hL dX12_beginsWork_170 h2 rfl (by decide) (fun ls hL hn9 hk9 => ?_)
        have h0 := hk9 0 _ h0 (by decide) (Or.inl (by decide))
        have h1 := hk9 1 _ h1 (by decide) (Or.inr (rfl))
        have h2 := hn9
        refine lv_goto (tgt := 122) C.1 C.2.1 dX12_beginsWork_173 (by decide) ?_
        exact ih (sI (sJ S b49 (l2 : Int32).toNatClampNeg ((hJ S b49 (l2 : Int32).toNatClampNeg) - (((hI S b52 (((60 * l1) + l2) : Int32).toNatClampNeg) : Int32).toInt64))) l0 39 ((hI (sJ S b49 (l2 : Int32).toNatClampNeg ((hJ S b49 (l2 : Int32).toNatClampNeg) - (((hI S b52 (((60 * l1) + l2) : Int32).toNatClampNeg) : Int32).toInt64))) l0 39) + 1)) (l2 + 1) H locs ls hW hS hL h0 h1 h2 hw
set_option maxRecDepth 100000 in
set_option maxHeartbeats 4000000 in
theorem c_X12_beginsWork {l : Launch} {G : GX} {S : Hp} {a0 : Nat} {a1 : Int32} {Q : Hp → Prop} (hw : wp_X12_beginsWork S a0 a1 Q) : Met l yX12_beginsWork (Cond.code yX12_beginsWork cX12_beginsWork 3 none :: TS) { frames := 1, cells := 0, slots := 0, locals := 23 } (Pk G S [va_rf (some a0), .int a1]) (QV G Q) 0 0 G.2.2.1 := by
  refine m_met (by decide) ?_
  intro p e s m below meth c H locs C hW hS
  have C : Cx p s m ([va_rf (some a0), .int a1] : List Value).toArray meth c cX12_beginsWork 3 RX12 none "beginsWork" G := C
  obtain ⟨ls, hent, hL, hla⟩ := m_entry m (vs := [va_rf (some a0), .int a1]) (nn := 3) [1, 1] rfl (by decide)
  rw [hent]
  have h0 : ls[0]? = some (.val (va_rf (some a0))) := hla (0, va_rf (some a0)) (List.mem_of_getElem? (i := 0) rfl)
  have h1 : ls[1]? = some (.val (.int a1)) := hla (1, .int a1) (List.mem_of_getElem? (i := 1) rfl)
  clear hla
  generalize ([va_rf (some a0), .int a1] : List Value).toArray = args at C ⊢
  unfold wp_X12_beginsWork at hw
  refine m_aldN C dX12_beginsWork_0 rfl h0 ?_
  obtain ⟨hk1, hw⟩ := hw
  refine m_getR C hW rfl hk1 f_X12_72 rfl dX12_beginsWork_1 ?_
  refine lv_iload_n C.1 C.2.1 dX12_beginsWork_4 rfl h1 ?_
  refine m_aldN C dX12_beginsWork_5 rfl h0 ?_
  refine m_aldN C dX12_beginsWork_6 rfl h0 ?_
  refine m_getR C hW rfl hk1 f_X12_16 rfl dX12_beginsWork_7 ?_
  refine lv_iload_n C.1 C.2.1 dX12_beginsWork_10 rfl h1 ?_
  obtain ⟨b2, ho2, hw⟩ := hw
  obtain ⟨hk3, hw⟩ := hw
  obtain ⟨hi4, hw⟩ := hw
  refine m_iald C hW ho2 hk3 hi4 dX12_beginsWork_11 ?_
  refine m_rI (m_runV (As := [.int (hI S b2 (a1 : Int32).toNatClampNeg)]) (rest := [.int a1, va_rf (hR S a0 29)]) C hW hS hL (c_X12_freeWorker hw) v_X12_228 ⟨rfl, rfl⟩ ⟨Nat.le_of_ble_eq_true rfl, Nat.le_of_ble_eq_true rfl⟩ rfl hk1 rfl rfl (by simp only [List.map_cons, List.map_nil, va_rf_cat, List.sum_cons, List.sum_nil] <;> exact Nat.le_of_ble_eq_true rfl) dX12_beginsWork_12 ⟨Nat.le_of_ble_eq_true rfl, Nat.le_of_ble_eq_true rfl⟩) hS (fun r6 S5 H locs hw hW hS => ?_)
  obtain ⟨b7, ho7, hw⟩ := hw
  obtain ⟨hk8, hw⟩ := hw
  obtain ⟨hi9, hw⟩ := hw
  refine m_iast C hW hS ho7 hk8 hi9 dX12_beginsWork_15 (fun H locs hW hS => ?_)
  refine m_aldN C dX12_beginsWork_16 rfl h0 ?_
  obtain ⟨hk10, hw⟩ := hw
  refine m_getR C hW rfl hk10 f_X12_81 rfl dX12_beginsWork_17 ?_
  refine m_aldN C dX12_beginsWork_20 rfl h0 ?_
  refine m_getR C hW rfl hk10 f_X12_72 rfl dX12_beginsWork_21 ?_
  refine lv_iload_n C.1 C.2.1 dX12_beginsWork_24 rfl h1 ?_
  obtain ⟨b11, ho11, hw⟩ := hw
  obtain ⟨hk12, hw⟩ := hw
  obtain ⟨hi13, hw⟩ := hw
  refine m_iald C hW ho11 hk12 hi13 dX12_beginsWork_25 ?_
  obtain ⟨b14, ho14, hw⟩ := hw
  obtain ⟨hk15, hw⟩ := hw
  obtain ⟨hi16, hw⟩ := hw
  refine m_iald C hW ho14 hk15 hi16 dX12_beginsWork_26 ?_
  refine lv_iconst (v := (-1)) C.1 C.2.1 dX12_beginsWork_27 (by decide) ?_
  obtain ⟨J18, eJ18, hw⟩ := hw
  have wJ18 : ∀ (S19 : Hp) (H : Heap) (locs : List Loc) (ls : Array Slot), wd G S19 H → va_S G.2.2.1 s.heap H locs → LV ls 3 → ls[0]? = some (.val (va_rf (some a0))) → ls[1]? = some (.val (.int a1)) → J18 S19 → W p l e ({ frames := 1, cells := 0, slots := 0, locals := 23 } : Room) s m args below meth c H locs 0 0 (MQ below (QV G Q) args s 0 0 G.2.2.1) (F0 m 41 ls []) := by
    intro S19 H locs ls hW hS hL h0 h1 hw
    rw [eJ18] at hw
    refine m_aldN C dX12_beginsWork_41 rfl h0 ?_
    obtain ⟨hk20, hw⟩ := hw
    refine m_getR C hW rfl hk20 f_X12_81 rfl dX12_beginsWork_42 ?_
    refine m_aldN C dX12_beginsWork_45 rfl h0 ?_
    refine m_getR C hW rfl hk20 f_X12_72 rfl dX12_beginsWork_46 ?_
    refine lv_iload_n C.1 C.2.1 dX12_beginsWork_49 rfl h1 ?_
    obtain ⟨b21, ho21, hw⟩ := hw
    obtain ⟨hk22, hw⟩ := hw
    obtain ⟨hi23, hw⟩ := hw
    refine m_iald C hW ho21 hk22 hi23 dX12_beginsWork_50 ?_
    refine lv_iload_n C.1 C.2.1 dX12_beginsWork_51 rfl h1 ?_
    obtain ⟨b24, ho24, hw⟩ := hw
    obtain ⟨hk25, hw⟩ := hw
    obtain ⟨hi26, hw⟩ := hw
    refine m_iast C hW hS ho24 hk25 hi26 dX12_beginsWork_52 (fun H locs hW hS => ?_)
    refine lv_iconst (v := 0) C.1 C.2.1 dX12_beginsWork_53 (by decide) ?_
    refine m_istN C hL dX12_beginsWork_54 rfl (by decide) (fun ls hL hn9 hk9 => ?_)
    have h0 := hk9 0 _ h0 (by decide) (Or.inl (by decide))
    have h1 := hk9 1 _ h1 (by decide) (Or.inr (rfl))
    have h2 := hn9
    refine w_X12_beginsWork_L55 C ?_ FU (sI S19 b24 ((hI S19 b21 (a1 : Int32).toNatClampNeg) : Int32).toNatClampNeg a1) 0 H locs ls hW hS hL h0 h1 h2 hw
    · intro S46 H locs ls hW hS hL h0 h1 hw
      refine lv_iconst (v := 0) C.1 C.2.1 dX12_beginsWork_120 (by decide) ?_
      refine m_istN C hL dX12_beginsWork_121 rfl (by decide) (fun ls hL hn9 hk9 => ?_)
      have h0 := hk9 0 _ h0 (by decide) (Or.inl (by decide))
      have h1 := hk9 1 _ h1 (by decide) (Or.inr (rfl))
      have h2 := hn9
      refine w_X12_beginsWork_L122 C ?_ FU S46 0 H locs ls hW hS hL h0 h1 h2 hw
      · intro S60 H locs ls hW hS hL h0 h1 hw
        refine m_aldN C dX12_beginsWork_176 rfl h0 ?_
        obtain ⟨hk61, hw⟩ := hw
        refine m_getR C hW rfl hk61 f_X12_66 rfl dX12_beginsWork_177 ?_
        refine lv_iload_n C.1 C.2.1 dX12_beginsWork_180 rfl h1 ?_
        refine m_aldN C dX12_beginsWork_181 rfl h0 ?_
        refine m_getI C hW rfl hk61 f_X12_202 rfl dX12_beginsWork_182 ?_
        obtain ⟨b62, ho62, hw⟩ := hw
        obtain ⟨hk63, hw⟩ := hw
        obtain ⟨hi64, hw⟩ := hw
        refine m_iast C hW hS ho62 hk63 hi64 dX12_beginsWork_185 (fun H locs hW hS => ?_)
        refine m_aldN C dX12_beginsWork_186 rfl h0 ?_
        refine m_getR C hW rfl hk61 f_X12_63 rfl dX12_beginsWork_187 ?_
        refine lv_iload_n C.1 C.2.1 dX12_beginsWork_190 rfl h1 ?_
        refine lv_bipush (v := 6) C.1 C.2.1 dX12_beginsWork_191 (by decide) ?_
        obtain ⟨b65, ho65, hw⟩ := hw
        obtain ⟨hk66, hw⟩ := hw
        obtain ⟨hi67, hw⟩ := hw
        refine m_iast C hW hS ho65 hk66 hi67 dX12_beginsWork_193 (fun H locs hW hS => ?_)
        refine m_aldN C dX12_beginsWork_194 rfl h0 ?_
        refine lv_iload_n C.1 C.2.1 dX12_beginsWork_195 rfl h1 ?_
        refine lv_iconst (v := 5) C.1 C.2.1 dX12_beginsWork_196 (by decide) ?_
        refine m_rV (m_runV (As := [.int a1, .int 5]) (rest := []) C hW hS hL (c_X12_tells hw) v_X12_211 ⟨rfl, rfl⟩ ⟨Nat.le_of_ble_eq_true rfl, Nat.le_of_ble_eq_true rfl⟩ rfl hk61 rfl rfl (Nat.le_of_ble_eq_true rfl) dX12_beginsWork_197 ⟨Nat.le_of_ble_eq_true rfl, Nat.le_of_ble_eq_true rfl⟩) hS (fun S68 H locs hw hW hS => ?_)
        exact m_vret C hW hS hw dX12_beginsWork_200
  refine lv_icmp_eq (tgt := 41) C.1 C.2.1 dX12_beginsWork_28 (by decide) (fun hc17 => ?_) (fun hc17 => ?_)
  · have hw := hw.1 hc17
    exact wJ18 (sI S5 b7 (a1 : Int32).toNatClampNeg r6) H locs ls hW hS hL h0 h1 hw
  · have hw := hw.2 hc17
    refine m_aldN C dX12_beginsWork_31 rfl h0 ?_
    refine lv_dup C.1 C.2.1 dX12_beginsWork_32 (va_rf_cat _) ?_
    refine m_getI C hW rfl hk10 f_X12_205 rfl dX12_beginsWork_33 ?_
    refine lv_iconst (v := 1) C.1 C.2.1 dX12_beginsWork_36 (by decide) ?_
    refine lv_iadd C.1 C.2.1 dX12_beginsWork_37 ?_
    refine m_putI C hW hS rfl hk10 p_X12_205 (fun z => by cases z) rfl dX12_beginsWork_38 (fun H locs hW hS => ?_)
    exact wJ18 (sI (sI S5 b7 (a1 : Int32).toNatClampNeg r6) a0 39 ((hI (sI S5 b7 (a1 : Int32).toNatClampNeg r6) a0 39) + 1)) H locs ls hW hS hL h0 h1 hw
def wp_X12_nextReady_L4 (l0 : Nat) (l1 : Int32) (Q : Int32 → Hp → Prop) : Nat → Hp → Int32 → Int32 → Prop
  | 0, _, _, _ => False
  | n + 1, S, l2, l3 => hK S l0 = 14 ∧ ((hI S l0 4) ≤ l3 → Q l2 S) ∧ (¬ ((hI S l0 4) ≤ l3) → ∃ b3 : Nat, (hR S l0 7) = some b3 ∧ hK S b3 = 15 ∧ vp_in l3 (hN S b3) ∧ ((hI S b3 (l3 : Int32).toNatClampNeg) = l1 → ∃ b7 : Nat, (hR S l0 45) = some b7 ∧ hK S b7 = 17 ∧ vp_in l3 (hN S b7) ∧ ((hI S b7 (l3 : Int32).toNatClampNeg) = 0 → wp_X12_isReady S l0 l3 (fun r12 S11 => (r12 = 0 → wp_X12_nextReady_L4 l0 l1 Q n S11 l2 (l3 + 1)) ∧ (¬ (r12 = 0) → (l2 = (-1) → wp_X12_nextReady_L4 l0 l1 Q n S11 l3 (l3 + 1)) ∧ (¬ (l2 = (-1)) → hK S11 l0 = 14 ∧ ∃ b16 : Nat, (hR S11 l0 9) = some b16 ∧ hK S11 b16 = 15 ∧ vp_in l3 (hN S11 b16) ∧ vp_in l2 (hN S11 b16) ∧ ((hI S11 b16 (l2 : Int32).toNatClampNeg) ≤ (hI S11 b16 (l3 : Int32).toNatClampNeg) → wp_X12_nextReady_L4 l0 l1 Q n S11 l2 (l3 + 1)) ∧ (¬ ((hI S11 b16 (l2 : Int32).toNatClampNeg) ≤ (hI S11 b16 (l3 : Int32).toNatClampNeg)) → wp_X12_nextReady_L4 l0 l1 Q n S11 l3 (l3 + 1)))))) ∧ (¬ ((hI S b7 (l3 : Int32).toNatClampNeg) = 0) → wp_X12_nextReady_L4 l0 l1 Q n S l2 (l3 + 1))) ∧ (¬ ((hI S b3 (l3 : Int32).toNatClampNeg) = l1) → wp_X12_nextReady_L4 l0 l1 Q n S l2 (l3 + 1)))
def wp_X12_nextReady (S : Hp) (a0 : Nat) (a1 : Int32) (Q : Int32 → Hp → Prop) : Prop := wp_X12_nextReady_L4 a0 a1 Q FU S (-1) 0
set_option maxRecDepth 100000 in
set_option maxHeartbeats 4000000 in
theorem w_X12_nextReady_L4 {p : Program} {l : Launch} {e : Env} {s : State} {m : MethodId} {args : Array Value} {below : List Frame} {meth : Method} {c : Code} {G : GX} {Q : Int32 → Hp → Prop} {l0 : Nat} {l1 : Int32} (C : Cx p s m args meth c cX12_nextReady 4 RX12 (some .int) "nextReady" G) :
    ∀ (n : Nat) (S : Hp) (l2 : Int32) (l3 : Int32) (H : Heap) (locs : List Loc) (ls : Array Slot), wd G S H → va_S G.2.2.1 s.heap H locs → LV ls 4 → ls[0]? = some (.val (va_rf (some l0))) → ls[1]? = some (.val (.int l1)) → ls[2]? = some (.val (.int l2)) → ls[3]? = some (.val (.int l3)) → wp_X12_nextReady_L4 l0 l1 Q n S l2 l3 → W p l e ({ frames := 1, cells := 0, slots := 0, locals := 22 } : Room) s m args below meth c H locs 0 0 (MQ below (QI G Q) args s 0 0 G.2.2.1) (F0 m 4 ls []) := by
  intro n
  induction n with
  | zero =>
    intro S l2 l3 H locs ls hW hS hL h0 h1 h2 h3 hw
    exact False.elim hw
  | succ n ih =>
    intro S l2 l3 H locs ls hW hS hL h0 h1 h2 h3 hw
    unfold wp_X12_nextReady_L4 at hw
    refine lv_iload_n C.1 C.2.1 dX12_nextReady_4 rfl h3 ?_
    refine m_aldN C dX12_nextReady_5 rfl h0 ?_
    obtain ⟨hk1, hw⟩ := hw
    refine m_getI C hW rfl hk1 f_X12_128 rfl dX12_nextReady_6 ?_
    refine lv_icmp_ge (tgt := 70) C.1 C.2.1 dX12_nextReady_9 (by decide) (fun hc2 => ?_) (fun hc2 => ?_)
    · have hw := hw.1 hc2
      refine lv_iload_n C.1 C.2.1 dX12_nextReady_70 rfl h2 ?_
      exact m_iret C hW hS hw dX12_nextReady_71
    · have hw := hw.2 hc2
      refine m_aldN C dX12_nextReady_12 rfl h0 ?_
      refine m_getR C hW rfl hk1 f_X12_16 rfl dX12_nextReady_13 ?_
      refine lv_iload_n C.1 C.2.1 dX12_nextReady_16 rfl h3 ?_
      obtain ⟨b3, ho3, hw⟩ := hw
      obtain ⟨hk4, hw⟩ := hw
      obtain ⟨hi5, hw⟩ := hw
      refine m_iald C hW ho3 hk4 hi5 dX12_nextReady_17 ?_
      refine lv_iload_n C.1 C.2.1 dX12_nextReady_18 rfl h1 ?_
      refine lv_icmp_ne (tgt := 64) C.1 C.2.1 dX12_nextReady_19 (by decide) (fun hc6 => ?_) (fun hc6 => ?_)
      · have hw := hw.2 hc6
        refine m_iinc (v := (l3 + 1)) C hL dX12_nextReady_64 h3 rfl (by decide) (fun ls hL hn9 hk9 => ?_)
        have h0 := hk9 0 _ h0 (by decide) (Or.inl (by decide))
        have h1 := hk9 1 _ h1 (by decide) (Or.inl (by decide))
        have h2 := hk9 2 _ h2 (by decide) (Or.inr (rfl))
        have h3 := hn9
        refine lv_goto (tgt := 4) C.1 C.2.1 dX12_nextReady_67 (by decide) ?_
        exact ih S l2 (l3 + 1) H locs ls hW hS hL h0 h1 h2 h3 hw
      · have hw := hw.1 hc6
        refine m_aldN C dX12_nextReady_22 rfl h0 ?_
        refine m_getR C hW rfl hk1 f_X12_115 rfl dX12_nextReady_23 ?_
        refine lv_iload_n C.1 C.2.1 dX12_nextReady_26 rfl h3 ?_
        obtain ⟨b7, ho7, hw⟩ := hw
        obtain ⟨hk8, hw⟩ := hw
        obtain ⟨hi9, hw⟩ := hw
        refine m_zald C hW ho7 hk8 hi9 dX12_nextReady_27 ?_
        refine lv_if_ne (tgt := 64) C.1 C.2.1 dX12_nextReady_28 (by decide) (fun hc10 => ?_) (fun hc10 => ?_)
        · have hw := hw.2 hc10
          refine m_iinc (v := (l3 + 1)) C hL dX12_nextReady_64 h3 rfl (by decide) (fun ls hL hn9 hk9 => ?_)
          have h0 := hk9 0 _ h0 (by decide) (Or.inl (by decide))
          have h1 := hk9 1 _ h1 (by decide) (Or.inl (by decide))
          have h2 := hk9 2 _ h2 (by decide) (Or.inr (rfl))
          have h3 := hn9
          refine lv_goto (tgt := 4) C.1 C.2.1 dX12_nextReady_67 (by decide) ?_
          exact ih S l2 (l3 + 1) H locs ls hW hS hL h0 h1 h2 h3 hw
        · have hw := hw.1 hc10
          refine m_aldN C dX12_nextReady_31 rfl h0 ?_
          refine lv_iload_n C.1 C.2.1 dX12_nextReady_32 rfl h3 ?_
          refine m_rI (m_runV (As := [.int l3]) (rest := []) C hW hS hL (c_X12_isReady hw) v_X12_231 ⟨rfl, rfl⟩ ⟨Nat.le_of_ble_eq_true rfl, Nat.le_of_ble_eq_true rfl⟩ rfl hk1 rfl rfl (Nat.le_of_ble_eq_true rfl) dX12_nextReady_33 ⟨Nat.le_of_ble_eq_true rfl, Nat.le_of_ble_eq_true rfl⟩) hS (fun r12 S11 H locs hw hW hS => ?_)
          refine lv_if_ne (tgt := 42) C.1 C.2.1 dX12_nextReady_36 (by decide) (fun hc13 => ?_) (fun hc13 => ?_)
          · have hw := hw.2 hc13
            refine lv_iload_n C.1 C.2.1 dX12_nextReady_42 rfl h2 ?_
            refine lv_iconst (v := (-1)) C.1 C.2.1 dX12_nextReady_43 (by decide) ?_
            refine lv_icmp_eq (tgt := 62) C.1 C.2.1 dX12_nextReady_44 (by decide) (fun hc14 => ?_) (fun hc14 => ?_)
            · have hw := hw.1 hc14
              refine lv_iload_n C.1 C.2.1 dX12_nextReady_62 rfl h3 ?_
              refine m_istN C hL dX12_nextReady_63 rfl (by decide) (fun ls hL hn9 hk9 => ?_)
              have h0 := hk9 0 _ h0 (by decide) (Or.inl (by decide))
              have h1 := hk9 1 _ h1 (by decide) (Or.inr (rfl))
              have h3 := hk9 3 _ h3 (by decide) (Or.inl (by decide))
              have h2 := hn9
              refine m_iinc (v := (l3 + 1)) C hL dX12_nextReady_64 h3 rfl (by decide) (fun ls hL hn9 hk9 => ?_)
              have h0 := hk9 0 _ h0 (by decide) (Or.inl (by decide))
              have h1 := hk9 1 _ h1 (by decide) (Or.inl (by decide))
              have h2 := hk9 2 _ h2 (by decide) (Or.inr (rfl))
              have h3 := hn9
              refine lv_goto (tgt := 4) C.1 C.2.1 dX12_nextReady_67 (by decide) ?_
              exact ih S11 l3 (l3 + 1) H locs ls hW hS hL h0 h1 h2 h3 hw
            · have hw := hw.2 hc14
              refine m_aldN C dX12_nextReady_47 rfl h0 ?_
              obtain ⟨hk15, hw⟩ := hw
              refine m_getR C hW rfl hk15 f_X12_22 rfl dX12_nextReady_48 ?_
              refine lv_iload_n C.1 C.2.1 dX12_nextReady_51 rfl h3 ?_
              obtain ⟨b16, ho16, hw⟩ := hw
              obtain ⟨hk17, hw⟩ := hw
              obtain ⟨hi18, hw⟩ := hw
              refine m_iald C hW ho16 hk17 hi18 dX12_nextReady_52 ?_
              refine m_aldN C dX12_nextReady_53 rfl h0 ?_
              refine m_getR C hW rfl hk15 f_X12_22 rfl dX12_nextReady_54 ?_
              refine lv_iload_n C.1 C.2.1 dX12_nextReady_57 rfl h2 ?_
              obtain ⟨hi19, hw⟩ := hw
              refine m_iald C hW ho16 hk17 hi19 dX12_nextReady_58 ?_
              refine lv_icmp_ge (tgt := 64) C.1 C.2.1 dX12_nextReady_59 (by decide) (fun hc20 => ?_) (fun hc20 => ?_)
              · have hw := hw.1 hc20
                refine m_iinc (v := (l3 + 1)) C hL dX12_nextReady_64 h3 rfl (by decide) (fun ls hL hn9 hk9 => ?_)
                have h0 := hk9 0 _ h0 (by decide) (Or.inl (by decide))
                have h1 := hk9 1 _ h1 (by decide) (Or.inl (by decide))
                have h2 := hk9 2 _ h2 (by decide) (Or.inr (rfl))
                have h3 := hn9
                refine lv_goto (tgt := 4) C.1 C.2.1 dX12_nextReady_67 (by decide) ?_
                exact ih S11 l2 (l3 + 1) H locs ls hW hS hL h0 h1 h2 h3 hw
              · have hw := hw.2 hc20
                refine lv_iload_n C.1 C.2.1 dX12_nextReady_62 rfl h3 ?_
                refine m_istN C hL dX12_nextReady_63 rfl (by decide) (fun ls hL hn9 hk9 => ?_)
                have h0 := hk9 0 _ h0 (by decide) (Or.inl (by decide))
                have h1 := hk9 1 _ h1 (by decide) (Or.inr (rfl))
                have h3 := hk9 3 _ h3 (by decide) (Or.inl (by decide))
                have h2 := hn9
                refine m_iinc (v := (l3 + 1)) C hL dX12_nextReady_64 h3 rfl (by decide) (fun ls hL hn9 hk9 => ?_)
                have h0 := hk9 0 _ h0 (by decide) (Or.inl (by decide))
                have h1 := hk9 1 _ h1 (by decide) (Or.inl (by decide))
                have h2 := hk9 2 _ h2 (by decide) (Or.inr (rfl))
                have h3 := hn9
                refine lv_goto (tgt := 4) C.1 C.2.1 dX12_nextReady_67 (by decide) ?_
                exact ih S11 l3 (l3 + 1) H locs ls hW hS hL h0 h1 h2 h3 hw
          · have hw := hw.1 hc13
            refine lv_goto (tgt := 64) C.1 C.2.1 dX12_nextReady_39 (by decide) ?_
            refine m_iinc (v := (l3 + 1)) C hL dX12_nextReady_64 h3 rfl (by decide) (fun ls hL hn9 hk9 => ?_)
            have h0 := hk9 0 _ h0 (by decide) (Or.inl (by decide))
            have h1 := hk9 1 _ h1 (by decide) (Or.inl (by decide))
            have h2 := hk9 2 _ h2 (by decide) (Or.inr (rfl))
            have h3 := hn9
            refine lv_goto (tgt := 4) C.1 C.2.1 dX12_nextReady_67 (by decide) ?_
            exact ih S11 l2 (l3 + 1) H locs ls hW hS hL h0 h1 h2 h3 hw
set_option maxRecDepth 100000 in
set_option maxHeartbeats 4000000 in
theorem c_X12_nextReady {l : Launch} {G : GX} {S : Hp} {a0 : Nat} {a1 : Int32} {Q : Int32 → Hp → Prop} (hw : wp_X12_nextReady S a0 a1 Q) : Met l yX12_nextReady (Cond.code yX12_nextReady cX12_nextReady 4 (some .int) :: TS) { frames := 1, cells := 0, slots := 0, locals := 22 } (Pk G S [va_rf (some a0), .int a1]) (QI G Q) 0 0 G.2.2.1 := by
  refine m_met (by decide) ?_
  intro p e s m below meth c H locs C hW hS
  have C : Cx p s m ([va_rf (some a0), .int a1] : List Value).toArray meth c cX12_nextReady 4 RX12 (some .int) "nextReady" G := C
  obtain ⟨ls, hent, hL, hla⟩ := m_entry m (vs := [va_rf (some a0), .int a1]) (nn := 4) [1, 1] rfl (by decide)
  rw [hent]
  have h0 : ls[0]? = some (.val (va_rf (some a0))) := hla (0, va_rf (some a0)) (List.mem_of_getElem? (i := 0) rfl)
  have h1 : ls[1]? = some (.val (.int a1)) := hla (1, .int a1) (List.mem_of_getElem? (i := 1) rfl)
  clear hla
  generalize ([va_rf (some a0), .int a1] : List Value).toArray = args at C ⊢
  unfold wp_X12_nextReady at hw
  refine lv_iconst (v := (-1)) C.1 C.2.1 dX12_nextReady_0 (by decide) ?_
  refine m_istN C hL dX12_nextReady_1 rfl (by decide) (fun ls hL hn9 hk9 => ?_)
  have h0 := hk9 0 _ h0 (by decide) (Or.inl (by decide))
  have h1 := hk9 1 _ h1 (by decide) (Or.inr (rfl))
  have h2 := hn9
  refine lv_iconst (v := 0) C.1 C.2.1 dX12_nextReady_2 (by decide) ?_
  refine m_istN C hL dX12_nextReady_3 rfl (by decide) (fun ls hL hn9 hk9 => ?_)
  have h0 := hk9 0 _ h0 (by decide) (Or.inl (by decide))
  have h1 := hk9 1 _ h1 (by decide) (Or.inl (by decide))
  have h2 := hk9 2 _ h2 (by decide) (Or.inr (rfl))
  have h3 := hn9
  exact w_X12_nextReady_L4 C  FU S (-1) 0 H locs ls hW hS hL h0 h1 h2 h3 hw
def wp_X12_hands_L4 (l0 : Nat) (l1 : Int32) (l2 : Int32) (K25 : Hp → Prop) (Q : Int32 → Hp → Prop) : Nat → Hp → Int32 → Prop
  | 0, _, _ => False
  | n + 1, S, l3 => hK S l0 = 14 ∧ ((hI S l0 4) ≤ l3 → K25 S) ∧ (¬ ((hI S l0 4) ≤ l3) → ∃ b3 : Nat, (hR S l0 45) = some b3 ∧ hK S b3 = 17 ∧ vp_in l3 (hN S b3) ∧ wp_X12_hands_L4 l0 l1 l2 K25 Q n (sI S b3 (l3 : Int32).toNatClampNeg 0) (l3 + 1))
def wp_X12_hands_L42 (l0 : Nat) (l1 : Int32) (l3 : Int32) (K87 : Hp → Int32 → Prop) (Q : Int32 → Hp → Prop) : Nat → Hp → Int32 → Int32 → Prop
  | 0, _, _, _ => False
  | n + 1, S, l2, l4 => (l4 = (-1) → K87 S l2) ∧ (¬ (l4 = (-1)) → hK S l0 = 14 ∧ ∃ b14 : Nat, (hR S l0 45) = some b14 ∧ hK S b14 = 17 ∧ vp_in l4 (hN S b14) ∧ wp_X12_canBegin (sI S b14 (l4 : Int32).toNatClampNeg 1) l0 l4 (fun r18 S17 => (r18 = 0 → hK S17 l0 = 14 ∧ wp_X12_nextReady S17 l0 l3 (fun r22 S21 => wp_X12_hands_L42 l0 l1 l3 K87 Q n S21 l2 r22)) ∧ (¬ (r18 = 0) → (l1 = 0 → hK S17 l0 = 14 ∧ wp_X12_beginsWork S17 l0 l4 (fun S28 => hK S28 l0 = 14 ∧ wp_X12_nextReady S28 l0 l3 (fun r31 S30 => wp_X12_hands_L42 l0 l1 l3 K87 Q n S30 1 r31))) ∧ (¬ (l1 = 0) → hK S17 l0 = 14 ∧ wp_X12_nextReady S17 l0 l3 (fun r26 S25 => wp_X12_hands_L42 l0 l1 l3 K87 Q n S25 1 r26)))))
def wp_X12_hands_L27 (l0 : Nat) (l1 : Int32) (Q : Int32 → Hp → Prop) : Nat → Hp → Int32 → Int32 → Prop
  | 0, _, _, _ => False
  | n + 1, S, l2, l3 => hK S l0 = 14 ∧ ((hI S l0 1) ≤ l3 → (l2 = 0 ∨ l2 = 1) ∧ Q l2 S) ∧ (¬ ((hI S l0 1) ≤ l3) → wp_X12_nextReady S l0 l3 (fun r11 S10 => wp_X12_hands_L42 l0 l1 l3 (fun (S32 : Hp) (x33 : Int32) => wp_X12_hands_L27 l0 l1 Q n S32 x33 (l3 + 1)) Q FU S10 l2 r11))
def wp_X12_hands (S : Hp) (a0 : Nat) (a1 : Int32) (Q : Int32 → Hp → Prop) : Prop := wp_X12_hands_L4 a0 a1 0 (fun (S6 : Hp) => wp_X12_hands_L27 a0 a1 Q FU S6 0 0) Q FU S 0
set_option maxRecDepth 100000 in
set_option maxHeartbeats 4000000 in
theorem w_X12_hands_L4 {p : Program} {l : Launch} {e : Env} {s : State} {m : MethodId} {args : Array Value} {below : List Frame} {meth : Method} {c : Code} {G : GX} {Q : Int32 → Hp → Prop} {K25 : Hp → Prop} {l0 : Nat} {l1 : Int32} {l2 : Int32} (C : Cx p s m args meth c cX12_hands 5 RX12 (some .boolean) "hands" G)
    (k25 : ∀ (S : Hp) (H : Heap) (locs : List Loc) (ls : Array Slot), wd G S H → va_S G.2.2.1 s.heap H locs → LV ls 5 → ls[0]? = some (.val (va_rf (some l0))) → ls[1]? = some (.val (.int l1)) → ls[2]? = some (.val (.int l2)) → K25 S → W p l e ({ frames := 2, cells := 0, slots := 0, locals := 45 } : Room) s m args below meth c H locs 0 0 (MQ below (QI G Q) args s 0 0 G.2.2.1) (F0 m 25 ls [])) :
    ∀ (n : Nat) (S : Hp) (l3 : Int32) (H : Heap) (locs : List Loc) (ls : Array Slot), wd G S H → va_S G.2.2.1 s.heap H locs → LV ls 5 → ls[0]? = some (.val (va_rf (some l0))) → ls[1]? = some (.val (.int l1)) → ls[2]? = some (.val (.int l2)) → ls[3]? = some (.val (.int l3)) → wp_X12_hands_L4 l0 l1 l2 K25 Q n S l3 → W p l e ({ frames := 2, cells := 0, slots := 0, locals := 45 } : Room) s m args below meth c H locs 0 0 (MQ below (QI G Q) args s 0 0 G.2.2.1) (F0 m 4 ls []) := by
  intro n
  induction n with
  | zero =>
    intro S l3 H locs ls hW hS hL h0 h1 h2 h3 hw
    exact False.elim hw
  | succ n ih =>
    intro S l3 H locs ls hW hS hL h0 h1 h2 h3 hw
    unfold wp_X12_hands_L4 at hw
    refine lv_iload_n C.1 C.2.1 dX12_hands_4 rfl h3 ?_
    refine m_aldN C dX12_hands_5 rfl h0 ?_
    obtain ⟨hk1, hw⟩ := hw
    refine m_getI C hW rfl hk1 f_X12_128 rfl dX12_hands_6 ?_
    refine lv_icmp_ge (tgt := 25) C.1 C.2.1 dX12_hands_9 (by decide) (fun hc2 => ?_) (fun hc2 => ?_)
    · have hw := hw.1 hc2
      exact k25 S H locs ls hW hS hL h0 h1 h2 hw
    · have hw := hw.2 hc2
      refine m_aldN C dX12_hands_12 rfl h0 ?_
      refine m_getR C hW rfl hk1 f_X12_115 rfl dX12_hands_13 ?_
      refine lv_iload_n C.1 C.2.1 dX12_hands_16 rfl h3 ?_
      refine lv_iconst (v := 0) C.1 C.2.1 dX12_hands_17 (by decide) ?_
      obtain ⟨b3, ho3, hw⟩ := hw
      obtain ⟨hk4, hw⟩ := hw
      obtain ⟨hi5, hw⟩ := hw
      refine m_zast C hW hS ho3 hk4 hi5 (by decide) dX12_hands_18 (fun H locs hW hS => ?_)
      refine m_iinc (v := (l3 + 1)) C hL dX12_hands_19 h3 rfl (by decide) (fun ls hL hn9 hk9 => ?_)
      have h0 := hk9 0 _ h0 (by decide) (Or.inl (by decide))
      have h1 := hk9 1 _ h1 (by decide) (Or.inl (by decide))
      have h2 := hk9 2 _ h2 (by decide) (Or.inr (rfl))
      have h3 := hn9
      refine lv_goto (tgt := 4) C.1 C.2.1 dX12_hands_22 (by decide) ?_
      exact ih (sI S b3 (l3 : Int32).toNatClampNeg 0) (l3 + 1) H locs ls hW hS hL h0 h1 h2 h3 hw
set_option maxRecDepth 100000 in
set_option maxHeartbeats 4000000 in
theorem w_X12_hands_L42 {p : Program} {l : Launch} {e : Env} {s : State} {m : MethodId} {args : Array Value} {below : List Frame} {meth : Method} {c : Code} {G : GX} {Q : Int32 → Hp → Prop} {K87 : Hp → Int32 → Prop} {l0 : Nat} {l1 : Int32} {l3 : Int32} (C : Cx p s m args meth c cX12_hands 5 RX12 (some .boolean) "hands" G)
    (k87 : ∀ (S : Hp) (l2 : Int32) (H : Heap) (locs : List Loc) (ls : Array Slot), wd G S H → va_S G.2.2.1 s.heap H locs → LV ls 5 → ls[0]? = some (.val (va_rf (some l0))) → ls[1]? = some (.val (.int l1)) → ls[2]? = some (.val (.int l2)) → ls[3]? = some (.val (.int l3)) → K87 S l2 → W p l e ({ frames := 2, cells := 0, slots := 0, locals := 45 } : Room) s m args below meth c H locs 0 0 (MQ below (QI G Q) args s 0 0 G.2.2.1) (F0 m 87 ls [])) :
    ∀ (n : Nat) (S : Hp) (l2 : Int32) (l4 : Int32) (H : Heap) (locs : List Loc) (ls : Array Slot), wd G S H → va_S G.2.2.1 s.heap H locs → LV ls 5 → ls[0]? = some (.val (va_rf (some l0))) → ls[1]? = some (.val (.int l1)) → ls[2]? = some (.val (.int l2)) → ls[3]? = some (.val (.int l3)) → ls[4]? = some (.val (.int l4)) → wp_X12_hands_L42 l0 l1 l3 K87 Q n S l2 l4 → W p l e ({ frames := 2, cells := 0, slots := 0, locals := 45 } : Room) s m args below meth c H locs 0 0 (MQ below (QI G Q) args s 0 0 G.2.2.1) (F0 m 42 ls []) := by
  intro n
  induction n with
  | zero =>
    intro S l2 l4 H locs ls hW hS hL h0 h1 h2 h3 h4 hw
    exact False.elim hw
  | succ n ih =>
    intro S l2 l4 H locs ls hW hS hL h0 h1 h2 h3 h4 hw
    unfold wp_X12_hands_L42 at hw
    refine lv_iload C.1 C.2.1 dX12_hands_42 h4 ?_
    refine lv_iconst (v := (-1)) C.1 C.2.1 dX12_hands_44 (by decide) ?_
    refine lv_icmp_eq (tgt := 87) C.1 C.2.1 dX12_hands_45 (by decide) (fun hc12 => ?_) (fun hc12 => ?_)
    · have hw := hw.1 hc12
      exact k87 S l2 H locs ls hW hS hL h0 h1 h2 h3 hw
    · have hw := hw.2 hc12
      refine m_aldN C dX12_hands_48 rfl h0 ?_
      obtain ⟨hk13, hw⟩ := hw
      refine m_getR C hW rfl hk13 f_X12_115 rfl dX12_hands_49 ?_
      refine lv_iload C.1 C.2.1 dX12_hands_52 h4 ?_
      refine lv_iconst (v := 1) C.1 C.2.1 dX12_hands_54 (by decide) ?_
      obtain ⟨b14, ho14, hw⟩ := hw
      obtain ⟨hk15, hw⟩ := hw
      obtain ⟨hi16, hw⟩ := hw
      refine m_zast C hW hS ho14 hk15 hi16 (by decide) dX12_hands_55 (fun H locs hW hS => ?_)
      refine m_aldN C dX12_hands_56 rfl h0 ?_
      refine lv_iload C.1 C.2.1 dX12_hands_57 h4 ?_
      refine m_rI (m_runV (As := [.int l4]) (rest := []) C hW hS hL (c_X12_canBegin hw) v_X12_237 ⟨rfl, rfl⟩ ⟨Nat.le_of_ble_eq_true rfl, Nat.le_of_ble_eq_true rfl⟩ rfl hk13 rfl rfl (Nat.le_of_ble_eq_true rfl) dX12_hands_59 ⟨Nat.le_of_ble_eq_true rfl, Nat.le_of_ble_eq_true rfl⟩) hS (fun r18 S17 H locs hw hW hS => ?_)
      refine lv_if_eq (tgt := 77) C.1 C.2.1 dX12_hands_62 (by decide) (fun hc19 => ?_) (fun hc19 => ?_)
      · have hw := hw.1 hc19
        refine m_aldN C dX12_hands_77 rfl h0 ?_
        refine lv_iload_n C.1 C.2.1 dX12_hands_78 rfl h3 ?_
        obtain ⟨hk20, hw⟩ := hw
        refine m_rI (m_runV (As := [.int l3]) (rest := []) C hW hS hL (c_X12_nextReady hw) v_X12_234 ⟨rfl, rfl⟩ ⟨Nat.le_of_ble_eq_true rfl, Nat.le_of_ble_eq_true rfl⟩ rfl hk20 rfl rfl (Nat.le_of_ble_eq_true rfl) dX12_hands_79 ⟨Nat.le_of_ble_eq_true rfl, Nat.le_of_ble_eq_true rfl⟩) hS (fun r22 S21 H locs hw hW hS => ?_)
        refine m_ist C hL dX12_hands_82 (by decide) (fun ls hL hn9 hk9 => ?_)
        have h0 := hk9 0 _ h0 (by decide) (Or.inl (by decide))
        have h1 := hk9 1 _ h1 (by decide) (Or.inl (by decide))
        have h3 := hk9 3 _ h3 (by decide) (Or.inr (rfl))
        have h2 := hk9 2 _ h2 (by decide) (Or.inl (by decide))
        have h4 := hn9
        refine lv_goto (tgt := 42) C.1 C.2.1 dX12_hands_84 (by decide) ?_
        exact ih S21 l2 r22 H locs ls hW hS hL h0 h1 h2 h3 h4 hw
      · have hw := hw.2 hc19
        refine lv_iconst (v := 1) C.1 C.2.1 dX12_hands_65 (by decide) ?_
        refine m_istN C hL dX12_hands_66 rfl (by decide) (fun ls hL hn9 hk9 => ?_)
        have h0 := hk9 0 _ h0 (by decide) (Or.inl (by decide))
        have h1 := hk9 1 _ h1 (by decide) (Or.inr (rfl))
        have h3 := hk9 3 _ h3 (by decide) (Or.inl (by decide))
        have h4 := hk9 4 _ h4 (by decide) (Or.inl (by decide))
        have h2 := hn9
        refine lv_iload_n C.1 C.2.1 dX12_hands_67 rfl h1 ?_
        refine lv_if_ne (tgt := 77) C.1 C.2.1 dX12_hands_68 (by decide) (fun hc23 => ?_) (fun hc23 => ?_)
        · have hw := hw.2 hc23
          refine m_aldN C dX12_hands_77 rfl h0 ?_
          refine lv_iload_n C.1 C.2.1 dX12_hands_78 rfl h3 ?_
          obtain ⟨hk24, hw⟩ := hw
          refine m_rI (m_runV (As := [.int l3]) (rest := []) C hW hS hL (c_X12_nextReady hw) v_X12_234 ⟨rfl, rfl⟩ ⟨Nat.le_of_ble_eq_true rfl, Nat.le_of_ble_eq_true rfl⟩ rfl hk24 rfl rfl (Nat.le_of_ble_eq_true rfl) dX12_hands_79 ⟨Nat.le_of_ble_eq_true rfl, Nat.le_of_ble_eq_true rfl⟩) hS (fun r26 S25 H locs hw hW hS => ?_)
          refine m_ist C hL dX12_hands_82 (by decide) (fun ls hL hn9 hk9 => ?_)
          have h0 := hk9 0 _ h0 (by decide) (Or.inl (by decide))
          have h1 := hk9 1 _ h1 (by decide) (Or.inl (by decide))
          have h3 := hk9 3 _ h3 (by decide) (Or.inr (rfl))
          have h2 := hk9 2 _ h2 (by decide) (Or.inl (by decide))
          have h4 := hn9
          refine lv_goto (tgt := 42) C.1 C.2.1 dX12_hands_84 (by decide) ?_
          exact ih S25 1 r26 H locs ls hW hS hL h0 h1 h2 h3 h4 hw
        · have hw := hw.1 hc23
          refine m_aldN C dX12_hands_71 rfl h0 ?_
          refine lv_iload C.1 C.2.1 dX12_hands_72 h4 ?_
          obtain ⟨hk27, hw⟩ := hw
          refine m_rV (m_runV (As := [.int l4]) (rest := []) C hW hS hL (c_X12_beginsWork hw) v_X12_240 ⟨rfl, rfl⟩ ⟨Nat.le_of_ble_eq_true rfl, Nat.le_of_ble_eq_true rfl⟩ rfl hk27 rfl rfl (Nat.le_of_ble_eq_true rfl) dX12_hands_74 ⟨Nat.le_of_ble_eq_true rfl, Nat.le_of_ble_eq_true rfl⟩) hS (fun S28 H locs hw hW hS => ?_)
          refine m_aldN C dX12_hands_77 rfl h0 ?_
          refine lv_iload_n C.1 C.2.1 dX12_hands_78 rfl h3 ?_
          obtain ⟨hk29, hw⟩ := hw
          refine m_rI (m_runV (As := [.int l3]) (rest := []) C hW hS hL (c_X12_nextReady hw) v_X12_234 ⟨rfl, rfl⟩ ⟨Nat.le_of_ble_eq_true rfl, Nat.le_of_ble_eq_true rfl⟩ rfl hk29 rfl rfl (Nat.le_of_ble_eq_true rfl) dX12_hands_79 ⟨Nat.le_of_ble_eq_true rfl, Nat.le_of_ble_eq_true rfl⟩) hS (fun r31 S30 H locs hw hW hS => ?_)
          refine m_ist C hL dX12_hands_82 (by decide) (fun ls hL hn9 hk9 => ?_)
          have h0 := hk9 0 _ h0 (by decide) (Or.inl (by decide))
          have h1 := hk9 1 _ h1 (by decide) (Or.inl (by decide))
          have h3 := hk9 3 _ h3 (by decide) (Or.inr (rfl))
          have h2 := hk9 2 _ h2 (by decide) (Or.inl (by decide))
          have h4 := hn9
          refine lv_goto (tgt := 42) C.1 C.2.1 dX12_hands_84 (by decide) ?_
          exact ih S30 1 r31 H locs ls hW hS hL h0 h1 h2 h3 h4 hw
set_option maxRecDepth 100000 in
set_option maxHeartbeats 4000000 in
theorem w_X12_hands_L27 {p : Program} {l : Launch} {e : Env} {s : State} {m : MethodId} {args : Array Value} {below : List Frame} {meth : Method} {c : Code} {G : GX} {Q : Int32 → Hp → Prop} {l0 : Nat} {l1 : Int32} (C : Cx p s m args meth c cX12_hands 5 RX12 (some .boolean) "hands" G) :
    ∀ (n : Nat) (S : Hp) (l2 : Int32) (l3 : Int32) (H : Heap) (locs : List Loc) (ls : Array Slot), wd G S H → va_S G.2.2.1 s.heap H locs → LV ls 5 → ls[0]? = some (.val (va_rf (some l0))) → ls[1]? = some (.val (.int l1)) → ls[2]? = some (.val (.int l2)) → ls[3]? = some (.val (.int l3)) → wp_X12_hands_L27 l0 l1 Q n S l2 l3 → W p l e ({ frames := 2, cells := 0, slots := 0, locals := 45 } : Room) s m args below meth c H locs 0 0 (MQ below (QI G Q) args s 0 0 G.2.2.1) (F0 m 27 ls []) := by
  intro n
  induction n with
  | zero =>
    intro S l2 l3 H locs ls hW hS hL h0 h1 h2 h3 hw
    exact False.elim hw
  | succ n ih =>
    intro S l2 l3 H locs ls hW hS hL h0 h1 h2 h3 hw
    unfold wp_X12_hands_L27 at hw
    refine lv_iload_n C.1 C.2.1 dX12_hands_27 rfl h3 ?_
    refine m_aldN C dX12_hands_28 rfl h0 ?_
    obtain ⟨hk7, hw⟩ := hw
    refine m_getI C hW rfl hk7 f_X12_135 rfl dX12_hands_29 ?_
    refine lv_icmp_ge (tgt := 93) C.1 C.2.1 dX12_hands_32 (by decide) (fun hc8 => ?_) (fun hc8 => ?_)
    · have hw := hw.1 hc8
      refine lv_iload_n C.1 C.2.1 dX12_hands_93 rfl h2 ?_
      obtain ⟨hz9, hw⟩ := hw
      exact m_zret C hW hS hz9 hw dX12_hands_94
    · have hw := hw.2 hc8
      refine m_aldN C dX12_hands_35 rfl h0 ?_
      refine lv_iload_n C.1 C.2.1 dX12_hands_36 rfl h3 ?_
      refine m_rI (m_runV (As := [.int l3]) (rest := []) C hW hS hL (c_X12_nextReady hw) v_X12_234 ⟨rfl, rfl⟩ ⟨Nat.le_of_ble_eq_true rfl, Nat.le_of_ble_eq_true rfl⟩ rfl hk7 rfl rfl (Nat.le_of_ble_eq_true rfl) dX12_hands_37 ⟨Nat.le_of_ble_eq_true rfl, Nat.le_of_ble_eq_true rfl⟩) hS (fun r11 S10 H locs hw hW hS => ?_)
      refine m_ist C hL dX12_hands_40 (by decide) (fun ls hL hn9 hk9 => ?_)
      have h0 := hk9 0 _ h0 (by decide) (Or.inl (by decide))
      have h1 := hk9 1 _ h1 (by decide) (Or.inl (by decide))
      have h2 := hk9 2 _ h2 (by decide) (Or.inl (by decide))
      have h3 := hk9 3 _ h3 (by decide) (Or.inr (rfl))
      have h4 := hn9
      refine w_X12_hands_L42 C ?_ FU S10 l2 r11 H locs ls hW hS hL h0 h1 h2 h3 h4 hw
      · intro S32 x33 H locs ls hW hS hL h0 h1 h2 h3 hw
        refine m_iinc (v := (l3 + 1)) C hL dX12_hands_87 h3 rfl (by decide) (fun ls hL hn9 hk9 => ?_)
        have h0 := hk9 0 _ h0 (by decide) (Or.inl (by decide))
        have h1 := hk9 1 _ h1 (by decide) (Or.inl (by decide))
        have h2 := hk9 2 _ h2 (by decide) (Or.inr (rfl))
        have h3 := hn9
        refine lv_goto (tgt := 27) C.1 C.2.1 dX12_hands_90 (by decide) ?_
        exact ih S32 x33 (l3 + 1) H locs ls hW hS hL h0 h1 h2 h3 hw
set_option maxRecDepth 100000 in
set_option maxHeartbeats 4000000 in
theorem c_X12_hands {l : Launch} {G : GX} {S : Hp} {a0 : Nat} {a1 : Int32} {Q : Int32 → Hp → Prop} (hw : wp_X12_hands S a0 a1 Q) : Met l yX12_hands (Cond.code yX12_hands cX12_hands 5 (some .boolean) :: TS) { frames := 2, cells := 0, slots := 0, locals := 45 } (Pk G S [va_rf (some a0), .int a1]) (QI G Q) 0 0 G.2.2.1 := by
  refine m_met (by decide) ?_
  intro p e s m below meth c H locs C hW hS
  have C : Cx p s m ([va_rf (some a0), .int a1] : List Value).toArray meth c cX12_hands 5 RX12 (some .boolean) "hands" G := C
  obtain ⟨ls, hent, hL, hla⟩ := m_entry m (vs := [va_rf (some a0), .int a1]) (nn := 5) [1, 1] rfl (by decide)
  rw [hent]
  have h0 : ls[0]? = some (.val (va_rf (some a0))) := hla (0, va_rf (some a0)) (List.mem_of_getElem? (i := 0) rfl)
  have h1 : ls[1]? = some (.val (.int a1)) := hla (1, .int a1) (List.mem_of_getElem? (i := 1) rfl)
  clear hla
  generalize ([va_rf (some a0), .int a1] : List Value).toArray = args at C ⊢
  unfold wp_X12_hands at hw
  refine lv_iconst (v := 0) C.1 C.2.1 dX12_hands_0 (by decide) ?_
  refine m_istN C hL dX12_hands_1 rfl (by decide) (fun ls hL hn9 hk9 => ?_)
  have h0 := hk9 0 _ h0 (by decide) (Or.inl (by decide))
  have h1 := hk9 1 _ h1 (by decide) (Or.inr (rfl))
  have h2 := hn9
  refine lv_iconst (v := 0) C.1 C.2.1 dX12_hands_2 (by decide) ?_
  refine m_istN C hL dX12_hands_3 rfl (by decide) (fun ls hL hn9 hk9 => ?_)
  have h0 := hk9 0 _ h0 (by decide) (Or.inl (by decide))
  have h1 := hk9 1 _ h1 (by decide) (Or.inl (by decide))
  have h2 := hk9 2 _ h2 (by decide) (Or.inr (rfl))
  have h3 := hn9
  refine w_X12_hands_L4 C ?_ FU S 0 H locs ls hW hS hL h0 h1 h2 h3 hw
  · intro S6 H locs ls hW hS hL h0 h1 h2 hw
    refine lv_iconst (v := 0) C.1 C.2.1 dX12_hands_25 (by decide) ?_
    refine m_istN C hL dX12_hands_26 rfl (by decide) (fun ls hL hn9 hk9 => ?_)
    have h0 := hk9 0 _ h0 (by decide) (Or.inl (by decide))
    have h1 := hk9 1 _ h1 (by decide) (Or.inl (by decide))
    have h2 := hk9 2 _ h2 (by decide) (Or.inr (rfl))
    have h3 := hn9
    exact w_X12_hands_L27 C  FU S6 0 0 H locs ls hW hS hL h0 h1 h2 h3 hw
def wp_X12_isAnyAtWork_L2 (S : Hp) (l0 : Nat) (Q : Int32 → Hp → Prop) : Nat → Int32 → Prop
  | 0, _ => False
  | n + 1, l1 => hK S l0 = 14 ∧ ((hI S l0 4) ≤ l1 → Q 0 S) ∧ (¬ ((hI S l0 4) ≤ l1) → ∃ b3 : Nat, (hR S l0 26) = some b3 ∧ hK S b3 = 15 ∧ vp_in l1 (hN S b3) ∧ ((hI S b3 (l1 : Int32).toNatClampNeg) = 6 → Q 1 S) ∧ (¬ ((hI S b3 (l1 : Int32).toNatClampNeg) = 6) → wp_X12_isAnyAtWork_L2 S l0 Q n (l1 + 1)))
def wp_X12_isAnyAtWork (S : Hp) (a0 : Nat) (Q : Int32 → Hp → Prop) : Prop := wp_X12_isAnyAtWork_L2 S a0 Q FU 0
set_option maxRecDepth 100000 in
set_option maxHeartbeats 4000000 in
theorem w_X12_isAnyAtWork_L2 {p : Program} {l : Launch} {e : Env} {s : State} {m : MethodId} {args : Array Value} {below : List Frame} {meth : Method} {c : Code} {G : GX} {Q : Int32 → Hp → Prop} {l0 : Nat} {S : Hp} {H : Heap} {locs : List Loc} (C : Cx p s m args meth c cX12_isAnyAtWork 2 RX12 (some .boolean) "isAnyAtWork" G) (hW : wd G S H) (hS : va_S G.2.2.1 s.heap H locs) :
    ∀ (n : Nat) (l1 : Int32) (ls : Array Slot), LV ls 2 → ls[0]? = some (.val (va_rf (some l0))) → ls[1]? = some (.val (.int l1)) → wp_X12_isAnyAtWork_L2 S l0 Q n l1 → W p l e ({ frames := 0, cells := 0, slots := 0, locals := 0 } : Room) s m args below meth c H locs 0 0 (MQ below (QI G Q) args s 0 0 G.2.2.1) (F0 m 2 ls []) := by
  intro n
  induction n with
  | zero =>
    intro l1 ls hL h0 h1 hw
    exact False.elim hw
  | succ n ih =>
    intro l1 ls hL h0 h1 hw
    unfold wp_X12_isAnyAtWork_L2 at hw
    refine lv_iload_n C.1 C.2.1 dX12_isAnyAtWork_2 rfl h1 ?_
    refine m_aldN C dX12_isAnyAtWork_3 rfl h0 ?_
    obtain ⟨hk1, hw⟩ := hw
    refine m_getI C hW rfl hk1 f_X12_128 rfl dX12_isAnyAtWork_4 ?_
    refine lv_icmp_ge (tgt := 29) C.1 C.2.1 dX12_isAnyAtWork_7 (by decide) (fun hc2 => ?_) (fun hc2 => ?_)
    · have hw := hw.1 hc2
      refine lv_iconst (v := 0) C.1 C.2.1 dX12_isAnyAtWork_29 (by decide) ?_
      exact m_zret C hW hS (by decide) hw dX12_isAnyAtWork_30
    · have hw := hw.2 hc2
      refine m_aldN C dX12_isAnyAtWork_10 rfl h0 ?_
      refine m_getR C hW rfl hk1 f_X12_63 rfl dX12_isAnyAtWork_11 ?_
      refine lv_iload_n C.1 C.2.1 dX12_isAnyAtWork_14 rfl h1 ?_
      obtain ⟨b3, ho3, hw⟩ := hw
      obtain ⟨hk4, hw⟩ := hw
      obtain ⟨hi5, hw⟩ := hw
      refine m_iald C hW ho3 hk4 hi5 dX12_isAnyAtWork_15 ?_
      refine lv_bipush (v := 6) C.1 C.2.1 dX12_isAnyAtWork_16 (by decide) ?_
      refine lv_icmp_ne (tgt := 23) C.1 C.2.1 dX12_isAnyAtWork_18 (by decide) (fun hc6 => ?_) (fun hc6 => ?_)
      · have hw := hw.2 hc6
        refine m_iinc (v := (l1 + 1)) C hL dX12_isAnyAtWork_23 h1 rfl (by decide) (fun ls hL hn9 hk9 => ?_)
        have h0 := hk9 0 _ h0 (by decide) (Or.inr (va_rf_cat _))
        have h1 := hn9
        refine lv_goto (tgt := 2) C.1 C.2.1 dX12_isAnyAtWork_26 (by decide) ?_
        exact ih (l1 + 1) ls hL h0 h1 hw
      · have hw := hw.1 hc6
        refine lv_iconst (v := 1) C.1 C.2.1 dX12_isAnyAtWork_21 (by decide) ?_
        exact m_zret C hW hS (by decide) hw dX12_isAnyAtWork_22
set_option maxRecDepth 100000 in
set_option maxHeartbeats 4000000 in
theorem c_X12_isAnyAtWork {l : Launch} {G : GX} {S : Hp} {a0 : Nat} {Q : Int32 → Hp → Prop} (hw : wp_X12_isAnyAtWork S a0 Q) : Met l yX12_isAnyAtWork (Cond.code yX12_isAnyAtWork cX12_isAnyAtWork 2 (some .boolean) :: TS) { frames := 0, cells := 0, slots := 0, locals := 0 } (Pk G S [va_rf (some a0)]) (QI G Q) 0 0 G.2.2.1 := by
  refine m_met (by decide) ?_
  intro p e s m below meth c H locs C hW hS
  have C : Cx p s m ([va_rf (some a0)] : List Value).toArray meth c cX12_isAnyAtWork 2 RX12 (some .boolean) "isAnyAtWork" G := C
  obtain ⟨ls, hent, hL, hla⟩ := m_entry m (vs := [va_rf (some a0)]) (nn := 2) [1] rfl (by decide)
  rw [hent]
  have h0 : ls[0]? = some (.val (va_rf (some a0))) := hla (0, va_rf (some a0)) (List.mem_of_getElem? (i := 0) rfl)
  clear hla
  generalize ([va_rf (some a0)] : List Value).toArray = args at C ⊢
  unfold wp_X12_isAnyAtWork at hw
  refine lv_iconst (v := 0) C.1 C.2.1 dX12_isAnyAtWork_0 (by decide) ?_
  refine m_istN C hL dX12_isAnyAtWork_1 rfl (by decide) (fun ls hL hn9 hk9 => ?_)
  have h0 := hk9 0 _ h0 (by decide) (Or.inr (va_rf_cat _))
  have h1 := hn9
  exact w_X12_isAnyAtWork_L2 C hW hS  FU 0 ls hL h0 h1 hw
def wp_X12_neverBegin_L2 (l0 : Nat) (Q : Hp → Prop) : Nat → Hp → Int32 → Prop
  | 0, _, _ => False
  | n + 1, S, l1 => hK S l0 = 14 ∧ ((hI S l0 4) ≤ l1 → Q S) ∧ (¬ ((hI S l0 4) ≤ l1) → ∃ b3 : Nat, (hR S l0 26) = some b3 ∧ hK S b3 = 15 ∧ vp_in l1 (hN S b3) ∧ ((hI S b3 (l1 : Int32).toNatClampNeg) = 0 → vp_in l1 (hN S b3) ∧ wp_X12_tells (sI S b3 (l1 : Int32).toNatClampNeg 5) l0 l1 6 (fun S8 => wp_X12_neverBegin_L2 l0 Q n S8 (l1 + 1))) ∧ (¬ ((hI S b3 (l1 : Int32).toNatClampNeg) = 0) → wp_X12_neverBegin_L2 l0 Q n S (l1 + 1)))
def wp_X12_neverBegin (S : Hp) (a0 : Nat) (Q : Hp → Prop) : Prop := wp_X12_neverBegin_L2 a0 Q FU S 0
set_option maxRecDepth 100000 in
set_option maxHeartbeats 4000000 in
theorem w_X12_neverBegin_L2 {p : Program} {l : Launch} {e : Env} {s : State} {m : MethodId} {args : Array Value} {below : List Frame} {meth : Method} {c : Code} {G : GX} {Q : Hp → Prop} {l0 : Nat} (C : Cx p s m args meth c cX12_neverBegin 2 RX12 none "neverBegin" G) :
    ∀ (n : Nat) (S : Hp) (l1 : Int32) (H : Heap) (locs : List Loc) (ls : Array Slot), wd G S H → va_S G.2.2.1 s.heap H locs → LV ls 2 → ls[0]? = some (.val (va_rf (some l0))) → ls[1]? = some (.val (.int l1)) → wp_X12_neverBegin_L2 l0 Q n S l1 → W p l e ({ frames := 1, cells := 0, slots := 0, locals := 22 } : Room) s m args below meth c H locs 0 0 (MQ below (QV G Q) args s 0 0 G.2.2.1) (F0 m 2 ls []) := by
  intro n
  induction n with
  | zero =>
    intro S l1 H locs ls hW hS hL h0 h1 hw
    exact False.elim hw
  | succ n ih =>
    intro S l1 H locs ls hW hS hL h0 h1 hw
    unfold wp_X12_neverBegin_L2 at hw
    refine lv_iload_n C.1 C.2.1 dX12_neverBegin_2 rfl h1 ?_
    refine m_aldN C dX12_neverBegin_3 rfl h0 ?_
    obtain ⟨hk1, hw⟩ := hw
    refine m_getI C hW rfl hk1 f_X12_128 rfl dX12_neverBegin_4 ?_
    refine lv_icmp_ge (tgt := 42) C.1 C.2.1 dX12_neverBegin_7 (by decide) (fun hc2 => ?_) (fun hc2 => ?_)
    · have hw := hw.1 hc2
      exact m_vret C hW hS hw dX12_neverBegin_42
    · have hw := hw.2 hc2
      refine m_aldN C dX12_neverBegin_10 rfl h0 ?_
      refine m_getR C hW rfl hk1 f_X12_63 rfl dX12_neverBegin_11 ?_
      refine lv_iload_n C.1 C.2.1 dX12_neverBegin_14 rfl h1 ?_
      obtain ⟨b3, ho3, hw⟩ := hw
      obtain ⟨hk4, hw⟩ := hw
      obtain ⟨hi5, hw⟩ := hw
      refine m_iald C hW ho3 hk4 hi5 dX12_neverBegin_15 ?_
      refine lv_if_eq (tgt := 22) C.1 C.2.1 dX12_neverBegin_16 (by decide) (fun hc6 => ?_) (fun hc6 => ?_)
      · have hw := hw.1 hc6
        refine m_aldN C dX12_neverBegin_22 rfl h0 ?_
        refine m_getR C hW rfl hk1 f_X12_63 rfl dX12_neverBegin_23 ?_
        refine lv_iload_n C.1 C.2.1 dX12_neverBegin_26 rfl h1 ?_
        refine lv_iconst (v := 5) C.1 C.2.1 dX12_neverBegin_27 (by decide) ?_
        obtain ⟨hi7, hw⟩ := hw
        refine m_iast C hW hS ho3 hk4 hi7 dX12_neverBegin_28 (fun H locs hW hS => ?_)
        refine m_aldN C dX12_neverBegin_29 rfl h0 ?_
        refine lv_iload_n C.1 C.2.1 dX12_neverBegin_30 rfl h1 ?_
        refine lv_bipush (v := 6) C.1 C.2.1 dX12_neverBegin_31 (by decide) ?_
        refine m_rV (m_runV (As := [.int l1, .int 6]) (rest := []) C hW hS hL (c_X12_tells hw) v_X12_211 ⟨rfl, rfl⟩ ⟨Nat.le_of_ble_eq_true rfl, Nat.le_of_ble_eq_true rfl⟩ rfl hk1 rfl rfl (Nat.le_of_ble_eq_true rfl) dX12_neverBegin_33 ⟨Nat.le_of_ble_eq_true rfl, Nat.le_of_ble_eq_true rfl⟩) hS (fun S8 H locs hw hW hS => ?_)
        refine m_iinc (v := (l1 + 1)) C hL dX12_neverBegin_36 h1 rfl (by decide) (fun ls hL hn9 hk9 => ?_)
        have h0 := hk9 0 _ h0 (by decide) (Or.inr (va_rf_cat _))
        have h1 := hn9
        refine lv_goto (tgt := 2) C.1 C.2.1 dX12_neverBegin_39 (by decide) ?_
        exact ih S8 (l1 + 1) H locs ls hW hS hL h0 h1 hw
      · have hw := hw.2 hc6
        refine lv_goto (tgt := 36) C.1 C.2.1 dX12_neverBegin_19 (by decide) ?_
        refine m_iinc (v := (l1 + 1)) C hL dX12_neverBegin_36 h1 rfl (by decide) (fun ls hL hn9 hk9 => ?_)
        have h0 := hk9 0 _ h0 (by decide) (Or.inr (va_rf_cat _))
        have h1 := hn9
        refine lv_goto (tgt := 2) C.1 C.2.1 dX12_neverBegin_39 (by decide) ?_
        exact ih S (l1 + 1) H locs ls hW hS hL h0 h1 hw
set_option maxRecDepth 100000 in
set_option maxHeartbeats 4000000 in
theorem c_X12_neverBegin {l : Launch} {G : GX} {S : Hp} {a0 : Nat} {Q : Hp → Prop} (hw : wp_X12_neverBegin S a0 Q) : Met l yX12_neverBegin (Cond.code yX12_neverBegin cX12_neverBegin 2 none :: TS) { frames := 1, cells := 0, slots := 0, locals := 22 } (Pk G S [va_rf (some a0)]) (QV G Q) 0 0 G.2.2.1 := by
  refine m_met (by decide) ?_
  intro p e s m below meth c H locs C hW hS
  have C : Cx p s m ([va_rf (some a0)] : List Value).toArray meth c cX12_neverBegin 2 RX12 none "neverBegin" G := C
  obtain ⟨ls, hent, hL, hla⟩ := m_entry m (vs := [va_rf (some a0)]) (nn := 2) [1] rfl (by decide)
  rw [hent]
  have h0 : ls[0]? = some (.val (va_rf (some a0))) := hla (0, va_rf (some a0)) (List.mem_of_getElem? (i := 0) rfl)
  clear hla
  generalize ([va_rf (some a0)] : List Value).toArray = args at C ⊢
  unfold wp_X12_neverBegin at hw
  refine lv_iconst (v := 0) C.1 C.2.1 dX12_neverBegin_0 (by decide) ?_
  refine m_istN C hL dX12_neverBegin_1 rfl (by decide) (fun ls hL hn9 hk9 => ?_)
  have h0 := hk9 0 _ h0 (by decide) (Or.inr (va_rf_cat _))
  have h1 := hn9
  exact w_X12_neverBegin_L2 C  FU S 0 H locs ls hW hS hL h0 h1 hw
def wp_X12_areAllDone_L2 (S : Hp) (l0 : Nat) (Q : Int32 → Hp → Prop) : Nat → Int32 → Prop
  | 0, _ => False
  | n + 1, l1 => hK S l0 = 14 ∧ ((hI S l0 4) ≤ l1 → Q 1 S) ∧ (¬ ((hI S l0 4) ≤ l1) → ∃ b3 : Nat, (hR S l0 26) = some b3 ∧ hK S b3 = 15 ∧ vp_in l1 (hN S b3) ∧ ((hI S b3 (l1 : Int32).toNatClampNeg) = 1 → wp_X12_areAllDone_L2 S l0 Q n (l1 + 1)) ∧ (¬ ((hI S b3 (l1 : Int32).toNatClampNeg) = 1) → Q 0 S))
def wp_X12_areAllDone (S : Hp) (a0 : Nat) (Q : Int32 → Hp → Prop) : Prop := wp_X12_areAllDone_L2 S a0 Q FU 0
set_option maxRecDepth 100000 in
set_option maxHeartbeats 4000000 in
theorem w_X12_areAllDone_L2 {p : Program} {l : Launch} {e : Env} {s : State} {m : MethodId} {args : Array Value} {below : List Frame} {meth : Method} {c : Code} {G : GX} {Q : Int32 → Hp → Prop} {l0 : Nat} {S : Hp} {H : Heap} {locs : List Loc} (C : Cx p s m args meth c cX12_areAllDone 2 RX12 (some .boolean) "areAllDone" G) (hW : wd G S H) (hS : va_S G.2.2.1 s.heap H locs) :
    ∀ (n : Nat) (l1 : Int32) (ls : Array Slot), LV ls 2 → ls[0]? = some (.val (va_rf (some l0))) → ls[1]? = some (.val (.int l1)) → wp_X12_areAllDone_L2 S l0 Q n l1 → W p l e ({ frames := 0, cells := 0, slots := 0, locals := 0 } : Room) s m args below meth c H locs 0 0 (MQ below (QI G Q) args s 0 0 G.2.2.1) (F0 m 2 ls []) := by
  intro n
  induction n with
  | zero =>
    intro l1 ls hL h0 h1 hw
    exact False.elim hw
  | succ n ih =>
    intro l1 ls hL h0 h1 hw
    unfold wp_X12_areAllDone_L2 at hw
    refine lv_iload_n C.1 C.2.1 dX12_areAllDone_2 rfl h1 ?_
    refine m_aldN C dX12_areAllDone_3 rfl h0 ?_
    obtain ⟨hk1, hw⟩ := hw
    refine m_getI C hW rfl hk1 f_X12_128 rfl dX12_areAllDone_4 ?_
    refine lv_icmp_ge (tgt := 28) C.1 C.2.1 dX12_areAllDone_7 (by decide) (fun hc2 => ?_) (fun hc2 => ?_)
    · have hw := hw.1 hc2
      refine lv_iconst (v := 1) C.1 C.2.1 dX12_areAllDone_28 (by decide) ?_
      exact m_zret C hW hS (by decide) hw dX12_areAllDone_29
    · have hw := hw.2 hc2
      refine m_aldN C dX12_areAllDone_10 rfl h0 ?_
      refine m_getR C hW rfl hk1 f_X12_63 rfl dX12_areAllDone_11 ?_
      refine lv_iload_n C.1 C.2.1 dX12_areAllDone_14 rfl h1 ?_
      obtain ⟨b3, ho3, hw⟩ := hw
      obtain ⟨hk4, hw⟩ := hw
      obtain ⟨hi5, hw⟩ := hw
      refine m_iald C hW ho3 hk4 hi5 dX12_areAllDone_15 ?_
      refine lv_iconst (v := 1) C.1 C.2.1 dX12_areAllDone_16 (by decide) ?_
      refine lv_icmp_eq (tgt := 22) C.1 C.2.1 dX12_areAllDone_17 (by decide) (fun hc6 => ?_) (fun hc6 => ?_)
      · have hw := hw.1 hc6
        refine m_iinc (v := (l1 + 1)) C hL dX12_areAllDone_22 h1 rfl (by decide) (fun ls hL hn9 hk9 => ?_)
        have h0 := hk9 0 _ h0 (by decide) (Or.inr (va_rf_cat _))
        have h1 := hn9
        refine lv_goto (tgt := 2) C.1 C.2.1 dX12_areAllDone_25 (by decide) ?_
        exact ih (l1 + 1) ls hL h0 h1 hw
      · have hw := hw.2 hc6
        refine lv_iconst (v := 0) C.1 C.2.1 dX12_areAllDone_20 (by decide) ?_
        exact m_zret C hW hS (by decide) hw dX12_areAllDone_21
set_option maxRecDepth 100000 in
set_option maxHeartbeats 4000000 in
theorem c_X12_areAllDone {l : Launch} {G : GX} {S : Hp} {a0 : Nat} {Q : Int32 → Hp → Prop} (hw : wp_X12_areAllDone S a0 Q) : Met l yX12_areAllDone (Cond.code yX12_areAllDone cX12_areAllDone 2 (some .boolean) :: TS) { frames := 0, cells := 0, slots := 0, locals := 0 } (Pk G S [va_rf (some a0)]) (QI G Q) 0 0 G.2.2.1 := by
  refine m_met (by decide) ?_
  intro p e s m below meth c H locs C hW hS
  have C : Cx p s m ([va_rf (some a0)] : List Value).toArray meth c cX12_areAllDone 2 RX12 (some .boolean) "areAllDone" G := C
  obtain ⟨ls, hent, hL, hla⟩ := m_entry m (vs := [va_rf (some a0)]) (nn := 2) [1] rfl (by decide)
  rw [hent]
  have h0 : ls[0]? = some (.val (va_rf (some a0))) := hla (0, va_rf (some a0)) (List.mem_of_getElem? (i := 0) rfl)
  clear hla
  generalize ([va_rf (some a0)] : List Value).toArray = args at C ⊢
  unfold wp_X12_areAllDone at hw
  refine lv_iconst (v := 0) C.1 C.2.1 dX12_areAllDone_0 (by decide) ?_
  refine m_istN C hL dX12_areAllDone_1 rfl (by decide) (fun ls hL hn9 hk9 => ?_)
  have h0 := hk9 0 _ h0 (by decide) (Or.inr (va_rf_cat _))
  have h1 := hn9
  exact w_X12_areAllDone_L2 C hW hS  FU 0 ls hL h0 h1 hw
def wp_X12_goesOn_L2 (l0 : Nat) (l1 : Int32) (K44 : Hp → Prop) (Q : Int32 → Hp → Prop) : Nat → Hp → Int32 → Prop
  | 0, _, _ => False
  | n + 1, S, l2 => hK S l0 = 14 ∧ ((hI S l0 4) ≤ l2 → K44 S) ∧ (¬ ((hI S l0 4) ≤ l2) → ∃ b3 : Nat, (hR S l0 26) = some b3 ∧ hK S b3 = 15 ∧ vp_in l2 (hN S b3) ∧ ((hI S b3 (l2 : Int32).toNatClampNeg) = 6 → wp_X12_endOf S l0 l2 (fun r8 S7 => hK S7 l0 = 14 ∧ (r8 = (hI S7 l0 24) → wp_X12_ends S7 l0 l2 (fun S11 => wp_X12_goesOn_L2 l0 l1 K44 Q n S11 (l2 + 1))) ∧ (¬ (r8 = (hI S7 l0 24)) → wp_X12_goesOn_L2 l0 l1 K44 Q n S7 (l2 + 1)))) ∧ (¬ ((hI S b3 (l2 : Int32).toNatClampNeg) = 6) → wp_X12_goesOn_L2 l0 l1 K44 Q n S (l2 + 1)))
def wp_X12_goesOn_L132 (l0 : Nat) (l1 : Int32) (K170 : Hp → Int32 → Prop) (Q : Int32 → Hp → Prop) : Nat → Hp → Int32 → Int32 → Prop
  | 0, _, _, _ => False
  | n + 1, S, l3, l4 => hK S l0 = 14 ∧ ((hI S l0 4) ≤ l4 → K170 S l3) ∧ (¬ ((hI S l0 4) ≤ l4) → ∃ b28 : Nat, (hR S l0 26) = some b28 ∧ hK S b28 = 15 ∧ vp_in l4 (hN S b28) ∧ ((hI S b28 (l4 : Int32).toNatClampNeg) = 6 → wp_X12_endOf S l0 l4 (fun r33 S32 => ∀ x34 : Int32, x34 = (if r33 < l3 then r33 else l3) → wp_X12_goesOn_L132 l0 l1 K170 Q n S32 x34 (l4 + 1))) ∧ (¬ ((hI S b28 (l4 : Int32).toNatClampNeg) = 6) → wp_X12_goesOn_L132 l0 l1 K170 Q n S l3 (l4 + 1)))
def wp_X12_goesOn_L0 (l0 : Nat) (l1 : Int32) (K56 : Hp → Prop) (K124 : Hp → Prop) (Q : Int32 → Hp → Prop) : Nat → Hp → Prop
  | 0, _ => False
  | n + 1, S => wp_X12_goesOn_L2 l0 l1 (fun (S12 : Hp) => hK S12 l0 = 14 ∧ wp_X12_cancels S12 l0 (fun S14 => hK S14 l0 = 14 ∧ ((hI S14 l0 24) = l1 → K56 S14) ∧ (¬ ((hI S14 l0 24) = l1) → wp_X12_hands S14 l0 0 (fun r18 S17 => ∃ J20 : Hp → Prop, J20 = (fun (S25 : Hp) => wp_X12_goesOn_L132 l0 l1 (fun (S35 : Hp) (x36 : Int32) => hK S35 l0 = 14 ∧ wp_X12_goesOn_L0 l0 l1 K56 K124 Q n (sI S35 l0 24 x36)) Q FU S25 l1 0) ∧ (r18 = 0 → hK S17 l0 = 14 ∧ wp_X12_isAnyAtWork S17 l0 (fun r23 S22 => (r23 = 0 → K124 S22) ∧ (¬ (r23 = 0) → J20 S22))) ∧ (¬ (r18 = 0) → J20 S17))))) Q FU S 0
def wp_X12_goesOn_L63 (l0 : Nat) (l2 : Int32) (K93 : Hp → Prop) (Q : Int32 → Hp → Prop) : Nat → Hp → Int32 → Prop
  | 0, _, _ => False
  | n + 1, S, l3 => hK S l0 = 14 ∧ ((hI S l0 4) ≤ l3 → K93 S) ∧ (¬ ((hI S l0 4) ≤ l3) → ∃ b44 : Nat, (hR S l0 26) = some b44 ∧ hK S b44 = 15 ∧ vp_in l3 (hN S b44) ∧ ((hI S b44 (l3 : Int32).toNatClampNeg) = 6 → wp_X12_interrupts S l0 l3 (fun S48 => wp_X12_goesOn_L63 l0 l2 K93 Q n S48 (l3 + 1))) ∧ (¬ ((hI S b44 (l3 : Int32).toNatClampNeg) = 6) → wp_X12_goesOn_L63 l0 l2 K93 Q n S (l3 + 1)))
def wp_X12_goesOn (S : Hp) (a0 : Nat) (a1 : Int32) (Q : Int32 → Hp → Prop) : Prop := wp_X12_goesOn_L0 a0 a1 (fun (S38 : Hp) => hK S38 a0 = 14 ∧ wp_X12_isAnyAtWork S38 a0 (fun r41 S40 => wp_X12_goesOn_L63 a0 r41 (fun (S49 : Hp) => (r41 = 0 → hK S49 a0 = 14 ∧ wp_X12_hands S49 a0 1 (fun r53 S52 => (r53 = 0 → hK S52 a0 = 14 ∧ wp_X12_neverBegin S52 a0 (fun S56 => hK S56 a0 = 14 ∧ wp_X12_areAllDone S56 a0 (fun r59 S58 => (r59 = 0 → Q 1 S58) ∧ (¬ (r59 = 0) → Q 0 S58)))) ∧ (¬ (r53 = 0) → Q 2 S52))) ∧ (¬ (r41 = 0) → Q 2 S49)) Q FU S40 0)) (fun (S61 : Hp) => hK S61 a0 = 14 ∧ wp_X12_neverBegin S61 a0 (fun S63 => hK S63 a0 = 14 ∧ wp_X12_areAllDone S63 a0 (fun r66 S65 => (r66 = 0 → Q 1 S65) ∧ (¬ (r66 = 0) → Q 0 S65)))) Q FU S
set_option maxRecDepth 100000 in
set_option maxHeartbeats 4000000 in
theorem w_X12_goesOn_L2 {p : Program} {l : Launch} {e : Env} {s : State} {m : MethodId} {args : Array Value} {below : List Frame} {meth : Method} {c : Code} {G : GX} {Q : Int32 → Hp → Prop} {K44 : Hp → Prop} {l0 : Nat} {l1 : Int32} (C : Cx p s m args meth c cX12_goesOn 5 RX12 (some .int) "goesOn" G)
    (k44 : ∀ (S : Hp) (H : Heap) (locs : List Loc) (ls : Array Slot), wd G S H → va_S G.2.2.1 s.heap H locs → LV ls 5 → ls[0]? = some (.val (va_rf (some l0))) → ls[1]? = some (.val (.int l1)) → K44 S → W p l e ({ frames := 5, cells := 0, slots := 0, locals := 119 } : Room) s m args below meth c H locs 0 0 (MQ below (QI G Q) args s 0 0 G.2.2.1) (F0 m 44 ls [])) :
    ∀ (n : Nat) (S : Hp) (l2 : Int32) (H : Heap) (locs : List Loc) (ls : Array Slot), wd G S H → va_S G.2.2.1 s.heap H locs → LV ls 5 → ls[0]? = some (.val (va_rf (some l0))) → ls[1]? = some (.val (.int l1)) → ls[2]? = some (.val (.int l2)) → wp_X12_goesOn_L2 l0 l1 K44 Q n S l2 → W p l e ({ frames := 5, cells := 0, slots := 0, locals := 119 } : Room) s m args below meth c H locs 0 0 (MQ below (QI G Q) args s 0 0 G.2.2.1) (F0 m 2 ls []) := by
  intro n
  induction n with
  | zero =>
    intro S l2 H locs ls hW hS hL h0 h1 h2 hw
    exact False.elim hw
  | succ n ih =>
    intro S l2 H locs ls hW hS hL h0 h1 h2 hw
    unfold wp_X12_goesOn_L2 at hw
    refine lv_iload_n C.1 C.2.1 dX12_goesOn_2 rfl h2 ?_
    refine m_aldN C dX12_goesOn_3 rfl h0 ?_
    obtain ⟨hk1, hw⟩ := hw
    refine m_getI C hW rfl hk1 f_X12_128 rfl dX12_goesOn_4 ?_
    refine lv_icmp_ge (tgt := 44) C.1 C.2.1 dX12_goesOn_7 (by decide) (fun hc2 => ?_) (fun hc2 => ?_)
    · have hw := hw.1 hc2
      exact k44 S H locs ls hW hS hL h0 h1 hw
    · have hw := hw.2 hc2
      refine m_aldN C dX12_goesOn_10 rfl h0 ?_
      refine m_getR C hW rfl hk1 f_X12_63 rfl dX12_goesOn_11 ?_
      refine lv_iload_n C.1 C.2.1 dX12_goesOn_14 rfl h2 ?_
      obtain ⟨b3, ho3, hw⟩ := hw
      obtain ⟨hk4, hw⟩ := hw
      obtain ⟨hi5, hw⟩ := hw
      refine m_iald C hW ho3 hk4 hi5 dX12_goesOn_15 ?_
      refine lv_bipush (v := 6) C.1 C.2.1 dX12_goesOn_16 (by decide) ?_
      refine lv_icmp_ne (tgt := 38) C.1 C.2.1 dX12_goesOn_18 (by decide) (fun hc6 => ?_) (fun hc6 => ?_)
      · have hw := hw.2 hc6
        refine m_iinc (v := (l2 + 1)) C hL dX12_goesOn_38 h2 rfl (by decide) (fun ls hL hn9 hk9 => ?_)
        have h0 := hk9 0 _ h0 (by decide) (Or.inl (by decide))
        have h1 := hk9 1 _ h1 (by decide) (Or.inr (rfl))
        have h2 := hn9
        refine lv_goto (tgt := 2) C.1 C.2.1 dX12_goesOn_41 (by decide) ?_
        exact ih S (l2 + 1) H locs ls hW hS hL h0 h1 h2 hw
      · have hw := hw.1 hc6
        refine m_aldN C dX12_goesOn_21 rfl h0 ?_
        refine lv_iload_n C.1 C.2.1 dX12_goesOn_22 rfl h2 ?_
        refine m_rI (m_runV (As := [.int l2]) (rest := []) C hW hS hL (c_X12_endOf hw) v_X12_243 ⟨rfl, rfl⟩ ⟨Nat.le_of_ble_eq_true rfl, Nat.le_of_ble_eq_true rfl⟩ rfl hk1 rfl rfl (Nat.le_of_ble_eq_true rfl) dX12_goesOn_23 ⟨Nat.le_of_ble_eq_true rfl, Nat.le_of_ble_eq_true rfl⟩) hS (fun r8 S7 H locs hw hW hS => ?_)
        refine m_aldN C dX12_goesOn_26 rfl h0 ?_
        obtain ⟨hk9, hw⟩ := hw
        refine m_getI C hW rfl hk9 f_X12_202 rfl dX12_goesOn_27 ?_
        refine lv_icmp_ne (tgt := 38) C.1 C.2.1 dX12_goesOn_30 (by decide) (fun hc10 => ?_) (fun hc10 => ?_)
        · have hw := hw.2 hc10
          refine m_iinc (v := (l2 + 1)) C hL dX12_goesOn_38 h2 rfl (by decide) (fun ls hL hn9 hk9 => ?_)
          have h0 := hk9 0 _ h0 (by decide) (Or.inl (by decide))
          have h1 := hk9 1 _ h1 (by decide) (Or.inr (rfl))
          have h2 := hn9
          refine lv_goto (tgt := 2) C.1 C.2.1 dX12_goesOn_41 (by decide) ?_
          exact ih S7 (l2 + 1) H locs ls hW hS hL h0 h1 h2 hw
        · have hw := hw.1 hc10
          refine m_aldN C dX12_goesOn_33 rfl h0 ?_
          refine lv_iload_n C.1 C.2.1 dX12_goesOn_34 rfl h2 ?_
          refine m_rV (m_runV (As := [.int l2]) (rest := []) C hW hS hL (c_X12_ends hw) v_X12_246 ⟨rfl, rfl⟩ ⟨Nat.le_of_ble_eq_true rfl, Nat.le_of_ble_eq_true rfl⟩ rfl hk9 rfl rfl (Nat.le_of_ble_eq_true rfl) dX12_goesOn_35 ⟨Nat.le_of_ble_eq_true rfl, Nat.le_of_ble_eq_true rfl⟩) hS (fun S11 H locs hw hW hS => ?_)
          refine m_iinc (v := (l2 + 1)) C hL dX12_goesOn_38 h2 rfl (by decide) (fun ls hL hn9 hk9 => ?_)
          have h0 := hk9 0 _ h0 (by decide) (Or.inl (by decide))
          have h1 := hk9 1 _ h1 (by decide) (Or.inr (rfl))
          have h2 := hn9
          refine lv_goto (tgt := 2) C.1 C.2.1 dX12_goesOn_41 (by decide) ?_
          exact ih S11 (l2 + 1) H locs ls hW hS hL h0 h1 h2 hw
set_option maxRecDepth 100000 in
set_option maxHeartbeats 4000000 in
theorem w_X12_goesOn_L132 {p : Program} {l : Launch} {e : Env} {s : State} {m : MethodId} {args : Array Value} {below : List Frame} {meth : Method} {c : Code} {G : GX} {Q : Int32 → Hp → Prop} {K170 : Hp → Int32 → Prop} {l0 : Nat} {l1 : Int32} (C : Cx p s m args meth c cX12_goesOn 5 RX12 (some .int) "goesOn" G)
    (k170 : ∀ (S : Hp) (l3 : Int32) (H : Heap) (locs : List Loc) (ls : Array Slot), wd G S H → va_S G.2.2.1 s.heap H locs → LV ls 5 → ls[0]? = some (.val (va_rf (some l0))) → ls[1]? = some (.val (.int l1)) → ls[3]? = some (.val (.int l3)) → K170 S l3 → W p l e ({ frames := 5, cells := 0, slots := 0, locals := 119 } : Room) s m args below meth c H locs 0 0 (MQ below (QI G Q) args s 0 0 G.2.2.1) (F0 m 170 ls [])) :
    ∀ (n : Nat) (S : Hp) (l3 : Int32) (l4 : Int32) (H : Heap) (locs : List Loc) (ls : Array Slot), wd G S H → va_S G.2.2.1 s.heap H locs → LV ls 5 → ls[0]? = some (.val (va_rf (some l0))) → ls[1]? = some (.val (.int l1)) → ls[3]? = some (.val (.int l3)) → ls[4]? = some (.val (.int l4)) → wp_X12_goesOn_L132 l0 l1 K170 Q n S l3 l4 → W p l e ({ frames := 5, cells := 0, slots := 0, locals := 119 } : Room) s m args below meth c H locs 0 0 (MQ below (QI G Q) args s 0 0 G.2.2.1) (F0 m 132 ls []) := by
  intro n
  induction n with
  | zero =>
    intro S l3 l4 H locs ls hW hS hL h0 h1 h3 h4 hw
    exact False.elim hw
  | succ n ih =>
    intro S l3 l4 H locs ls hW hS hL h0 h1 h3 h4 hw
    unfold wp_X12_goesOn_L132 at hw
    refine lv_iload C.1 C.2.1 dX12_goesOn_132 h4 ?_
    refine m_aldN C dX12_goesOn_134 rfl h0 ?_
    obtain ⟨hk26, hw⟩ := hw
    refine m_getI C hW rfl hk26 f_X12_128 rfl dX12_goesOn_135 ?_
    refine lv_icmp_ge (tgt := 170) C.1 C.2.1 dX12_goesOn_138 (by decide) (fun hc27 => ?_) (fun hc27 => ?_)
    · have hw := hw.1 hc27
      exact k170 S l3 H locs ls hW hS hL h0 h1 h3 hw
    · have hw := hw.2 hc27
      refine m_aldN C dX12_goesOn_141 rfl h0 ?_
      refine m_getR C hW rfl hk26 f_X12_63 rfl dX12_goesOn_142 ?_
      refine lv_iload C.1 C.2.1 dX12_goesOn_145 h4 ?_
      obtain ⟨b28, ho28, hw⟩ := hw
      obtain ⟨hk29, hw⟩ := hw
      obtain ⟨hi30, hw⟩ := hw
      refine m_iald C hW ho28 hk29 hi30 dX12_goesOn_147 ?_
      refine lv_bipush (v := 6) C.1 C.2.1 dX12_goesOn_148 (by decide) ?_
      refine lv_icmp_ne (tgt := 164) C.1 C.2.1 dX12_goesOn_150 (by decide) (fun hc31 => ?_) (fun hc31 => ?_)
      · have hw := hw.2 hc31
        refine m_iinc (v := (l4 + 1)) C hL dX12_goesOn_164 h4 rfl (by decide) (fun ls hL hn9 hk9 => ?_)
        have h0 := hk9 0 _ h0 (by decide) (Or.inl (by decide))
        have h1 := hk9 1 _ h1 (by decide) (Or.inl (by decide))
        have h3 := hk9 3 _ h3 (by decide) (Or.inr (rfl))
        have h4 := hn9
        refine lv_goto (tgt := 132) C.1 C.2.1 dX12_goesOn_167 (by decide) ?_
        exact ih S l3 (l4 + 1) H locs ls hW hS hL h0 h1 h3 h4 hw
      · have hw := hw.1 hc31
        refine lv_iload_n C.1 C.2.1 dX12_goesOn_153 rfl h3 ?_
        refine m_aldN C dX12_goesOn_154 rfl h0 ?_
        refine lv_iload C.1 C.2.1 dX12_goesOn_155 h4 ?_
        refine m_rI (m_runV (As := [.int l4]) (rest := [.int l3]) C hW hS hL (c_X12_endOf hw) v_X12_243 ⟨rfl, rfl⟩ ⟨Nat.le_of_ble_eq_true rfl, Nat.le_of_ble_eq_true rfl⟩ rfl hk26 rfl rfl (Nat.le_of_ble_eq_true rfl) dX12_goesOn_157 ⟨Nat.le_of_ble_eq_true rfl, Nat.le_of_ble_eq_true rfl⟩) hS (fun r33 S32 H locs hw hW hS => ?_)
        refine va_mmin C.1 C.2.1 (C.2.2.1.trans hL.1.symm) C.2.2.2.1 (C.2.2.2.2.1 _ tw_1467) (C.2.2.2.2.1 _ tw_636) (C.2.2.2.2.1 _ tw_20) (C.2.2.2.2.1 _ tw_637) (Nat.le_of_ble_eq_true rfl) (Nat.le_of_ble_eq_true rfl) (Nat.le_of_ble_eq_true rfl) (Nat.le_of_ble_eq_true rfl) dX12_goesOn_160 ?_
        refine lv_topi (fun x34 ex34 => ?_)
        have hw := hw x34 ex34
        refine m_istN C hL dX12_goesOn_163 rfl (by decide) (fun ls hL hn9 hk9 => ?_)
        have h0 := hk9 0 _ h0 (by decide) (Or.inl (by decide))
        have h1 := hk9 1 _ h1 (by decide) (Or.inl (by decide))
        have h4 := hk9 4 _ h4 (by decide) (Or.inl (by decide))
        have h3 := hn9
        refine m_iinc (v := (l4 + 1)) C hL dX12_goesOn_164 h4 rfl (by decide) (fun ls hL hn9 hk9 => ?_)
        have h0 := hk9 0 _ h0 (by decide) (Or.inl (by decide))
        have h1 := hk9 1 _ h1 (by decide) (Or.inl (by decide))
        have h3 := hk9 3 _ h3 (by decide) (Or.inr (rfl))
        have h4 := hn9
        refine lv_goto (tgt := 132) C.1 C.2.1 dX12_goesOn_167 (by decide) ?_
        exact ih S32 x34 (l4 + 1) H locs ls hW hS hL h0 h1 h3 h4 hw
set_option maxRecDepth 100000 in
set_option maxHeartbeats 4000000 in
theorem w_X12_goesOn_L0 {p : Program} {l : Launch} {e : Env} {s : State} {m : MethodId} {args : Array Value} {below : List Frame} {meth : Method} {c : Code} {G : GX} {Q : Int32 → Hp → Prop} {K56 : Hp → Prop} {K124 : Hp → Prop} {l0 : Nat} {l1 : Int32} (C : Cx p s m args meth c cX12_goesOn 5 RX12 (some .int) "goesOn" G)
    (k56 : ∀ (S : Hp) (H : Heap) (locs : List Loc) (ls : Array Slot), wd G S H → va_S G.2.2.1 s.heap H locs → LV ls 5 → ls[0]? = some (.val (va_rf (some l0))) → K56 S → W p l e ({ frames := 5, cells := 0, slots := 0, locals := 119 } : Room) s m args below meth c H locs 0 0 (MQ below (QI G Q) args s 0 0 G.2.2.1) (F0 m 56 ls []))
    (k124 : ∀ (S : Hp) (H : Heap) (locs : List Loc) (ls : Array Slot), wd G S H → va_S G.2.2.1 s.heap H locs → LV ls 5 → ls[0]? = some (.val (va_rf (some l0))) → K124 S → W p l e ({ frames := 5, cells := 0, slots := 0, locals := 119 } : Room) s m args below meth c H locs 0 0 (MQ below (QI G Q) args s 0 0 G.2.2.1) (F0 m 124 ls [])) :
    ∀ (n : Nat) (S : Hp) (H : Heap) (locs : List Loc) (ls : Array Slot), wd G S H → va_S G.2.2.1 s.heap H locs → LV ls 5 → ls[0]? = some (.val (va_rf (some l0))) → ls[1]? = some (.val (.int l1)) → wp_X12_goesOn_L0 l0 l1 K56 K124 Q n S → W p l e ({ frames := 5, cells := 0, slots := 0, locals := 119 } : Room) s m args below meth c H locs 0 0 (MQ below (QI G Q) args s 0 0 G.2.2.1) (F0 m 0 ls []) := by
  intro n
  induction n with
  | zero =>
    intro S H locs ls hW hS hL h0 h1 hw
    exact False.elim hw
  | succ n ih =>
    intro S H locs ls hW hS hL h0 h1 hw
    unfold wp_X12_goesOn_L0 at hw
    refine lv_iconst (v := 0) C.1 C.2.1 dX12_goesOn_0 (by decide) ?_
    refine m_istN C hL dX12_goesOn_1 rfl (by decide) (fun ls hL hn9 hk9 => ?_)
    have h0 := hk9 0 _ h0 (by decide) (Or.inl (by decide))
    have h1 := hk9 1 _ h1 (by decide) (Or.inr (rfl))
    have h2 := hn9
    refine w_X12_goesOn_L2 C ?_ FU S 0 H locs ls hW hS hL h0 h1 h2 hw
    · intro S12 H locs ls hW hS hL h0 h1 hw
      refine m_aldN C dX12_goesOn_44 rfl h0 ?_
      obtain ⟨hk13, hw⟩ := hw
      refine m_rV (m_runV (As := []) (rest := []) C hW hS hL (c_X12_cancels hw) v_X12_249 ⟨rfl, rfl⟩ ⟨Nat.le_of_ble_eq_true rfl, Nat.le_of_ble_eq_true rfl⟩ rfl hk13 rfl rfl (Nat.le_of_ble_eq_true rfl) dX12_goesOn_45 ⟨Nat.le_of_ble_eq_true rfl, Nat.le_of_ble_eq_true rfl⟩) hS (fun S14 H locs hw hW hS => ?_)
      refine m_aldN C dX12_goesOn_48 rfl h0 ?_
      obtain ⟨hk15, hw⟩ := hw
      refine m_getI C hW rfl hk15 f_X12_202 rfl dX12_goesOn_49 ?_
      refine lv_iload_n C.1 C.2.1 dX12_goesOn_52 rfl h1 ?_
      refine lv_icmp_ne (tgt := 107) C.1 C.2.1 dX12_goesOn_53 (by decide) (fun hc16 => ?_) (fun hc16 => ?_)
      · have hw := hw.2 hc16
        refine m_aldN C dX12_goesOn_107 rfl h0 ?_
        refine lv_iconst (v := 0) C.1 C.2.1 dX12_goesOn_108 (by decide) ?_
        refine m_rI (m_runV (As := [.int 0]) (rest := []) C hW hS hL (c_X12_hands hw) v_X12_259 ⟨rfl, rfl⟩ ⟨Nat.le_of_ble_eq_true rfl, Nat.le_of_ble_eq_true rfl⟩ rfl hk15 rfl rfl (Nat.le_of_ble_eq_true rfl) dX12_goesOn_109 ⟨Nat.le_of_ble_eq_true rfl, Nat.le_of_ble_eq_true rfl⟩) hS (fun r18 S17 H locs hw hW hS => ?_)
        refine m_istN C hL dX12_goesOn_112 rfl (by decide) (fun ls hL hn9 hk9 => ?_)
        have h0 := hk9 0 _ h0 (by decide) (Or.inl (by decide))
        have h1 := hk9 1 _ h1 (by decide) (Or.inr (rfl))
        have h2 := hn9
        refine lv_iload_n C.1 C.2.1 dX12_goesOn_113 rfl h2 ?_
        obtain ⟨J20, eJ20, hw⟩ := hw
        have wJ20 : ∀ (S25 : Hp) (H : Heap) (locs : List Loc) (ls : Array Slot), wd G S25 H → va_S G.2.2.1 s.heap H locs → LV ls 5 → ls[0]? = some (.val (va_rf (some l0))) → ls[1]? = some (.val (.int l1)) → J20 S25 → W p l e ({ frames := 5, cells := 0, slots := 0, locals := 119 } : Room) s m args below meth c H locs 0 0 (MQ below (QI G Q) args s 0 0 G.2.2.1) (F0 m 127 ls []) := by
          intro S25 H locs ls hW hS hL h0 h1 hw
          rw [eJ20] at hw
          refine lv_iload_n C.1 C.2.1 dX12_goesOn_127 rfl h1 ?_
          refine m_istN C hL dX12_goesOn_128 rfl (by decide) (fun ls hL hn9 hk9 => ?_)
          have h0 := hk9 0 _ h0 (by decide) (Or.inl (by decide))
          have h1 := hk9 1 _ h1 (by decide) (Or.inl (by decide))
          have h3 := hn9
          refine lv_iconst (v := 0) C.1 C.2.1 dX12_goesOn_129 (by decide) ?_
          refine m_ist C hL dX12_goesOn_130 (by decide) (fun ls hL hn9 hk9 => ?_)
          have h0 := hk9 0 _ h0 (by decide) (Or.inl (by decide))
          have h1 := hk9 1 _ h1 (by decide) (Or.inl (by decide))
          have h3 := hk9 3 _ h3 (by decide) (Or.inr (rfl))
          have h4 := hn9
          refine w_X12_goesOn_L132 C ?_ FU S25 l1 0 H locs ls hW hS hL h0 h1 h3 h4 hw
          · intro S35 x36 H locs ls hW hS hL h0 h1 h3 hw
            refine m_aldN C dX12_goesOn_170 rfl h0 ?_
            refine lv_iload_n C.1 C.2.1 dX12_goesOn_171 rfl h3 ?_
            obtain ⟨hk37, hw⟩ := hw
            refine m_putI C hW hS rfl hk37 p_X12_202 (fun z => by cases z) rfl dX12_goesOn_172 (fun H locs hW hS => ?_)
            refine lv_goto (tgt := 0) C.1 C.2.1 dX12_goesOn_175 (by decide) ?_
            exact ih (sI S35 l0 24 x36) H locs ls hW hS hL h0 h1 hw
        refine lv_if_ne (tgt := 127) C.1 C.2.1 dX12_goesOn_114 (by decide) (fun hc19 => ?_) (fun hc19 => ?_)
        · have hw := hw.2 hc19
          exact wJ20 S17 H locs ls hW hS hL h0 h1 hw
        · have hw := hw.1 hc19
          refine m_aldN C dX12_goesOn_117 rfl h0 ?_
          obtain ⟨hk21, hw⟩ := hw
          refine m_rI (m_runV (As := []) (rest := []) C hW hS hL (c_X12_isAnyAtWork hw) v_X12_252 ⟨rfl, rfl⟩ ⟨Nat.le_of_ble_eq_true rfl, Nat.le_of_ble_eq_true rfl⟩ rfl hk21 rfl rfl (Nat.le_of_ble_eq_true rfl) dX12_goesOn_118 ⟨Nat.le_of_ble_eq_true rfl, Nat.le_of_ble_eq_true rfl⟩) hS (fun r23 S22 H locs hw hW hS => ?_)
          refine lv_if_ne (tgt := 127) C.1 C.2.1 dX12_goesOn_121 (by decide) (fun hc24 => ?_) (fun hc24 => ?_)
          · have hw := hw.2 hc24
            exact wJ20 S22 H locs ls hW hS hL h0 h1 hw
          · have hw := hw.1 hc24
            exact k124 S22 H locs ls hW hS hL h0 hw
      · have hw := hw.1 hc16
        exact k56 S14 H locs ls hW hS hL h0 hw
set_option maxRecDepth 100000 in
set_option maxHeartbeats 4000000 in
theorem w_X12_goesOn_L63 {p : Program} {l : Launch} {e : Env} {s : State} {m : MethodId} {args : Array Value} {below : List Frame} {meth : Method} {c : Code} {G : GX} {Q : Int32 → Hp → Prop} {K93 : Hp → Prop} {l0 : Nat} {l2 : Int32} (C : Cx p s m args meth c cX12_goesOn 5 RX12 (some .int) "goesOn" G)
    (k93 : ∀ (S : Hp) (H : Heap) (locs : List Loc) (ls : Array Slot), wd G S H → va_S G.2.2.1 s.heap H locs → LV ls 5 → ls[0]? = some (.val (va_rf (some l0))) → ls[2]? = some (.val (.int l2)) → K93 S → W p l e ({ frames := 5, cells := 0, slots := 0, locals := 119 } : Room) s m args below meth c H locs 0 0 (MQ below (QI G Q) args s 0 0 G.2.2.1) (F0 m 93 ls [])) :
    ∀ (n : Nat) (S : Hp) (l3 : Int32) (H : Heap) (locs : List Loc) (ls : Array Slot), wd G S H → va_S G.2.2.1 s.heap H locs → LV ls 5 → ls[0]? = some (.val (va_rf (some l0))) → ls[2]? = some (.val (.int l2)) → ls[3]? = some (.val (.int l3)) → wp_X12_goesOn_L63 l0 l2 K93 Q n S l3 → W p l e ({ frames := 5, cells := 0, slots := 0, locals := 119 } : Room) s m args below meth c H locs 0 0 (MQ below (QI G Q) args s 0 0 G.2.2.1) (F0 m 63 ls []) := by
  intro n
  induction n with
  | zero =>
    intro S l3 H locs ls hW hS hL h0 h2 h3 hw
    exact False.elim hw
  | succ n ih =>
    intro S l3 H locs ls hW hS hL h0 h2 h3 hw
    unfold wp_X12_goesOn_L63 at hw
    refine lv_iload_n C.1 C.2.1 dX12_goesOn_63 rfl h3 ?_
    refine m_aldN C dX12_goesOn_64 rfl h0 ?_
    obtain ⟨hk42, hw⟩ := hw
    refine m_getI C hW rfl hk42 f_X12_128 rfl dX12_goesOn_65 ?_
    refine lv_icmp_ge (tgt := 93) C.1 C.2.1 dX12_goesOn_68 (by decide) (fun hc43 => ?_) (fun hc43 => ?_)
    · have hw := hw.1 hc43
      exact k93 S H locs ls hW hS hL h0 h2 hw
    · have hw := hw.2 hc43
      refine m_aldN C dX12_goesOn_71 rfl h0 ?_
      refine m_getR C hW rfl hk42 f_X12_63 rfl dX12_goesOn_72 ?_
      refine lv_iload_n C.1 C.2.1 dX12_goesOn_75 rfl h3 ?_
      obtain ⟨b44, ho44, hw⟩ := hw
      obtain ⟨hk45, hw⟩ := hw
      obtain ⟨hi46, hw⟩ := hw
      refine m_iald C hW ho44 hk45 hi46 dX12_goesOn_76 ?_
      refine lv_bipush (v := 6) C.1 C.2.1 dX12_goesOn_77 (by decide) ?_
      refine lv_icmp_ne (tgt := 87) C.1 C.2.1 dX12_goesOn_79 (by decide) (fun hc47 => ?_) (fun hc47 => ?_)
      · have hw := hw.2 hc47
        refine m_iinc (v := (l3 + 1)) C hL dX12_goesOn_87 h3 rfl (by decide) (fun ls hL hn9 hk9 => ?_)
        have h0 := hk9 0 _ h0 (by decide) (Or.inl (by decide))
        have h2 := hk9 2 _ h2 (by decide) (Or.inr (rfl))
        have h3 := hn9
        refine lv_goto (tgt := 63) C.1 C.2.1 dX12_goesOn_90 (by decide) ?_
        exact ih S (l3 + 1) H locs ls hW hS hL h0 h2 h3 hw
      · have hw := hw.1 hc47
        refine m_aldN C dX12_goesOn_82 rfl h0 ?_
        refine lv_iload_n C.1 C.2.1 dX12_goesOn_83 rfl h3 ?_
        refine m_rV (m_runV (As := [.int l3]) (rest := []) C hW hS hL (c_X12_interrupts hw) v_X12_256 ⟨rfl, rfl⟩ ⟨Nat.le_of_ble_eq_true rfl, Nat.le_of_ble_eq_true rfl⟩ rfl hk42 rfl rfl (Nat.le_of_ble_eq_true rfl) dX12_goesOn_84 ⟨Nat.le_of_ble_eq_true rfl, Nat.le_of_ble_eq_true rfl⟩) hS (fun S48 H locs hw hW hS => ?_)
        refine m_iinc (v := (l3 + 1)) C hL dX12_goesOn_87 h3 rfl (by decide) (fun ls hL hn9 hk9 => ?_)
        have h0 := hk9 0 _ h0 (by decide) (Or.inl (by decide))
        have h2 := hk9 2 _ h2 (by decide) (Or.inr (rfl))
        have h3 := hn9
        refine lv_goto (tgt := 63) C.1 C.2.1 dX12_goesOn_90 (by decide) ?_
        exact ih S48 (l3 + 1) H locs ls hW hS hL h0 h2 h3 hw
set_option maxRecDepth 100000 in
set_option maxHeartbeats 4000000 in
theorem c_X12_goesOn {l : Launch} {G : GX} {S : Hp} {a0 : Nat} {a1 : Int32} {Q : Int32 → Hp → Prop} (hw : wp_X12_goesOn S a0 a1 Q) : Met l yX12_goesOn (Cond.code yX12_goesOn cX12_goesOn 5 (some .int) :: TS) { frames := 5, cells := 0, slots := 0, locals := 119 } (Pk G S [va_rf (some a0), .int a1]) (QI G Q) 0 0 G.2.2.1 := by
  refine m_met (by decide) ?_
  intro p e s m below meth c H locs C hW hS
  have C : Cx p s m ([va_rf (some a0), .int a1] : List Value).toArray meth c cX12_goesOn 5 RX12 (some .int) "goesOn" G := C
  obtain ⟨ls, hent, hL, hla⟩ := m_entry m (vs := [va_rf (some a0), .int a1]) (nn := 5) [1, 1] rfl (by decide)
  rw [hent]
  have h0 : ls[0]? = some (.val (va_rf (some a0))) := hla (0, va_rf (some a0)) (List.mem_of_getElem? (i := 0) rfl)
  have h1 : ls[1]? = some (.val (.int a1)) := hla (1, .int a1) (List.mem_of_getElem? (i := 1) rfl)
  clear hla
  generalize ([va_rf (some a0), .int a1] : List Value).toArray = args at C ⊢
  unfold wp_X12_goesOn at hw
  refine w_X12_goesOn_L0 C ?_ ?_ FU S H locs ls hW hS hL h0 h1 hw
  · intro S38 H locs ls hW hS hL h0 hw
    refine m_aldN C dX12_goesOn_56 rfl h0 ?_
    obtain ⟨hk39, hw⟩ := hw
    refine m_rI (m_runV (As := []) (rest := []) C hW hS hL (c_X12_isAnyAtWork hw) v_X12_252 ⟨rfl, rfl⟩ ⟨Nat.le_of_ble_eq_true rfl, Nat.le_of_ble_eq_true rfl⟩ rfl hk39 rfl rfl (Nat.le_of_ble_eq_true rfl) dX12_goesOn_57 ⟨Nat.le_of_ble_eq_true rfl, Nat.le_of_ble_eq_true rfl⟩) hS (fun r41 S40 H locs hw hW hS => ?_)
    refine m_istN C hL dX12_goesOn_60 rfl (by decide) (fun ls hL hn9 hk9 => ?_)
    have h0 := hk9 0 _ h0 (by decide) (Or.inl (by decide))
    have h2 := hn9
    refine lv_iconst (v := 0) C.1 C.2.1 dX12_goesOn_61 (by decide) ?_
    refine m_istN C hL dX12_goesOn_62 rfl (by decide) (fun ls hL hn9 hk9 => ?_)
    have h0 := hk9 0 _ h0 (by decide) (Or.inl (by decide))
    have h2 := hk9 2 _ h2 (by decide) (Or.inr (rfl))
    have h3 := hn9
    refine w_X12_goesOn_L63 C ?_ FU S40 0 H locs ls hW hS hL h0 h2 h3 hw
    · intro S49 H locs ls hW hS hL h0 h2 hw
      refine lv_iload_n C.1 C.2.1 dX12_goesOn_93 rfl h2 ?_
      refine lv_if_ne (tgt := 105) C.1 C.2.1 dX12_goesOn_94 (by decide) (fun hc50 => ?_) (fun hc50 => ?_)
      · have hw := hw.2 hc50
        refine lv_iconst (v := 2) C.1 C.2.1 dX12_goesOn_105 (by decide) ?_
        exact m_iret C hW hS hw dX12_goesOn_106
      · have hw := hw.1 hc50
        refine m_aldN C dX12_goesOn_97 rfl h0 ?_
        refine lv_iconst (v := 1) C.1 C.2.1 dX12_goesOn_98 (by decide) ?_
        obtain ⟨hk51, hw⟩ := hw
        refine m_rI (m_runV (As := [.int 1]) (rest := []) C hW hS hL (c_X12_hands hw) v_X12_259 ⟨rfl, rfl⟩ ⟨Nat.le_of_ble_eq_true rfl, Nat.le_of_ble_eq_true rfl⟩ rfl hk51 rfl rfl (Nat.le_of_ble_eq_true rfl) dX12_goesOn_99 ⟨Nat.le_of_ble_eq_true rfl, Nat.le_of_ble_eq_true rfl⟩) hS (fun r53 S52 H locs hw hW hS => ?_)
        refine lv_if_eq (tgt := 178) C.1 C.2.1 dX12_goesOn_102 (by decide) (fun hc54 => ?_) (fun hc54 => ?_)
        · have hw := hw.1 hc54
          refine m_aldN C dX12_goesOn_178 rfl h0 ?_
          obtain ⟨hk55, hw⟩ := hw
          refine m_rV (m_runV (As := []) (rest := []) C hW hS hL (c_X12_neverBegin hw) v_X12_266 ⟨rfl, rfl⟩ ⟨Nat.le_of_ble_eq_true rfl, Nat.le_of_ble_eq_true rfl⟩ rfl hk55 rfl rfl (Nat.le_of_ble_eq_true rfl) dX12_goesOn_179 ⟨Nat.le_of_ble_eq_true rfl, Nat.le_of_ble_eq_true rfl⟩) hS (fun S56 H locs hw hW hS => ?_)
          refine m_aldN C dX12_goesOn_182 rfl h0 ?_
          obtain ⟨hk57, hw⟩ := hw
          refine m_rI (m_runV (As := []) (rest := []) C hW hS hL (c_X12_areAllDone hw) v_X12_269 ⟨rfl, rfl⟩ ⟨Nat.le_of_ble_eq_true rfl, Nat.le_of_ble_eq_true rfl⟩ rfl hk57 rfl rfl (Nat.le_of_ble_eq_true rfl) dX12_goesOn_183 ⟨Nat.le_of_ble_eq_true rfl, Nat.le_of_ble_eq_true rfl⟩) hS (fun r59 S58 H locs hw hW hS => ?_)
          refine lv_if_eq (tgt := 193) C.1 C.2.1 dX12_goesOn_186 (by decide) (fun hc60 => ?_) (fun hc60 => ?_)
          · have hw := hw.1 hc60
            refine lv_iconst (v := 1) C.1 C.2.1 dX12_goesOn_193 (by decide) ?_
            exact m_iret C hW hS hw dX12_goesOn_194
          · have hw := hw.2 hc60
            refine lv_iconst (v := 0) C.1 C.2.1 dX12_goesOn_189 (by decide) ?_
            refine lv_goto (tgt := 194) C.1 C.2.1 dX12_goesOn_190 (by decide) ?_
            exact m_iret C hW hS hw dX12_goesOn_194
        · have hw := hw.2 hc54
          refine lv_iconst (v := 2) C.1 C.2.1 dX12_goesOn_105 (by decide) ?_
          exact m_iret C hW hS hw dX12_goesOn_106
  · intro S61 H locs ls hW hS hL h0 hw
    refine lv_goto (tgt := 178) C.1 C.2.1 dX12_goesOn_124 (by decide) ?_
    refine m_aldN C dX12_goesOn_178 rfl h0 ?_
    obtain ⟨hk62, hw⟩ := hw
    refine m_rV (m_runV (As := []) (rest := []) C hW hS hL (c_X12_neverBegin hw) v_X12_266 ⟨rfl, rfl⟩ ⟨Nat.le_of_ble_eq_true rfl, Nat.le_of_ble_eq_true rfl⟩ rfl hk62 rfl rfl (Nat.le_of_ble_eq_true rfl) dX12_goesOn_179 ⟨Nat.le_of_ble_eq_true rfl, Nat.le_of_ble_eq_true rfl⟩) hS (fun S63 H locs hw hW hS => ?_)
    refine m_aldN C dX12_goesOn_182 rfl h0 ?_
    obtain ⟨hk64, hw⟩ := hw
    refine m_rI (m_runV (As := []) (rest := []) C hW hS hL (c_X12_areAllDone hw) v_X12_269 ⟨rfl, rfl⟩ ⟨Nat.le_of_ble_eq_true rfl, Nat.le_of_ble_eq_true rfl⟩ rfl hk64 rfl rfl (Nat.le_of_ble_eq_true rfl) dX12_goesOn_183 ⟨Nat.le_of_ble_eq_true rfl, Nat.le_of_ble_eq_true rfl⟩) hS (fun r66 S65 H locs hw hW hS => ?_)
    refine lv_if_eq (tgt := 193) C.1 C.2.1 dX12_goesOn_186 (by decide) (fun hc67 => ?_) (fun hc67 => ?_)
    · have hw := hw.1 hc67
      refine lv_iconst (v := 1) C.1 C.2.1 dX12_goesOn_193 (by decide) ?_
      exact m_iret C hW hS hw dX12_goesOn_194
    · have hw := hw.2 hc67
      refine lv_iconst (v := 0) C.1 C.2.1 dX12_goesOn_189 (by decide) ?_
      refine lv_goto (tgt := 194) C.1 C.2.1 dX12_goesOn_190 (by decide) ?_
      exact m_iret C hW hS hw dX12_goesOn_194
