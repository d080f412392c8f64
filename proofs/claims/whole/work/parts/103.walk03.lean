def wp_X8_begin_L77 (l0 : Nat) (l1 : Nat) (l3 : Option Nat) (Q : Hp → Prop) : Nat → Hp → Int32 → Prop
  | 0, _, _ => False
  | n + 1, S, l4 => ∃ b20 : Nat, l3 = some b20 ∧ hK S b20 = 2 ∧ ((hI S b20 2) ≤ l4 → hK S l0 = 10 ∧ hK S l1 = 6 ∧ ∃ b25 : Nat, (hR S l0 7) = some b25 ∧ hK S b25 = 5 ∧ wp_X3_put S b25 (hI S l0 10) 5 (hI S l1 0) (fun S27 => Q S27)) ∧ (¬ ((hI S b20 2) ≤ l4) → hK S l0 = 10 ∧ ∃ b29 : Nat, (hR S b20 0) = some b29 ∧ hK S b29 = 15 ∧ vp_in l4 (hN S b29) ∧ ∃ b32 : Nat, (hR S l0 1) = some b32 ∧ hK S b32 = 16 ∧ vp_in (hI S b29 (l4 : Int32).toNatClampNeg) (hN S b32) ∧ ∃ b35 : Nat, (hR S b20 1) = some b35 ∧ hK S b35 = 15 ∧ vp_in l4 (hN S b35) ∧ vp_in (hI S b29 (l4 : Int32).toNatClampNeg) (hN S b32) ∧ wp_X8_begin_L77 l0 l1 l3 Q n (sJ S b32 ((hI S b29 (l4 : Int32).toNatClampNeg) : Int32).toNatClampNeg ((hJ S b32 ((hI S b29 (l4 : Int32).toNatClampNeg) : Int32).toNatClampNeg) - (((hI S b35 (l4 : Int32).toNatClampNeg) : Int32).toInt64))) (l4 + 1))
def wp_X8_begin (S : Hp) (a0 : Nat) (a1 : Option Nat) (Q : Hp → Prop) : Prop := ∃ b1 : Nat, a1 = some b1 ∧ hK S b1 = 6 ∧ hK S a0 = 10 ∧ wp_X8_leastFreeWorker S a0 (hR S b1 1) (fun r5 S4 => (r5 = (-1) → Q S4) ∧ (¬ (r5 = (-1)) → hK S4 a0 = 10 ∧ ∃ b8 : Nat, (hR S4 a0 4) = some b8 ∧ hK S4 b8 = 19 ∧ vp_in r5 (hN S4 b8) ∧ hK S4 b1 = 6 ∧ ∃ b12 : Nat, (hR (sR S4 b8 (r5 : Int32).toNatClampNeg a1) b1 15) = some b12 ∧ hK (sR S4 b8 (r5 : Int32).toNatClampNeg a1) b12 = 12 ∧ ∃ b14 : Nat, (hR (sI (sR S4 b8 (r5 : Int32).toNatClampNeg a1) b12 3 r5) b1 15) = some b14 ∧ hK (sI (sR S4 b8 (r5 : Int32).toNatClampNeg a1) b12 3 r5) b14 = 12 ∧ ∃ b16 : Nat, (hR (sI (sI (sR S4 b8 (r5 : Int32).toNatClampNeg a1) b12 3 r5) b14 1 (hI (sI (sR S4 b8 (r5 : Int32).toNatClampNeg a1) b12 3 r5) a0 10)) b1 1) = some b16 ∧ hK (sI (sI (sR S4 b8 (r5 : Int32).toNatClampNeg a1) b12 3 r5) b14 1 (hI (sI (sR S4 b8 (r5 : Int32).toNatClampNeg a1) b12 3 r5) a0 10)) b16 = 4 ∧ wp_X8_takeMachines (sI (sI (sI (sI (sR S4 b8 (r5 : Int32).toNatClampNeg a1) b12 3 r5) b14 1 (hI (sI (sR S4 b8 (r5 : Int32).toNatClampNeg a1) b12 3 r5) a0 10)) b16 3 ((hI (sI (sI (sR S4 b8 (r5 : Int32).toNatClampNeg a1) b12 3 r5) b14 1 (hI (sI (sR S4 b8 (r5 : Int32).toNatClampNeg a1) b12 3 r5) a0 10)) b16 3) - 1)) a0 15 ((hI (sI (sI (sI (sR S4 b8 (r5 : Int32).toNatClampNeg a1) b12 3 r5) b14 1 (hI (sI (sR S4 b8 (r5 : Int32).toNatClampNeg a1) b12 3 r5) a0 10)) b16 3 ((hI (sI (sI (sR S4 b8 (r5 : Int32).toNatClampNeg a1) b12 3 r5) b14 1 (hI (sI (sR S4 b8 (r5 : Int32).toNatClampNeg a1) b12 3 r5) a0 10)) b16 3) - 1)) a0 15) + 1)) a0 a1 (fun S18 => hK S18 b1 = 6 ∧ wp_X8_begin_L77 a0 b1 (hR S18 b1 8) Q FU S18 0)))
set_option maxRecDepth 100000 in
set_option maxHeartbeats 4000000 in
theorem w_X8_begin_L77 {p : Program} {l : Launch} {e : Env} {s : State} {m : MethodId} {args : Array Value} {below : List Frame} {meth : Method} {c : Code} {G : GX} {Q : Hp → Prop} {l0 : Nat} {l1 : Nat} {l3 : Option Nat} (C : Cx p s m args meth c cX8_begin 5 RX8 none "begin" G) :
    ∀ (n : Nat) (S : Hp) (l4 : Int32) (H : Heap) (locs : List Loc) (ls : Array Slot), wd G S H → va_S G.2.2.1 s.heap H locs → LV ls 5 → ls[0]? = some (.val (va_rf (some l0))) → ls[1]? = some (.val (va_rf (some l1))) → ls[3]? = some (.val (va_rf l3)) → ls[4]? = some (.val (.int l4)) → wp_X8_begin_L77 l0 l1 l3 Q n S l4 → W p l e ({ frames := 1, cells := 0, slots := 0, locals := 26 } : Room) s m args below meth c H locs 0 0 (MQ below (QV G Q) args s 0 0 G.2.2.1) (F0 m 77 ls []) := by
  intro n
  induction n with
  | zero =>
    intro S l4 H locs ls hW hS hL h0 h1 h3 h4 hw
    exact False.elim hw
  | succ n ih =>
    intro S l4 H locs ls hW hS hL h0 h1 h3 h4 hw
    unfold wp_X8_begin_L77 at hw
    refine lv_iload C.1 C.2.1 dX8_begin_77 h4 ?_
    refine m_aldN C dX8_begin_79 rfl h3 ?_
    obtain ⟨b20, ho20, hw⟩ := hw
    obtain ⟨hk21, hw⟩ := hw
    refine m_getI C hW ho20 hk21 f_X8_176 rfl dX8_begin_80 ?_
    refine lv_icmp_ge (tgt := 115) C.1 C.2.1 dX8_begin_83 (by decide) (fun hc22 => ?_) (fun hc22 => ?_)
    · have hw := hw.1 hc22
      refine m_aldN C dX8_begin_115 rfl h0 ?_
      obtain ⟨hk23, hw⟩ := hw
      refine m_getR C hW rfl hk23 f_X8_41 rfl dX8_begin_116 ?_
      refine m_aldN C dX8_begin_119 rfl h0 ?_
      refine m_getI C hW rfl hk23 f_X8_112 rfl dX8_begin_120 ?_
      refine lv_iconst (v := 5) C.1 C.2.1 dX8_begin_123 (by decide) ?_
      refine m_aldN C dX8_begin_124 rfl h1 ?_
      obtain ⟨hk24, hw⟩ := hw
      refine m_getI C hW rfl hk24 f_X8_208 rfl dX8_begin_125 ?_
      obtain ⟨b25, ho25, hw⟩ := hw
      obtain ⟨hk26, hw⟩ := hw
      refine m_rV (m_runV (As := [.int (hI S l0 10), .int 5, .int (hI S l1 0)]) (rest := []) C hW hS hL (c_X3_put hw) v_X8_211 ⟨rfl, rfl⟩ ⟨Nat.le_of_ble_eq_true rfl, Nat.le_of_ble_eq_true rfl⟩ ho25 hk26 rfl rfl (Nat.le_of_ble_eq_true rfl) dX8_begin_128 ⟨Nat.le_of_ble_eq_true rfl, Nat.le_of_ble_eq_true rfl⟩) hS (fun S27 H locs hw hW hS => ?_)
      exact m_vret C hW hS hw dX8_begin_131
    · have hw := hw.2 hc22
      refine m_aldN C dX8_begin_86 rfl h0 ?_
      obtain ⟨hk28, hw⟩ := hw
      refine m_getR C hW rfl hk28 f_X8_9 rfl dX8_begin_87 ?_
      refine m_aldN C dX8_begin_90 rfl h3 ?_
      refine m_getR C hW ho20 hk21 f_X8_179 rfl dX8_begin_91 ?_
      refine lv_iload C.1 C.2.1 dX8_begin_94 h4 ?_
      obtain ⟨b29, ho29, hw⟩ := hw
      obtain ⟨hk30, hw⟩ := hw
      obtain ⟨hi31, hw⟩ := hw
      refine m_iald C hW ho29 hk30 hi31 dX8_begin_96 ?_
      refine lv_dup2_11 C.1 C.2.1 dX8_begin_97 (rfl) (va_rf_cat _) ?_
      obtain ⟨b32, ho32, hw⟩ := hw
      obtain ⟨hk33, hw⟩ := hw
      obtain ⟨hi34, hw⟩ := hw
      refine m_lald C hW ho32 hk33 hi34 dX8_begin_98 ?_
      refine m_aldN C dX8_begin_99 rfl h3 ?_
      refine m_getR C hW ho20 hk21 f_X8_182 rfl dX8_begin_100 ?_
      refine lv_iload C.1 C.2.1 dX8_begin_103 h4 ?_
      obtain ⟨b35, ho35, hw⟩ := hw
      obtain ⟨hk36, hw⟩ := hw
      obtain ⟨hi37, hw⟩ := hw
      refine m_iald C hW ho35 hk36 hi37 dX8_begin_105 ?_
      refine lv_i2l (v := (((hI S b35 (l4 : Int32).toNatClampNeg) : Int32).toInt64)) C.1 C.2.1 dX8_begin_106 rfl ?_
      refine lv_lsub C.1 C.2.1 dX8_begin_107 ?_
      obtain ⟨hi38, hw⟩ := hw
      refine m_last C hW hS ho32 hk33 hi38 dX8_begin_108 (fun H locs hW hS => ?_)
      refine m_iinc (v := (l4 + 1)) C hL dX8_begin_109 h4 rfl (by decide) (fun ls hL hn9 hk9 => ?_)
      have h0 := hk9 0 _ h0 (by decide) (Or.inl (by decide))
      have h1 := hk9 1 _ h1 (by decide) (Or.inl (by decide))
      have h3 := hk9 3 _ h3 (by decide) (Or.inr (va_rf_cat _))
      have h4 := hn9
      refine lv_goto (tgt := 77) C.1 C.2.1 dX8_begin_112 (by decide) ?_
      exact ih (sJ S b32 ((hI S b29 (l4 : Int32).toNatClampNeg) : Int32).toNatClampNeg ((hJ S b32 ((hI S b29 (l4 : Int32).toNatClampNeg) : Int32).toNatClampNeg) - (((hI S b35 (l4 : Int32).toNatClampNeg) : Int32).toInt64))) (l4 + 1) H locs ls hW hS hL h0 h1 h3 h4 hw
set_option maxRecDepth 100000 in
set_option maxHeartbeats 4000000 in
theorem c_X8_begin {l : Launch} {G : GX} {S : Hp} {a0 : Nat} {a1 : Option Nat} {Q : Hp → Prop} (hw : wp_X8_begin S a0 a1 Q) : Met l yX8_begin (Cond.code yX8_begin cX8_begin 5 none :: TS) { frames := 1, cells := 0, slots := 0, locals := 26 } (Pk G S [va_rf (some a0), va_rf a1]) (QV G Q) 0 0 G.2.2.1 := by
  refine m_met (by decide) ?_
  intro p e s m below meth c H locs C hW hS
  have C : Cx p s m ([va_rf (some a0), va_rf a1] : List Value).toArray meth c cX8_begin 5 RX8 none "begin" G := C
  obtain ⟨ls, hent, hL, hla⟩ := m_entry m (vs := [va_rf (some a0), va_rf a1]) (nn := 5) [1, 1] (by simp only [List.map_cons, List.map_nil, va_rf_cat] <;> rfl) (by decide)
  rw [hent]
  have h0 : ls[0]? = some (.val (va_rf (some a0))) := hla (0, va_rf (some a0)) (List.mem_of_getElem? (i := 0) rfl)
  have h1 : ls[1]? = some (.val (va_rf a1)) := hla (1, va_rf a1) (List.mem_of_getElem? (i := 1) rfl)
  clear hla
  generalize ([va_rf (some a0), va_rf a1] : List Value).toArray = args at C ⊢
  unfold wp_X8_begin at hw
  refine m_aldN C dX8_begin_0 rfl h0 ?_
  refine m_aldN C dX8_begin_1 rfl h1 ?_
  obtain ⟨b1, ho1, hw⟩ := hw
  obtain ⟨hk2, hw⟩ := hw
  refine m_getR C hW ho1 hk2 f_X8_101 rfl dX8_begin_2 ?_
  obtain ⟨hk3, hw⟩ := hw
  refine m_rI (m_runV (As := [va_rf (hR S b1 1)]) (rest := []) C hW hS hL (c_X8_leastFreeWorker hw) v_X8_316 ⟨rfl, rfl⟩ ⟨Nat.le_of_ble_eq_true rfl, Nat.le_of_ble_eq_true rfl⟩ rfl hk3 rfl rfl (Nat.le_of_ble_eq_true rfl) dX8_begin_5 ⟨Nat.le_of_ble_eq_true rfl, Nat.le_of_ble_eq_true rfl⟩) hS (fun r5 S4 H locs hw hW hS => ?_)
  refine m_istN C hL dX8_begin_8 rfl (by decide) (fun ls hL hn9 hk9 => ?_)
  have h0 := hk9 0 _ h0 (by decide) (Or.inl (by decide))
  have h1 := hk9 1 _ h1 (by decide) (Or.inr (va_rf_cat _))
  have h2 := hn9
  refine lv_iload_n C.1 C.2.1 dX8_begin_9 rfl h2 ?_
  refine lv_iconst (v := (-1)) C.1 C.2.1 dX8_begin_10 (by decide) ?_
  refine lv_icmp_ne (tgt := 15) C.1 C.2.1 dX8_begin_11 (by decide) (fun hc6 => ?_) (fun hc6 => ?_)
  · have hw := hw.2 hc6
    refine m_aldN C dX8_begin_15 rfl h0 ?_
    obtain ⟨hk7, hw⟩ := hw
    refine m_getR C hW rfl hk7 f_X8_24 rfl dX8_begin_16 ?_
    refine lv_iload_n C.1 C.2.1 dX8_begin_19 rfl h2 ?_
    refine m_aldN C dX8_begin_20 rfl h1 ?_
    obtain ⟨b8, ho8, hw⟩ := hw
    obtain ⟨hk9, hw⟩ := hw
    obtain ⟨hi10, hw⟩ := hw
    obtain ⟨hk11, hw⟩ := hw
    refine m_aast C hW hS ho8 hk9 (by decide) (by decide) hi10 (fun bb9 zz9 => by obtain rfl : b1 = bb9 := Option.some.inj ((ho1).symm.trans zz9); exact Or.inr ⟨by decide, hk11⟩) dX8_begin_21 (fun H locs hW hS => ?_)
    refine m_aldN C dX8_begin_22 rfl h1 ?_
    refine m_getR C hW ho1 hk11 f_X8_70 rfl dX8_begin_23 ?_
    refine lv_iload_n C.1 C.2.1 dX8_begin_26 rfl h2 ?_
    obtain ⟨b12, ho12, hw⟩ := hw
    obtain ⟨hk13, hw⟩ := hw
    refine m_putI C hW hS ho12 hk13 p_X8_285 (fun z => by cases z) rfl dX8_begin_27 (fun H locs hW hS => ?_)
    refine m_aldN C dX8_begin_30 rfl h1 ?_
    refine m_getR C hW ho1 hk11 f_X8_70 rfl dX8_begin_31 ?_
    refine m_aldN C dX8_begin_34 rfl h0 ?_
    refine m_getI C hW rfl hk7 f_X8_112 rfl dX8_begin_35 ?_
    obtain ⟨b14, ho14, hw⟩ := hw
    obtain ⟨hk15, hw⟩ := hw
    refine m_putI C hW hS ho14 hk15 p_X8_282 (fun z => by cases z) rfl dX8_begin_38 (fun H locs hW hS => ?_)
    refine m_aldN C dX8_begin_41 rfl h1 ?_
    refine m_getR C hW ho1 hk11 f_X8_101 rfl dX8_begin_42 ?_
    refine lv_dup C.1 C.2.1 dX8_begin_45 (va_rf_cat _) ?_
    obtain ⟨b16, ho16, hw⟩ := hw
    obtain ⟨hk17, hw⟩ := hw
    refine m_getI C hW ho16 hk17 f_X8_150 rfl dX8_begin_46 ?_
    refine lv_iconst (v := 1) C.1 C.2.1 dX8_begin_49 (by decide) ?_
    refine lv_isub C.1 C.2.1 dX8_begin_50 ?_
    refine m_putI C hW hS ho16 hk17 p_X8_150 (fun z => by cases z) rfl dX8_begin_51 (fun H locs hW hS => ?_)
    refine m_aldN C dX8_begin_54 rfl h0 ?_
    refine lv_dup C.1 C.2.1 dX8_begin_55 (va_rf_cat _) ?_
    refine m_getI C hW rfl hk7 f_X8_124 rfl dX8_begin_56 ?_
    refine lv_iconst (v := 1) C.1 C.2.1 dX8_begin_59 (by decide) ?_
    refine lv_iadd C.1 C.2.1 dX8_begin_60 ?_
    refine m_putI C hW hS rfl hk7 p_X8_124 (fun z => by cases z) rfl dX8_begin_61 (fun H locs hW hS => ?_)
    refine m_aldN C dX8_begin_64 rfl h0 ?_
    refine m_aldN C dX8_begin_65 rfl h1 ?_
    refine m_rV (m_runV (As := [va_rf a1]) (rest := []) C hW hS hL (c_X8_takeMachines hw) v_X8_320 ⟨rfl, rfl⟩ ⟨Nat.le_of_ble_eq_true rfl, Nat.le_of_ble_eq_true rfl⟩ rfl hk7 rfl rfl (Nat.le_of_ble_eq_true rfl) dX8_begin_66 ⟨Nat.le_of_ble_eq_true rfl, Nat.le_of_ble_eq_true rfl⟩) hS (fun S18 H locs hw hW hS => ?_)
    refine m_aldN C dX8_begin_69 rfl h1 ?_
    obtain ⟨hk19, hw⟩ := hw
    refine m_getR C hW ho1 hk19 f_X8_201 rfl dX8_begin_70 ?_
    refine m_astN C hL dX8_begin_73 rfl (by decide) (fun ls hL hn9 hk9 => ?_)
    have h0 := hk9 0 _ h0 (by decide) (Or.inl (by decide))
    have h1 := hk9 1 _ h1 (by decide) (Or.inl (by decide))
    have h3 := hn9
    refine lv_iconst (v := 0) C.1 C.2.1 dX8_begin_74 (by decide) ?_
    refine m_ist C hL dX8_begin_75 (by decide) (fun ls hL hn9 hk9 => ?_)
    have h0 := hk9 0 _ h0 (by decide) (Or.inl (by decide))
    have h1 := hk9 1 _ h1 (by decide) (Or.inl (by decide))
    have h3 := hk9 3 _ h3 (by decide) (Or.inr (va_rf_cat _))
    have h4 := hn9
    rw [ho1] at h1
    exact w_X8_begin_L77 C  FU S18 0 H locs ls hW hS hL h0 h1 h3 h4 hw
  · have hw := hw.1 hc6
    exact m_vret C hW hS hw dX8_begin_14
def wp_X8_beginJobs_L4 (l0 : Nat) (Q : Hp → Prop) : Nat → Hp → Int32 → Int32 → Prop
  | 0, _, _, _ => False
  | n + 1, S, l1, l2 => hK S l0 = 10 ∧ ((hI S l0 14) ≤ l2 → Q (sI S l0 14 l1)) ∧ (¬ ((hI S l0 14) ≤ l2) → ∃ b3 : Nat, (hR S l0 5) = some b3 ∧ hK S b3 = 19 ∧ vp_in l2 (hN S b3) ∧ wp_X8_canBegin S l0 (hR S b3 (l2 : Int32).toNatClampNeg) (fun r7 S6 => (r7 = 0 → ∃ b9 : Nat, (hR S b3 (l2 : Int32).toNatClampNeg) = some b9 ∧ hK S6 b9 = 6 ∧ ∃ b11 : Nat, (hR S6 b9 15) = some b11 ∧ hK S6 b11 = 12 ∧ ((hI S6 b11 0) = 0 → hK S6 l0 = 10 ∧ ∃ b15 : Nat, (hR S6 l0 5) = some b15 ∧ hK S6 b15 = 19 ∧ vp_in l1 (hN S6 b15) ∧ wp_X8_beginJobs_L4 l0 Q n (sR S6 b15 (l1 : Int32).toNatClampNeg (hR S b3 (l2 : Int32).toNatClampNeg)) (l1 + 1) (l2 + 1)) ∧ (¬ ((hI S6 b11 0) = 0) → wp_X8_beginJobs_L4 l0 Q n S6 l1 (l2 + 1))) ∧ (¬ (r7 = 0) → hK S6 l0 = 10 ∧ wp_X8_begin S6 l0 (hR S b3 (l2 : Int32).toNatClampNeg) (fun S19 => wp_X8_beginJobs_L4 l0 Q n S19 l1 (l2 + 1)))))
def wp_X8_beginJobs (S : Hp) (a0 : Nat) (Q : Hp → Prop) : Prop := wp_X8_beginJobs_L4 a0 Q FU S 0 0
set_option maxRecDepth 100000 in
set_option maxHeartbeats 4000000 in
theorem w_X8_beginJobs_L4 {p : Program} {l : Launch} {e : Env} {s : State} {m : MethodId} {args : Array Value} {below : List Frame} {meth : Method} {c : Code} {G : GX} {Q : Hp → Prop} {l0 : Nat} (C : Cx p s m args meth c cX8_beginJobs 4 RX8 none "beginJobs" G) :
    ∀ (n : Nat) (S : Hp) (l1 : Int32) (l2 : Int32) (H : Heap) (locs : List Loc) (ls : Array Slot), wd G S H → va_S G.2.2.1 s.heap H locs → LV ls 4 → ls[0]? = some (.val (va_rf (some l0))) → ls[1]? = some (.val (.int l1)) → ls[2]? = some (.val (.int l2)) → wp_X8_beginJobs_L4 l0 Q n S l1 l2 → W p l e ({ frames := 2, cells := 0, slots := 0, locals := 50 } : Room) s m args below meth c H locs 0 0 (MQ below (QV G Q) args s 0 0 G.2.2.1) (F0 m 4 ls []) := by
  intro n
  induction n with
  | zero =>
    intro S l1 l2 H locs ls hW hS hL h0 h1 h2 hw
    exact False.elim hw
  | succ n ih =>
    intro S l1 l2 H locs ls hW hS hL h0 h1 h2 hw
    unfold wp_X8_beginJobs_L4 at hw
    refine lv_iload_n C.1 C.2.1 dX8_beginJobs_4 rfl h2 ?_
    refine m_aldN C dX8_beginJobs_5 rfl h0 ?_
    obtain ⟨hk1, hw⟩ := hw
    refine m_getI C hW rfl hk1 f_X8_121 rfl dX8_beginJobs_6 ?_
    refine lv_icmp_ge (tgt := 61) C.1 C.2.1 dX8_beginJobs_9 (by decide) (fun hc2 => ?_) (fun hc2 => ?_)
    · have hw := hw.1 hc2
      refine m_aldN C dX8_beginJobs_61 rfl h0 ?_
      refine lv_iload_n C.1 C.2.1 dX8_beginJobs_62 rfl h1 ?_
      refine m_putI C hW hS rfl hk1 p_X8_121 (fun z => by cases z) rfl dX8_beginJobs_63 (fun H locs hW hS => ?_)
      exact m_vret C hW hS hw dX8_beginJobs_66
    · have hw := hw.2 hc2
      refine m_aldN C dX8_beginJobs_12 rfl h0 ?_
      refine m_getR C hW rfl hk1 f_X8_28 rfl dX8_beginJobs_13 ?_
      refine lv_iload_n C.1 C.2.1 dX8_beginJobs_16 rfl h2 ?_
      obtain ⟨b3, ho3, hw⟩ := hw
      obtain ⟨hk4, hw⟩ := hw
      obtain ⟨hi5, hw⟩ := hw
      refine m_aald C hW ho3 hk4 (by decide) (by decide) hi5 dX8_beginJobs_17 ?_
      refine m_astN C hL dX8_beginJobs_18 rfl (by decide) (fun ls hL hn9 hk9 => ?_)
      have h0 := hk9 0 _ h0 (by decide) (Or.inl (by decide))
      have h1 := hk9 1 _ h1 (by decide) (Or.inl (by decide))
      have h2 := hk9 2 _ h2 (by decide) (Or.inr (rfl))
      have h3 := hn9
      refine m_aldN C dX8_beginJobs_19 rfl h0 ?_
      refine m_aldN C dX8_beginJobs_20 rfl h3 ?_
      refine m_rI (m_runV (As := [va_rf (hR S b3 (l2 : Int32).toNatClampNeg)]) (rest := []) C hW hS hL (c_X8_canBegin hw) v_X8_306 ⟨rfl, rfl⟩ ⟨Nat.le_of_ble_eq_true rfl, Nat.le_of_ble_eq_true rfl⟩ rfl hk1 rfl rfl (Nat.le_of_ble_eq_true rfl) dX8_beginJobs_21 ⟨Nat.le_of_ble_eq_true rfl, Nat.le_of_ble_eq_true rfl⟩) hS (fun r7 S6 H locs hw hW hS => ?_)
      refine lv_if_eq (tgt := 35) C.1 C.2.1 dX8_beginJobs_24 (by decide) (fun hc8 => ?_) (fun hc8 => ?_)
      · have hw := hw.1 hc8
        refine m_aldN C dX8_beginJobs_35 rfl h3 ?_
        obtain ⟨b9, ho9, hw⟩ := hw
        obtain ⟨hk10, hw⟩ := hw
        refine m_getR C hW ho9 hk10 f_X8_70 rfl dX8_beginJobs_36 ?_
        obtain ⟨b11, ho11, hw⟩ := hw
        obtain ⟨hk12, hw⟩ := hw
        refine m_getI C hW ho11 hk12 f_X8_74 rfl dX8_beginJobs_39 ?_
        refine lv_if_ne (tgt := 55) C.1 C.2.1 dX8_beginJobs_42 (by decide) (fun hc13 => ?_) (fun hc13 => ?_)
        · have hw := hw.2 hc13
          refine m_iinc (v := (l2 + 1)) C hL dX8_beginJobs_55 h2 rfl (by decide) (fun ls hL hn9 hk9 => ?_)
          have h0 := hk9 0 _ h0 (by decide) (Or.inl (by decide))
          have h1 := hk9 1 _ h1 (by decide) (Or.inr (rfl))
          have h2 := hn9
          refine lv_goto (tgt := 4) C.1 C.2.1 dX8_beginJobs_58 (by decide) ?_
          exact ih S6 l1 (l2 + 1) H locs ls hW hS hL h0 h1 h2 hw
        · have hw := hw.1 hc13
          refine m_aldN C dX8_beginJobs_45 rfl h0 ?_
          obtain ⟨hk14, hw⟩ := hw
          refine m_getR C hW rfl hk14 f_X8_28 rfl dX8_beginJobs_46 ?_
          refine lv_iload_n C.1 C.2.1 dX8_beginJobs_49 rfl h1 ?_
          refine m_aldN C dX8_beginJobs_50 rfl h3 ?_
          obtain ⟨b15, ho15, hw⟩ := hw
          obtain ⟨hk16, hw⟩ := hw
          obtain ⟨hi17, hw⟩ := hw
          refine m_aast C hW hS ho15 hk16 (by decide) (by decide) hi17 (fun bb9 zz9 => by obtain rfl : b9 = bb9 := Option.some.inj ((ho9).symm.trans zz9); exact Or.inr ⟨by decide, hk10⟩) dX8_beginJobs_51 (fun H locs hW hS => ?_)
          refine m_iinc (v := (l1 + 1)) C hL dX8_beginJobs_52 h1 rfl (by decide) (fun ls hL hn9 hk9 => ?_)
          have h0 := hk9 0 _ h0 (by decide) (Or.inr (va_rf_cat _))
          have h2 := hk9 2 _ h2 (by decide) (Or.inl (by decide))
          have h1 := hn9
          refine m_iinc (v := (l2 + 1)) C hL dX8_beginJobs_55 h2 rfl (by decide) (fun ls hL hn9 hk9 => ?_)
          have h0 := hk9 0 _ h0 (by decide) (Or.inl (by decide))
          have h1 := hk9 1 _ h1 (by decide) (Or.inr (rfl))
          have h2 := hn9
          refine lv_goto (tgt := 4) C.1 C.2.1 dX8_beginJobs_58 (by decide) ?_
          exact ih (sR S6 b15 (l1 : Int32).toNatClampNeg (hR S b3 (l2 : Int32).toNatClampNeg)) (l1 + 1) (l2 + 1) H locs ls hW hS hL h0 h1 h2 hw
      · have hw := hw.2 hc8
        refine m_aldN C dX8_beginJobs_27 rfl h0 ?_
        refine m_aldN C dX8_beginJobs_28 rfl h3 ?_
        obtain ⟨hk18, hw⟩ := hw
        refine m_rV (m_runV (As := [va_rf (hR S b3 (l2 : Int32).toNatClampNeg)]) (rest := []) C hW hS hL (c_X8_begin hw) v_X8_309 ⟨rfl, rfl⟩ ⟨Nat.le_of_ble_eq_true rfl, Nat.le_of_ble_eq_true rfl⟩ rfl hk18 rfl rfl (Nat.le_of_ble_eq_true rfl) dX8_beginJobs_29 ⟨Nat.le_of_ble_eq_true rfl, Nat.le_of_ble_eq_true rfl⟩) hS (fun S19 H locs hw hW hS => ?_)
        refine lv_goto (tgt := 55) C.1 C.2.1 dX8_beginJobs_32 (by decide) ?_
        refine m_iinc (v := (l2 + 1)) C hL dX8_beginJobs_55 h2 rfl (by decide) (fun ls hL hn9 hk9 => ?_)
        have h0 := hk9 0 _ h0 (by decide) (Or.inl (by decide))
        have h1 := hk9 1 _ h1 (by decide) (Or.inr (rfl))
        have h2 := hn9
        refine lv_goto (tgt := 4) C.1 C.2.1 dX8_beginJobs_58 (by decide) ?_
        exact ih S19 l1 (l2 + 1) H locs ls hW hS hL h0 h1 h2 hw
set_option maxRecDepth 100000 in
set_option maxHeartbeats 4000000 in
theorem c_X8_beginJobs {l : Launch} {G : GX} {S : Hp} {a0 : Nat} {Q : Hp → Prop} (hw : wp_X8_beginJobs S a0 Q) : Met l yX8_beginJobs (Cond.code yX8_beginJobs cX8_beginJobs 4 none :: TS) { frames := 2, cells := 0, slots := 0, locals := 50 } (Pk G S [va_rf (some a0)]) (QV G Q) 0 0 G.2.2.1 := by
  refine m_met (by decide) ?_
  intro p e s m below meth c H locs C hW hS
  have C : Cx p s m ([va_rf (some a0)] : List Value).toArray meth c cX8_beginJobs 4 RX8 none "beginJobs" G := C
  obtain ⟨ls, hent, hL, hla⟩ := m_entry m (vs := [va_rf (some a0)]) (nn := 4) [1] rfl (by decide)
  rw [hent]
  have h0 : ls[0]? = some (.val (va_rf (some a0))) := hla (0, va_rf (some a0)) (List.mem_of_getElem? (i := 0) rfl)
  clear hla
  generalize ([va_rf (some a0)] : List Value).toArray = args at C ⊢
  unfold wp_X8_beginJobs at hw
  refine lv_iconst (v := 0) C.1 C.2.1 dX8_beginJobs_0 (by decide) ?_
  refine m_istN C hL dX8_beginJobs_1 rfl (by decide) (fun ls hL hn9 hk9 => ?_)
  have h0 := hk9 0 _ h0 (by decide) (Or.inr (va_rf_cat _))
  have h1 := hn9
  refine lv_iconst (v := 0) C.1 C.2.1 dX8_beginJobs_2 (by decide) ?_
  refine m_istN C hL dX8_beginJobs_3 rfl (by decide) (fun ls hL hn9 hk9 => ?_)
  have h0 := hk9 0 _ h0 (by decide) (Or.inl (by decide))
  have h1 := hk9 1 _ h1 (by decide) (Or.inr (rfl))
  have h2 := hn9
  exact w_X8_beginJobs_L4 C  FU S 0 0 H locs ls hW hS hL h0 h1 h2 hw
def wp_X8_nextMinute_L4 (l0 : Nat) (Q : Int32 → Hp → Prop) : Nat → Hp → Int32 → Int32 → Prop
  | 0, _, _, _ => False
  | n + 1, S, l2, l3 => hK S l0 = 10 ∧ ∃ b2 : Nat, (hR S l0 0) = some b2 ∧ hK S b2 = 11 ∧ ((hI S b2 2) ≤ l3 → Q l2 S) ∧ (¬ ((hI S b2 2) ≤ l3) → ∃ b5 : Nat, (hR S l0 4) = some b5 ∧ hK S b5 = 19 ∧ vp_in l3 (hN S b5) ∧ ((hR S b5 (l3 : Int32).toNatClampNeg) = none → wp_X8_nextMinute_L4 l0 Q n S l2 (l3 + 1)) ∧ (¬ ((hR S b5 (l3 : Int32).toNatClampNeg) = none) → ∃ b9 : Nat, (hR S b5 (l3 : Int32).toNatClampNeg) = some b9 ∧ hK S b9 = 6 ∧ wp_X4_endMinute S b9 (fun r12 S11 => ∀ x13 : Int32, x13 = (if r12 < l2 then r12 else l2) → wp_X8_nextMinute_L4 l0 Q n S11 x13 (l3 + 1))))
def wp_X8_nextMinute (S : Hp) (a0 : Nat) (a1 : Int32) (Q : Int32 → Hp → Prop) : Prop := wp_X8_nextMinute_L4 a0 Q FU S a1 0
set_option maxRecDepth 100000 in
set_option maxHeartbeats 4000000 in
theorem w_X8_nextMinute_L4 {p : Program} {l : Launch} {e : Env} {s : State} {m : MethodId} {args : Array Value} {below : List Frame} {meth : Method} {c : Code} {G : GX} {Q : Int32 → Hp → Prop} {l0 : Nat} (C : Cx p s m args meth c cX8_nextMinute 5 RX8 (some .int) "nextMinute" G) :
    ∀ (n : Nat) (S : Hp) (l2 : Int32) (l3 : Int32) (H : Heap) (locs : List Loc) (ls : Array Slot), wd G S H → va_S G.2.2.1 s.heap H locs → LV ls 5 → ls[0]? = some (.val (va_rf (some l0))) → ls[2]? = some (.val (.int l2)) → ls[3]? = some (.val (.int l3)) → wp_X8_nextMinute_L4 l0 Q n S l2 l3 → W p l e ({ frames := 2, cells := 0, slots := 0, locals := 40 } : Room) s m args below meth c H locs 0 0 (MQ below (QI G Q) args s 0 0 G.2.2.1) (F0 m 4 ls []) := by
  intro n
  induction n with
  | zero =>
    intro S l2 l3 H locs ls hW hS hL h0 h2 h3 hw
    exact False.elim hw
  | succ n ih =>
    intro S l2 l3 H locs ls hW hS hL h0 h2 h3 hw
    unfold wp_X8_nextMinute_L4 at hw
    refine lv_iload_n C.1 C.2.1 dX8_nextMinute_4 rfl h3 ?_
    refine m_aldN C dX8_nextMinute_5 rfl h0 ?_
    obtain ⟨hk1, hw⟩ := hw
    refine m_getR C hW rfl hk1 f_X8_45 rfl dX8_nextMinute_6 ?_
    obtain ⟨b2, ho2, hw⟩ := hw
    obtain ⟨hk3, hw⟩ := hw
    refine m_getI C hW ho2 hk3 f_X8_233 rfl dX8_nextMinute_9 ?_
    refine lv_icmp_ge (tgt := 44) C.1 C.2.1 dX8_nextMinute_12 (by decide) (fun hc4 => ?_) (fun hc4 => ?_)
    · have hw := hw.1 hc4
      refine lv_iload_n C.1 C.2.1 dX8_nextMinute_44 rfl h2 ?_
      exact m_iret C hW hS hw dX8_nextMinute_45
    · have hw := hw.2 hc4
      refine m_aldN C dX8_nextMinute_15 rfl h0 ?_
      refine m_getR C hW rfl hk1 f_X8_24 rfl dX8_nextMinute_16 ?_
      refine lv_iload_n C.1 C.2.1 dX8_nextMinute_19 rfl h3 ?_
      obtain ⟨b5, ho5, hw⟩ := hw
      obtain ⟨hk6, hw⟩ := hw
      obtain ⟨hi7, hw⟩ := hw
      refine m_aald C hW ho5 hk6 (by decide) (by decide) hi7 dX8_nextMinute_20 ?_
      refine m_ast_ C hL dX8_nextMinute_21 (by decide) (fun ls hL hn9 hk9 => ?_)
      have h0 := hk9 0 _ h0 (by decide) (Or.inl (by decide))
      have h2 := hk9 2 _ h2 (by decide) (Or.inl (by decide))
      have h3 := hk9 3 _ h3 (by decide) (Or.inr (rfl))
      have h4 := hn9
      refine m_ald C dX8_nextMinute_23 h4 ?_
      refine m_ifnull (tgt := 38) C dX8_nextMinute_25 (by decide) (fun hc8 => ?_) (fun hc8 => ?_)
      · have hw := hw.1 hc8
        refine m_iinc (v := (l3 + 1)) C hL dX8_nextMinute_38 h3 rfl (by decide) (fun ls hL hn9 hk9 => ?_)
        have h0 := hk9 0 _ h0 (by decide) (Or.inl (by decide))
        have h2 := hk9 2 _ h2 (by decide) (Or.inr (rfl))
        have h3 := hn9
        refine lv_goto (tgt := 4) C.1 C.2.1 dX8_nextMinute_41 (by decide) ?_
        exact ih S l2 (l3 + 1) H locs ls hW hS hL h0 h2 h3 hw
      · have hw := hw.2 hc8
        refine lv_iload_n C.1 C.2.1 dX8_nextMinute_28 rfl h2 ?_
        refine m_ald C dX8_nextMinute_29 h4 ?_
        obtain ⟨b9, ho9, hw⟩ := hw
        obtain ⟨hk10, hw⟩ := hw
        refine m_rI (m_runV (As := []) (rest := [.int l2]) C hW hS hL (c_X4_endMinute hw) v_X8_236 ⟨rfl, rfl⟩ ⟨Nat.le_of_ble_eq_true rfl, Nat.le_of_ble_eq_true rfl⟩ ho9 hk10 rfl rfl (Nat.le_of_ble_eq_true rfl) dX8_nextMinute_31 ⟨Nat.le_of_ble_eq_true rfl, Nat.le_of_ble_eq_true rfl⟩) hS (fun r12 S11 H locs hw hW hS => ?_)
        refine va_mmin C.1 C.2.1 (C.2.2.1.trans hL.1.symm) C.2.2.2.1 (C.2.2.2.2.1 _ tw_850) (C.2.2.2.2.1 _ tw_636) (C.2.2.2.2.1 _ tw_20) (C.2.2.2.2.1 _ tw_637) (Nat.le_of_ble_eq_true rfl) (Nat.le_of_ble_eq_true rfl) (Nat.le_of_ble_eq_true rfl) (Nat.le_of_ble_eq_true rfl) dX8_nextMinute_34 ?_
        refine lv_topi (fun x13 ex13 => ?_)
        have hw := hw x13 ex13
        refine m_istN C hL dX8_nextMinute_37 rfl (by decide) (fun ls hL hn9 hk9 => ?_)
        have h0 := hk9 0 _ h0 (by decide) (Or.inl (by decide))
        have h3 := hk9 3 _ h3 (by decide) (Or.inl (by decide))
        have h2 := hn9
        refine m_iinc (v := (l3 + 1)) C hL dX8_nextMinute_38 h3 rfl (by decide) (fun ls hL hn9 hk9 => ?_)
        have h0 := hk9 0 _ h0 (by decide) (Or.inl (by decide))
        have h2 := hk9 2 _ h2 (by decide) (Or.inr (rfl))
        have h3 := hn9
        refine lv_goto (tgt := 4) C.1 C.2.1 dX8_nextMinute_41 (by decide) ?_
        exact ih S11 x13 (l3 + 1) H locs ls hW hS hL h0 h2 h3 hw
set_option maxRecDepth 100000 in
set_option maxHeartbeats 4000000 in
theorem c_X8_nextMinute {l : Launch} {G : GX} {S : Hp} {a0 : Nat} {a1 : Int32} {Q : Int32 → Hp → Prop} (hw : wp_X8_nextMinute S a0 a1 Q) : Met l yX8_nextMinute (Cond.code yX8_nextMinute cX8_nextMinute 5 (some .int) :: TS) { frames := 2, cells := 0, slots := 0, locals := 40 } (Pk G S [va_rf (some a0), .int a1]) (QI G Q) 0 0 G.2.2.1 := by
  refine m_met (by decide) ?_
  intro p e s m below meth c H locs C hW hS
  have C : Cx p s m ([va_rf (some a0), .int a1] : List Value).toArray meth c cX8_nextMinute 5 RX8 (some .int) "nextMinute" G := C
  obtain ⟨ls, hent, hL, hla⟩ := m_entry m (vs := [va_rf (some a0), .int a1]) (nn := 5) [1, 1] rfl (by decide)
  rw [hent]
  have h0 : ls[0]? = some (.val (va_rf (some a0))) := hla (0, va_rf (some a0)) (List.mem_of_getElem? (i := 0) rfl)
  have h1 : ls[1]? = some (.val (.int a1)) := hla (1, .int a1) (List.mem_of_getElem? (i := 1) rfl)
  clear hla
  generalize ([va_rf (some a0), .int a1] : List Value).toArray = args at C ⊢
  unfold wp_X8_nextMinute at hw
  refine lv_iload_n C.1 C.2.1 dX8_nextMinute_0 rfl h1 ?_
  refine m_istN C hL dX8_nextMinute_1 rfl (by decide) (fun ls hL hn9 hk9 => ?_)
  have h0 := hk9 0 _ h0 (by decide) (Or.inl (by decide))
  have h2 := hn9
  refine lv_iconst (v := 0) C.1 C.2.1 dX8_nextMinute_2 (by decide) ?_
  refine m_istN C hL dX8_nextMinute_3 rfl (by decide) (fun ls hL hn9 hk9 => ?_)
  have h0 := hk9 0 _ h0 (by decide) (Or.inl (by decide))
  have h2 := hk9 2 _ h2 (by decide) (Or.inr (rfl))
  have h3 := hn9
  exact w_X8_nextMinute_L4 C  FU S a1 0 H locs ls hW hS hL h0 h2 h3 hw
def wp_X8_giveUp_L2 (l0 : Nat) (K41 : Hp → Prop) (Q : Hp → Prop) : Nat → Hp → Int32 → Prop
  | 0, _, _ => False
  | n + 1, S, l1 => hK S l0 = 10 ∧ ((hI S l0 14) ≤ l1 → K41 S) ∧ (¬ ((hI S l0 14) ≤ l1) → ∃ b3 : Nat, (hR S l0 5) = some b3 ∧ hK S b3 = 19 ∧ vp_in l1 (hN S b3) ∧ ∃ b6 : Nat, (hR S b3 (l1 : Int32).toNatClampNeg) = some b6 ∧ hK S b6 = 6 ∧ ∃ b8 : Nat, (hR S b6 15) = some b8 ∧ hK S b8 = 12 ∧ ((hI S b8 0) = 0 → vp_in l1 (hN S b3) ∧ wp_X8_turnAway S l0 (hR S b3 (l1 : Int32).toNatClampNeg) (fun S12 => wp_X8_giveUp_L2 l0 K41 Q n S12 (l1 + 1))) ∧ (¬ ((hI S b8 0) = 0) → wp_X8_giveUp_L2 l0 K41 Q n S (l1 + 1)))
def wp_X8_giveUp (S : Hp) (a0 : Nat) (Q : Hp → Prop) : Prop := wp_X8_giveUp_L2 a0 (fun (S13 : Hp) => hK S13 a0 = 10 ∧ ∃ b15 : Nat, (hR S13 a0 0) = some b15 ∧ hK S13 b15 = 11 ∧ ((hI S13 a0 12) = (hI S13 b15 7) → Q (sI S13 a0 9 0)) ∧ (¬ ((hI S13 a0 12) = (hI S13 b15 7)) → Q (sI S13 a0 9 1))) Q FU S 0
set_option maxRecDepth 100000 in
set_option maxHeartbeats 4000000 in
theorem w_X8_giveUp_L2 {p : Program} {l : Launch} {e : Env} {s : State} {m : MethodId} {args : Array Value} {below : List Frame} {meth : Method} {c : Code} {G : GX} {Q : Hp → Prop} {K41 : Hp → Prop} {l0 : Nat} (C : Cx p s m args meth c cX8_giveUp 2 RX8 none "giveUp" G)
    (k41 : ∀ (S : Hp) (H : Heap) (locs : List Loc) (ls : Array Slot), wd G S H → va_S G.2.2.1 s.heap H locs → LV ls 2 → ls[0]? = some (.val (va_rf (some l0))) → K41 S → W p l e ({ frames := 2, cells := 0, slots := 0, locals := 47 } : Room) s m args below meth c H locs 0 0 (MQ below (QV G Q) args s 0 0 G.2.2.1) (F0 m 41 ls [])) :
    ∀ (n : Nat) (S : Hp) (l1 : Int32) (H : Heap) (locs : List Loc) (ls : Array Slot), wd G S H → va_S G.2.2.1 s.heap H locs → LV ls 2 → ls[0]? = some (.val (va_rf (some l0))) → ls[1]? = some (.val (.int l1)) → wp_X8_giveUp_L2 l0 K41 Q n S l1 → W p l e ({ frames := 2, cells := 0, slots := 0, locals := 47 } : Room) s m args below meth c H locs 0 0 (MQ below (QV G Q) args s 0 0 G.2.2.1) (F0 m 2 ls []) := by
  intro n
  induction n with
  | zero =>
    intro S l1 H locs ls hW hS hL h0 h1 hw
    exact False.elim hw
  | succ n ih =>
    intro S l1 H locs ls hW hS hL h0 h1 hw
    unfold wp_X8_giveUp_L2 at hw
    refine lv_iload_n C.1 C.2.1 dX8_giveUp_2 rfl h1 ?_
    refine m_aldN C dX8_giveUp_3 rfl h0 ?_
    obtain ⟨hk1, hw⟩ := hw
    refine m_getI C hW rfl hk1 f_X8_121 rfl dX8_giveUp_4 ?_
    refine lv_icmp_ge (tgt := 41) C.1 C.2.1 dX8_giveUp_7 (by decide) (fun hc2 => ?_) (fun hc2 => ?_)
    · have hw := hw.1 hc2
      exact k41 S H locs ls hW hS hL h0 hw
    · have hw := hw.2 hc2
      refine m_aldN C dX8_giveUp_10 rfl h0 ?_
      refine m_getR C hW rfl hk1 f_X8_28 rfl dX8_giveUp_11 ?_
      refine lv_iload_n C.1 C.2.1 dX8_giveUp_14 rfl h1 ?_
      obtain ⟨b3, ho3, hw⟩ := hw
      obtain ⟨hk4, hw⟩ := hw
      obtain ⟨hi5, hw⟩ := hw
      refine m_aald C hW ho3 hk4 (by decide) (by decide) hi5 dX8_giveUp_15 ?_
      obtain ⟨b6, ho6, hw⟩ := hw
      obtain ⟨hk7, hw⟩ := hw
      refine m_getR C hW ho6 hk7 f_X8_70 rfl dX8_giveUp_16 ?_
      obtain ⟨b8, ho8, hw⟩ := hw
      obtain ⟨hk9, hw⟩ := hw
      refine m_getI C hW ho8 hk9 f_X8_74 rfl dX8_giveUp_19 ?_
      refine lv_if_ne (tgt := 35) C.1 C.2.1 dX8_giveUp_22 (by decide) (fun hc10 => ?_) (fun hc10 => ?_)
      · have hw := hw.2 hc10
        refine m_iinc (v := (l1 + 1)) C hL dX8_giveUp_35 h1 rfl (by decide) (fun ls hL hn9 hk9 => ?_)
        have h0 := hk9 0 _ h0 (by decide) (Or.inr (va_rf_cat _))
        have h1 := hn9
        refine lv_goto (tgt := 2) C.1 C.2.1 dX8_giveUp_38 (by decide) ?_
        exact ih S (l1 + 1) H locs ls hW hS hL h0 h1 hw
      · have hw := hw.1 hc10
        refine m_aldN C dX8_giveUp_25 rfl h0 ?_
        refine m_aldN C dX8_giveUp_26 rfl h0 ?_
        refine m_getR C hW rfl hk1 f_X8_28 rfl dX8_giveUp_27 ?_
        refine lv_iload_n C.1 C.2.1 dX8_giveUp_30 rfl h1 ?_
        obtain ⟨hi11, hw⟩ := hw
        refine m_aald C hW ho3 hk4 (by decide) (by decide) hi11 dX8_giveUp_31 ?_
        refine m_rV (m_runV (As := [va_rf (hR S b3 (l1 : Int32).toNatClampNeg)]) (rest := []) C hW hS hL (c_X8_turnAway hw) v_X8_197 ⟨rfl, rfl⟩ ⟨Nat.le_of_ble_eq_true rfl, Nat.le_of_ble_eq_true rfl⟩ rfl hk1 rfl rfl (Nat.le_of_ble_eq_true rfl) dX8_giveUp_32 ⟨Nat.le_of_ble_eq_true rfl, Nat.le_of_ble_eq_true rfl⟩) hS (fun S12 H locs hw hW hS => ?_)
        refine m_iinc (v := (l1 + 1)) C hL dX8_giveUp_35 h1 rfl (by decide) (fun ls hL hn9 hk9 => ?_)
        have h0 := hk9 0 _ h0 (by decide) (Or.inr (va_rf_cat _))
        have h1 := hn9
        refine lv_goto (tgt := 2) C.1 C.2.1 dX8_giveUp_38 (by decide) ?_
        exact ih S12 (l1 + 1) H locs ls hW hS hL h0 h1 hw
set_option maxRecDepth 100000 in
set_option maxHeartbeats 4000000 in
theorem c_X8_giveUp {l : Launch} {G : GX} {S : Hp} {a0 : Nat} {Q : Hp → Prop} (hw : wp_X8_giveUp S a0 Q) : Met l yX8_giveUp (Cond.code yX8_giveUp cX8_giveUp 2 none :: TS) { frames := 2, cells := 0, slots := 0, locals := 47 } (Pk G S [va_rf (some a0)]) (QV G Q) 0 0 G.2.2.1 := by
  refine m_met (by decide) ?_
  intro p e s m below meth c H locs C hW hS
  have C : Cx p s m ([va_rf (some a0)] : List Value).toArray meth c cX8_giveUp 2 RX8 none "giveUp" G := C
  obtain ⟨ls, hent, hL, hla⟩ := m_entry m (vs := [va_rf (some a0)]) (nn := 2) [1] rfl (by decide)
  rw [hent]
  have h0 : ls[0]? = some (.val (va_rf (some a0))) := hla (0, va_rf (some a0)) (List.mem_of_getElem? (i := 0) rfl)
  clear hla
  generalize ([va_rf (some a0)] : List Value).toArray = args at C ⊢
  unfold wp_X8_giveUp at hw
  refine lv_iconst (v := 0) C.1 C.2.1 dX8_giveUp_0 (by decide) ?_
  refine m_istN C hL dX8_giveUp_1 rfl (by decide) (fun ls hL hn9 hk9 => ?_)
  have h0 := hk9 0 _ h0 (by decide) (Or.inr (va_rf_cat _))
  have h1 := hn9
  refine w_X8_giveUp_L2 C ?_ FU S 0 H locs ls hW hS hL h0 h1 hw
  · intro S13 H locs ls hW hS hL h0 hw
    refine m_aldN C dX8_giveUp_41 rfl h0 ?_
    refine m_aldN C dX8_giveUp_42 rfl h0 ?_
    obtain ⟨hk14, hw⟩ := hw
    refine m_getI C hW rfl hk14 f_X8_118 rfl dX8_giveUp_43 ?_
    refine m_aldN C dX8_giveUp_46 rfl h0 ?_
    refine m_getR C hW rfl hk14 f_X8_45 rfl dX8_giveUp_47 ?_
    obtain ⟨b15, ho15, hw⟩ := hw
    obtain ⟨hk16, hw⟩ := hw
    refine m_getI C hW ho15 hk16 f_X8_79 rfl dX8_giveUp_50 ?_
    refine lv_icmp_ne (tgt := 60) C.1 C.2.1 dX8_giveUp_53 (by decide) (fun hc17 => ?_) (fun hc17 => ?_)
    · have hw := hw.2 hc17
      refine lv_iconst (v := 1) C.1 C.2.1 dX8_giveUp_60 (by decide) ?_
      refine m_putI C hW hS rfl hk14 p_X8_66 (fun z => by cases z) rfl dX8_giveUp_61 (fun H locs hW hS => ?_)
      exact m_vret C hW hS hw dX8_giveUp_64
    · have hw := hw.1 hc17
      refine lv_iconst (v := 0) C.1 C.2.1 dX8_giveUp_56 (by decide) ?_
      refine lv_goto (tgt := 61) C.1 C.2.1 dX8_giveUp_57 (by decide) ?_
      refine m_putI C hW hS rfl hk14 p_X8_66 (fun z => by cases z) rfl dX8_giveUp_61 (fun H locs hW hS => ?_)
      exact m_vret C hW hS hw dX8_giveUp_64
def wp_X8_someoneWouldBegin_L2 (l0 : Nat) (Q : Int32 → Hp → Prop) : Nat → Hp → Int32 → Prop
  | 0, _, _ => False
  | n + 1, S, l1 => hK S l0 = 10 ∧ ((hI S l0 14) ≤ l1 → Q 0 S) ∧ (¬ ((hI S l0 14) ≤ l1) → ∃ b3 : Nat, (hR S l0 5) = some b3 ∧ hK S b3 = 19 ∧ vp_in l1 (hN S b3) ∧ wp_X8_canBegin S l0 (hR S b3 (l1 : Int32).toNatClampNeg) (fun r7 S6 => (r7 = 0 → wp_X8_someoneWouldBegin_L2 l0 Q n S6 (l1 + 1)) ∧ (¬ (r7 = 0) → Q 1 S6)))
def wp_X8_someoneWouldBegin (S : Hp) (a0 : Nat) (Q : Int32 → Hp → Prop) : Prop := wp_X8_someoneWouldBegin_L2 a0 Q FU S 0
set_option maxRecDepth 100000 in
set_option maxHeartbeats 4000000 in
theorem w_X8_someoneWouldBegin_L2 {p : Program} {l : Launch} {e : Env} {s : State} {m : MethodId} {args : Array Value} {below : List Frame} {meth : Method} {c : Code} {G : GX} {Q : Int32 → Hp → Prop} {l0 : Nat} (C : Cx p s m args meth c cX8_someoneWouldBegin 2 RX8 (some .boolean) "someoneWouldBegin" G) :
    ∀ (n : Nat) (S : Hp) (l1 : Int32) (H : Heap) (locs : List Loc) (ls : Array Slot), wd G S H → va_S G.2.2.1 s.heap H locs → LV ls 2 → ls[0]? = some (.val (va_rf (some l0))) → ls[1]? = some (.val (.int l1)) → wp_X8_someoneWouldBegin_L2 l0 Q n S l1 → W p l e ({ frames := 2, cells := 0, slots := 0, locals := 43 } : Room) s m args below meth c H locs 0 0 (MQ below (QI G Q) args s 0 0 G.2.2.1) (F0 m 2 ls []) := by
  intro n
  induction n with
  | zero =>
    intro S l1 H locs ls hW hS hL h0 h1 hw
    exact False.elim hw
  | succ n ih =>
    intro S l1 H locs ls hW hS hL h0 h1 hw
    unfold wp_X8_someoneWouldBegin_L2 at hw
    refine lv_iload_n C.1 C.2.1 dX8_someoneWouldBegin_2 rfl h1 ?_
    refine m_aldN C dX8_someoneWouldBegin_3 rfl h0 ?_
    obtain ⟨hk1, hw⟩ := hw
    refine m_getI C hW rfl hk1 f_X8_121 rfl dX8_someoneWouldBegin_4 ?_
    refine lv_icmp_ge (tgt := 31) C.1 C.2.1 dX8_someoneWouldBegin_7 (by decide) (fun hc2 => ?_) (fun hc2 => ?_)
    · have hw := hw.1 hc2
      refine lv_iconst (v := 0) C.1 C.2.1 dX8_someoneWouldBegin_31 (by decide) ?_
      exact m_zret C hW hS (by decide) hw dX8_someoneWouldBegin_32
    · have hw := hw.2 hc2
      refine m_aldN C dX8_someoneWouldBegin_10 rfl h0 ?_
      refine m_aldN C dX8_someoneWouldBegin_11 rfl h0 ?_
      refine m_getR C hW rfl hk1 f_X8_28 rfl dX8_someoneWouldBegin_12 ?_
      refine lv_iload_n C.1 C.2.1 dX8_someoneWouldBegin_15 rfl h1 ?_
      obtain ⟨b3, ho3, hw⟩ := hw
      obtain ⟨hk4, hw⟩ := hw
      obtain ⟨hi5, hw⟩ := hw
      refine m_aald C hW ho3 hk4 (by decide) (by decide) hi5 dX8_someoneWouldBegin_16 ?_
      refine m_rI (m_runV (As := [va_rf (hR S b3 (l1 : Int32).toNatClampNeg)]) (rest := []) C hW hS hL (c_X8_canBegin hw) v_X8_306 ⟨rfl, rfl⟩ ⟨Nat.le_of_ble_eq_true rfl, Nat.le_of_ble_eq_true rfl⟩ rfl hk1 rfl rfl (Nat.le_of_ble_eq_true rfl) dX8_someoneWouldBegin_17 ⟨Nat.le_of_ble_eq_true rfl, Nat.le_of_ble_eq_true rfl⟩) hS (fun r7 S6 H locs hw hW hS => ?_)
      refine lv_if_eq (tgt := 25) C.1 C.2.1 dX8_someoneWouldBegin_20 (by decide) (fun hc8 => ?_) (fun hc8 => ?_)
      · have hw := hw.1 hc8
        refine m_iinc (v := (l1 + 1)) C hL dX8_someoneWouldBegin_25 h1 rfl (by decide) (fun ls hL hn9 hk9 => ?_)
        have h0 := hk9 0 _ h0 (by decide) (Or.inr (va_rf_cat _))
        have h1 := hn9
        refine lv_goto (tgt := 2) C.1 C.2.1 dX8_someoneWouldBegin_28 (by decide) ?_
        exact ih S6 (l1 + 1) H locs ls hW hS hL h0 h1 hw
      · have hw := hw.2 hc8
        refine lv_iconst (v := 1) C.1 C.2.1 dX8_someoneWouldBegin_23 (by decide) ?_
        exact m_zret C hW hS (by decide) hw dX8_someoneWouldBegin_24
set_option maxRecDepth 100000 in
set_option maxHeartbeats 4000000 in
theorem c_X8_someoneWouldBegin {l : Launch} {G : GX} {S : Hp} {a0 : Nat} {Q : Int32 → Hp → Prop} (hw : wp_X8_someoneWouldBegin S a0 Q) : Met l yX8_someoneWouldBegin (Cond.code yX8_someoneWouldBegin cX8_someoneWouldBegin 2 (some .boolean) :: TS) { frames := 2, cells := 0, slots := 0, locals := 43 } (Pk G S [va_rf (some a0)]) (QI G Q) 0 0 G.2.2.1 := by
  refine m_met (by decide) ?_
  intro p e s m below meth c H locs C hW hS
  have C : Cx p s m ([va_rf (some a0)] : List Value).toArray meth c cX8_someoneWouldBegin 2 RX8 (some .boolean) "someoneWouldBegin" G := C
  obtain ⟨ls, hent, hL, hla⟩ := m_entry m (vs := [va_rf (some a0)]) (nn := 2) [1] rfl (by decide)
  rw [hent]
  have h0 : ls[0]? = some (.val (va_rf (some a0))) := hla (0, va_rf (some a0)) (List.mem_of_getElem? (i := 0) rfl)
  clear hla
  generalize ([va_rf (some a0)] : List Value).toArray = args at C ⊢
  unfold wp_X8_someoneWouldBegin at hw
  refine lv_iconst (v := 0) C.1 C.2.1 dX8_someoneWouldBegin_0 (by decide) ?_
  refine m_istN C hL dX8_someoneWouldBegin_1 rfl (by decide) (fun ls hL hn9 hk9 => ?_)
  have h0 := hk9 0 _ h0 (by decide) (Or.inr (va_rf_cat _))
  have h1 := hn9
  exact w_X8_someoneWouldBegin_L2 C  FU S 0 H locs ls hW hS hL h0 h1 hw
def wp_X8_interruptAll_L2 (l0 : Nat) (Q : Hp → Prop) : Nat → Hp → Int32 → Prop
  | 0, _, _ => False
  | n + 1, S, l1 => hK S l0 = 10 ∧ ∃ b2 : Nat, (hR S l0 0) = some b2 ∧ hK S b2 = 11 ∧ ((hI S b2 2) ≤ l1 → Q S) ∧ (¬ ((hI S b2 2) ≤ l1) → ∃ b5 : Nat, (hR S l0 4) = some b5 ∧ hK S b5 = 19 ∧ vp_in l1 (hN S b5) ∧ ((hR S b5 (l1 : Int32).toNatClampNeg) = none → wp_X8_interruptAll_L2 l0 Q n S (l1 + 1)) ∧ (¬ ((hR S b5 (l1 : Int32).toNatClampNeg) = none) → wp_X8_leave S l0 (hR S b5 (l1 : Int32).toNatClampNeg) 4 4 (fun S9 => ∃ b10 : Nat, (hR S b5 (l1 : Int32).toNatClampNeg) = some b10 ∧ hK S9 b10 = 6 ∧ ∃ b12 : Nat, (hR S9 b10 10) = some b12 ∧ hK S9 b12 = 9 ∧ ∃ J15 : Int32 → Prop, J15 = (fun (x16 : Int32) => ∃ b17 : Nat, (hR S9 b10 15) = some b17 ∧ hK S9 b17 = 12 ∧ ∃ J20 : Int32 → Prop, J20 = (fun (x21 : Int32) => (x16 = 0 → hK (sI S9 b17 5 1) l0 = 10 ∧ wp_X8_bringBackRest (sI S9 b17 5 1) l0 (hR S b5 (l1 : Int32).toNatClampNeg) (fun S24 => wp_X8_interruptAll_L2 l0 Q n S24 (l1 + 1))) ∧ (¬ (x16 = 0) → (x21 = 0 → hK (sI S9 b17 5 1) l0 = 10 ∧ wp_X8_bringBackRest (sI S9 b17 5 1) l0 (hR S b5 (l1 : Int32).toNatClampNeg) (fun S27 => wp_X8_interruptAll_L2 l0 Q n S27 (l1 + 1))) ∧ (¬ (x21 = 0) → hK (sI S9 b17 5 2) l0 = 10 ∧ wp_X8_bringBackRest (sI S9 b17 5 2) l0 (hR S b5 (l1 : Int32).toNatClampNeg) (fun S29 => wp_X8_interruptAll_L2 l0 Q n S29 (l1 + 1))))) ∧ (((hI S9 b10 2) / 2) ≤ (hI S9 b17 4) → J20 0) ∧ (¬ (((hI S9 b10 2) / 2) ≤ (hI S9 b17 4)) → J20 1)) ∧ ((hI S9 b12 0) = 0 → J15 0) ∧ (¬ ((hI S9 b12 0) = 0) → J15 1))))
def wp_X8_interruptAll (S : Hp) (a0 : Nat) (Q : Hp → Prop) : Prop := wp_X8_interruptAll_L2 a0 Q FU S 0
set_option maxRecDepth 100000 in
set_option maxHeartbeats 4000000 in
theorem w_X8_interruptAll_L2 {p : Program} {l : Launch} {e : Env} {s : State} {m : MethodId} {args : Array Value} {below : List Frame} {meth : Method} {c : Code} {G : GX} {Q : Hp → Prop} {l0 : Nat} (C : Cx p s m args meth c cX8_interruptAll 5 RX8 none "interruptAll" G) :
    ∀ (n : Nat) (S : Hp) (l1 : Int32) (H : Heap) (locs : List Loc) (ls : Array Slot), wd G S H → va_S G.2.2.1 s.heap H locs → LV ls 5 → ls[0]? = some (.val (va_rf (some l0))) → ls[1]? = some (.val (.int l1)) → wp_X8_interruptAll_L2 l0 Q n S l1 → W p l e ({ frames := 2, cells := 0, slots := 0, locals := 50 } : Room) s m args below meth c H locs 0 0 (MQ below (QV G Q) args s 0 0 G.2.2.1) (F0 m 2 ls []) := by
  intro n
  induction n with
  | zero =>
    intro S l1 H locs ls hW hS hL h0 h1 hw
    exact False.elim hw
  | succ n ih =>
    intro S l1 H locs ls hW hS hL h0 h1 hw
    unfold wp_X8_interruptAll_L2 at hw
    refine lv_iload_n C.1 C.2.1 dX8_interruptAll_2 rfl h1 ?_
    refine m_aldN C dX8_interruptAll_3 rfl h0 ?_
    obtain ⟨hk1, hw⟩ := hw
    refine m_getR C hW rfl hk1 f_X8_45 rfl dX8_interruptAll_4 ?_
    obtain ⟨b2, ho2, hw⟩ := hw
    obtain ⟨hk3, hw⟩ := hw
    refine m_getI C hW ho2 hk3 f_X8_233 rfl dX8_interruptAll_7 ?_
    refine lv_icmp_ge (tgt := 102) C.1 C.2.1 dX8_interruptAll_10 (by decide) (fun hc4 => ?_) (fun hc4 => ?_)
    · have hw := hw.1 hc4
      exact m_vret C hW hS hw dX8_interruptAll_102
    · have hw := hw.2 hc4
      refine m_aldN C dX8_interruptAll_13 rfl h0 ?_
      refine m_getR C hW rfl hk1 f_X8_24 rfl dX8_interruptAll_14 ?_
      refine lv_iload_n C.1 C.2.1 dX8_interruptAll_17 rfl h1 ?_
      obtain ⟨b5, ho5, hw⟩ := hw
      obtain ⟨hk6, hw⟩ := hw
      obtain ⟨hi7, hw⟩ := hw
      refine m_aald C hW ho5 hk6 (by decide) (by decide) hi7 dX8_interruptAll_18 ?_
      refine m_astN C hL dX8_interruptAll_19 rfl (by decide) (fun ls hL hn9 hk9 => ?_)
      have h0 := hk9 0 _ h0 (by decide) (Or.inl (by decide))
      have h1 := hk9 1 _ h1 (by decide) (Or.inr (rfl))
      have h2 := hn9
      refine m_aldN C dX8_interruptAll_20 rfl h2 ?_
      refine m_ifnull (tgt := 96) C dX8_interruptAll_21 (by decide) (fun hc8 => ?_) (fun hc8 => ?_)
      · have hw := hw.1 hc8
        refine m_iinc (v := (l1 + 1)) C hL dX8_interruptAll_96 h1 rfl (by decide) (fun ls hL hn9 hk9 => ?_)
        have h0 := hk9 0 _ h0 (by decide) (Or.inr (va_rf_cat _))
        have h1 := hn9
        refine lv_goto (tgt := 2) C.1 C.2.1 dX8_interruptAll_99 (by decide) ?_
        exact ih S (l1 + 1) H locs ls hW hS hL h0 h1 hw
      · have hw := hw.2 hc8
        refine m_aldN C dX8_interruptAll_24 rfl h0 ?_
        refine m_aldN C dX8_interruptAll_25 rfl h2 ?_
        refine lv_iconst (v := 4) C.1 C.2.1 dX8_interruptAll_26 (by decide) ?_
        refine lv_iconst (v := 4) C.1 C.2.1 dX8_interruptAll_27 (by decide) ?_
        refine m_rV (m_runV (As := [va_rf (hR S b5 (l1 : Int32).toNatClampNeg), .int 4, .int 4]) (rest := []) C hW hS hL (c_X8_leave hw) v_X8_262 ⟨rfl, rfl⟩ ⟨Nat.le_of_ble_eq_true rfl, Nat.le_of_ble_eq_true rfl⟩ rfl hk1 rfl rfl (Nat.le_of_ble_eq_true rfl) dX8_interruptAll_28 ⟨Nat.le_of_ble_eq_true rfl, Nat.le_of_ble_eq_true rfl⟩) hS (fun S9 H locs hw hW hS => ?_)
        refine m_aldN C dX8_interruptAll_31 rfl h2 ?_
        obtain ⟨b10, ho10, hw⟩ := hw
        obtain ⟨hk11, hw⟩ := hw
        refine m_getR C hW ho10 hk11 f_X8_246 rfl dX8_interruptAll_32 ?_
        obtain ⟨b12, ho12, hw⟩ := hw
        obtain ⟨hk13, hw⟩ := hw
        refine m_getI C hW ho12 hk13 f_X8_302 rfl dX8_interruptAll_35 ?_
        obtain ⟨J15, eJ15, hw⟩ := hw
        have wJ15 : ∀ (x16 : Int32) (ls : Array Slot), LV ls 5 → ls[0]? = some (.val (va_rf (some l0))) → ls[1]? = some (.val (.int l1)) → ls[2]? = some (.val (va_rf (hR S b5 (l1 : Int32).toNatClampNeg))) → J15 x16 → W p l e ({ frames := 2, cells := 0, slots := 0, locals := 50 } : Room) s m args below meth c H locs 0 0 (MQ below (QV G Q) args s 0 0 G.2.2.1) (F0 m 46 ls [.int x16]) := by
          intro x16 ls hL h0 h1 h2 hw
          rw [eJ15] at hw
          refine m_istN C hL dX8_interruptAll_46 rfl (by decide) (fun ls hL hn9 hk9 => ?_)
          have h0 := hk9 0 _ h0 (by decide) (Or.inl (by decide))
          have h1 := hk9 1 _ h1 (by decide) (Or.inl (by decide))
          have h2 := hk9 2 _ h2 (by decide) (Or.inr (va_rf_cat _))
          have h3 := hn9
          refine m_aldN C dX8_interruptAll_47 rfl h2 ?_
          refine m_getR C hW ho10 hk11 f_X8_70 rfl dX8_interruptAll_48 ?_
          obtain ⟨b17, ho17, hw⟩ := hw
          obtain ⟨hk18, hw⟩ := hw
          refine m_getI C hW ho17 hk18 f_X8_105 rfl dX8_interruptAll_51 ?_
          refine m_aldN C dX8_interruptAll_54 rfl h2 ?_
          refine m_getI C hW ho10 hk11 f_X8_293 rfl dX8_interruptAll_55 ?_
          refine lv_iconst (v := 2) C.1 C.2.1 dX8_interruptAll_58 (by decide) ?_
          refine lv_idiv C.1 C.2.1 dX8_interruptAll_59 (by decide) ?_
          obtain ⟨J20, eJ20, hw⟩ := hw
          have wJ20 : ∀ (x21 : Int32) (ls : Array Slot), LV ls 5 → ls[0]? = some (.val (va_rf (some l0))) → ls[1]? = some (.val (.int l1)) → ls[2]? = some (.val (va_rf (hR S b5 (l1 : Int32).toNatClampNeg))) → ls[3]? = some (.val (.int x16)) → J20 x21 → W p l e ({ frames := 2, cells := 0, slots := 0, locals := 50 } : Room) s m args below meth c H locs 0 0 (MQ below (QV G Q) args s 0 0 G.2.2.1) (F0 m 68 ls [.int x21]) := by
            intro x21 ls hL h0 h1 h2 h3 hw
            rw [eJ20] at hw
            refine m_ist C hL dX8_interruptAll_68 (by decide) (fun ls hL hn9 hk9 => ?_)
            have h0 := hk9 0 _ h0 (by decide) (Or.inl (by decide))
            have h1 := hk9 1 _ h1 (by decide) (Or.inl (by decide))
            have h2 := hk9 2 _ h2 (by decide) (Or.inl (by decide))
            have h3 := hk9 3 _ h3 (by decide) (Or.inr (rfl))
            have h4 := hn9
            refine m_aldN C dX8_interruptAll_70 rfl h2 ?_
            refine m_getR C hW ho10 hk11 f_X8_70 rfl dX8_interruptAll_71 ?_
            refine lv_iload_n C.1 C.2.1 dX8_interruptAll_74 rfl h3 ?_
            refine lv_if_eq (tgt := 87) C.1 C.2.1 dX8_interruptAll_75 (by decide) (fun hc22 => ?_) (fun hc22 => ?_)
            · have hw := hw.1 hc22
              refine lv_iconst (v := 1) C.1 C.2.1 dX8_interruptAll_87 (by decide) ?_
              refine m_putI C hW hS ho17 hk18 p_X8_303 (fun z => by cases z) rfl dX8_interruptAll_88 (fun H locs hW hS => ?_)
              refine m_aldN C dX8_interruptAll_91 rfl h0 ?_
              refine m_aldN C dX8_interruptAll_92 rfl h2 ?_
              obtain ⟨hk23, hw⟩ := hw
              refine m_rV (m_runV (As := [va_rf (hR S b5 (l1 : Int32).toNatClampNeg)]) (rest := []) C hW hS hL (c_X8_bringBackRest hw) v_X8_276 ⟨rfl, rfl⟩ ⟨Nat.le_of_ble_eq_true rfl, Nat.le_of_ble_eq_true rfl⟩ rfl hk23 rfl rfl (Nat.le_of_ble_eq_true rfl) dX8_interruptAll_93 ⟨Nat.le_of_ble_eq_true rfl, Nat.le_of_ble_eq_true rfl⟩) hS (fun S24 H locs hw hW hS => ?_)
              refine m_iinc (v := (l1 + 1)) C hL dX8_interruptAll_96 h1 rfl (by decide) (fun ls hL hn9 hk9 => ?_)
              have h0 := hk9 0 _ h0 (by decide) (Or.inr (va_rf_cat _))
              have h1 := hn9
              refine lv_goto (tgt := 2) C.1 C.2.1 dX8_interruptAll_99 (by decide) ?_
              exact ih S24 (l1 + 1) H locs ls hW hS hL h0 h1 hw
            · have hw := hw.2 hc22
              refine lv_iload C.1 C.2.1 dX8_interruptAll_78 h4 ?_
              refine lv_if_eq (tgt := 87) C.1 C.2.1 dX8_interruptAll_80 (by decide) (fun hc25 => ?_) (fun hc25 => ?_)
              · have hw := hw.1 hc25
                refine lv_iconst (v := 1) C.1 C.2.1 dX8_interruptAll_87 (by decide) ?_
                refine m_putI C hW hS ho17 hk18 p_X8_303 (fun z => by cases z) rfl dX8_interruptAll_88 (fun H locs hW hS => ?_)
                refine m_aldN C dX8_interruptAll_91 rfl h0 ?_
                refine m_aldN C dX8_interruptAll_92 rfl h2 ?_
                obtain ⟨hk26, hw⟩ := hw
                refine m_rV (m_runV (As := [va_rf (hR S b5 (l1 : Int32).toNatClampNeg)]) (rest := []) C hW hS hL (c_X8_bringBackRest hw) v_X8_276 ⟨rfl, rfl⟩ ⟨Nat.le_of_ble_eq_true rfl, Nat.le_of_ble_eq_true rfl⟩ rfl hk26 rfl rfl (Nat.le_of_ble_eq_true rfl) dX8_interruptAll_93 ⟨Nat.le_of_ble_eq_true rfl, Nat.le_of_ble_eq_true rfl⟩) hS (fun S27 H locs hw hW hS => ?_)
                refine m_iinc (v := (l1 + 1)) C hL dX8_interruptAll_96 h1 rfl (by decide) (fun ls hL hn9 hk9 => ?_)
                have h0 := hk9 0 _ h0 (by decide) (Or.inr (va_rf_cat _))
                have h1 := hn9
                refine lv_goto (tgt := 2) C.1 C.2.1 dX8_interruptAll_99 (by decide) ?_
                exact ih S27 (l1 + 1) H locs ls hW hS hL h0 h1 hw
              · have hw := hw.2 hc25
                refine lv_iconst (v := 2) C.1 C.2.1 dX8_interruptAll_83 (by decide) ?_
                refine lv_goto (tgt := 88) C.1 C.2.1 dX8_interruptAll_84 (by decide) ?_
                refine m_putI C hW hS ho17 hk18 p_X8_303 (fun z => by cases z) rfl dX8_interruptAll_88 (fun H locs hW hS => ?_)
                refine m_aldN C dX8_interruptAll_91 rfl h0 ?_
                refine m_aldN C dX8_interruptAll_92 rfl h2 ?_
                obtain ⟨hk28, hw⟩ := hw
                refine m_rV (m_runV (As := [va_rf (hR S b5 (l1 : Int32).toNatClampNeg)]) (rest := []) C hW hS hL (c_X8_bringBackRest hw) v_X8_276 ⟨rfl, rfl⟩ ⟨Nat.le_of_ble_eq_true rfl, Nat.le_of_ble_eq_true rfl⟩ rfl hk28 rfl rfl (Nat.le_of_ble_eq_true rfl) dX8_interruptAll_93 ⟨Nat.le_of_ble_eq_true rfl, Nat.le_of_ble_eq_true rfl⟩) hS (fun S29 H locs hw hW hS => ?_)
                refine m_iinc (v := (l1 + 1)) C hL dX8_interruptAll_96 h1 rfl (by decide) (fun ls hL hn9 hk9 => ?_)
                have h0 := hk9 0 _ h0 (by decide) (Or.inr (va_rf_cat _))
                have h1 := hn9
                refine lv_goto (tgt := 2) C.1 C.2.1 dX8_interruptAll_99 (by decide) ?_
                exact ih S29 (l1 + 1) H locs ls hW hS hL h0 h1 hw
          refine lv_icmp_ge (tgt := 67) C.1 C.2.1 dX8_interruptAll_60 (by decide) (fun hc19 => ?_) (fun hc19 => ?_)
          · have hw := hw.1 hc19
            refine lv_iconst (v := 0) C.1 C.2.1 dX8_interruptAll_67 (by decide) ?_
            exact wJ20 0 ls hL h0 h1 h2 h3 hw
          · have hw := hw.2 hc19
            refine lv_iconst (v := 1) C.1 C.2.1 dX8_interruptAll_63 (by decide) ?_
            refine lv_goto (tgt := 68) C.1 C.2.1 dX8_interruptAll_64 (by decide) ?_
            exact wJ20 1 ls hL h0 h1 h2 h3 hw
        refine lv_if_eq (tgt := 45) C.1 C.2.1 dX8_interruptAll_38 (by decide) (fun hc14 => ?_) (fun hc14 => ?_)
        · have hw := hw.1 hc14
          refine lv_iconst (v := 0) C.1 C.2.1 dX8_interruptAll_45 (by decide) ?_
          exact wJ15 0 ls hL h0 h1 h2 hw
        · have hw := hw.2 hc14
          refine lv_iconst (v := 1) C.1 C.2.1 dX8_interruptAll_41 (by decide) ?_
          refine lv_goto (tgt := 46) C.1 C.2.1 dX8_interruptAll_42 (by decide) ?_
          exact wJ15 1 ls hL h0 h1 h2 hw
set_option maxRecDepth 100000 in
set_option maxHeartbeats 4000000 in
theorem c_X8_interruptAll {l : Launch} {G : GX} {S : Hp} {a0 : Nat} {Q : Hp → Prop} (hw : wp_X8_interruptAll S a0 Q) : Met l yX8_interruptAll (Cond.code yX8_interruptAll cX8_interruptAll 5 none :: TS) { frames := 2, cells := 0, slots := 0, locals := 50 } (Pk G S [va_rf (some a0)]) (QV G Q) 0 0 G.2.2.1 := by
  refine m_met (by decide) ?_
  intro p e s m below meth c H locs C hW hS
  have C : Cx p s m ([va_rf (some a0)] : List Value).toArray meth c cX8_interruptAll 5 RX8 none "interruptAll" G := C
  obtain ⟨ls, hent, hL, hla⟩ := m_entry m (vs := [va_rf (some a0)]) (nn := 5) [1] rfl (by decide)
  rw [hent]
  have h0 : ls[0]? = some (.val (va_rf (some a0))) := hla (0, va_rf (some a0)) (List.mem_of_getElem? (i := 0) rfl)
  clear hla
  generalize ([va_rf (some a0)] : List Value).toArray = args at C ⊢
  unfold wp_X8_interruptAll at hw
  refine lv_iconst (v := 0) C.1 C.2.1 dX8_interruptAll_0 (by decide) ?_
  refine m_istN C hL dX8_interruptAll_1 rfl (by decide) (fun ls hL hn9 hk9 => ?_)
  have h0 := hk9 0 _ h0 (by decide) (Or.inr (va_rf_cat _))
  have h1 := hn9
  exact w_X8_interruptAll_L2 C  FU S 0 H locs ls hW hS hL h0 h1 hw
def wp_X8_stopAtDeadline (S : Hp) (a0 : Nat) (Q : Hp → Prop) : Prop := hK S a0 = 10 ∧ ((hI S a0 15) ≤ 0 → wp_X8_someoneWouldBegin S a0 (fun r4 S3 => (r4 = 0 → hK S3 a0 = 10 ∧ wp_X8_giveUp S3 a0 (fun S7 => Q S7)) ∧ (¬ (r4 = 0) → hK S3 a0 = 10 ∧ Q (sI S3 a0 9 2)))) ∧ (¬ ((hI S a0 15) ≤ 0) → wp_X8_interruptAll S a0 (fun S9 => hK S9 a0 = 10 ∧ Q (sI S9 a0 9 2)))
set_option maxRecDepth 100000 in
set_option maxHeartbeats 4000000 in
theorem c_X8_stopAtDeadline {l : Launch} {G : GX} {S : Hp} {a0 : Nat} {Q : Hp → Prop} (hw : wp_X8_stopAtDeadline S a0 Q) : Met l yX8_stopAtDeadline (Cond.code yX8_stopAtDeadline cX8_stopAtDeadline 1 none :: TS) { frames := 3, cells := 0, slots := 0, locals := 74 } (Pk G S [va_rf (some a0)]) (QV G Q) 0 0 G.2.2.1 := by
  refine m_met (by decide) ?_
  intro p e s m below meth c H locs C hW hS
  have C : Cx p s m ([va_rf (some a0)] : List Value).toArray meth c cX8_stopAtDeadline 1 RX8 none "stopAtDeadline" G := C
  obtain ⟨ls, hent, hL, hla⟩ := m_entry m (vs := [va_rf (some a0)]) (nn := 1) [1] rfl (by decide)
  rw [hent]
  have h0 : ls[0]? = some (.val (va_rf (some a0))) := hla (0, va_rf (some a0)) (List.mem_of_getElem? (i := 0) rfl)
  clear hla
  generalize ([va_rf (some a0)] : List Value).toArray = args at C ⊢
  unfold wp_X8_stopAtDeadline at hw
  refine m_aldN C dX8_stopAtDeadline_0 rfl h0 ?_
  obtain ⟨hk1, hw⟩ := hw
  refine m_getI C hW rfl hk1 f_X8_124 rfl dX8_stopAtDeadline_1 ?_
  refine lv_if_le (tgt := 19) C.1 C.2.1 dX8_stopAtDeadline_4 (by decide) (fun hc2 => ?_) (fun hc2 => ?_)
  · have hw := hw.1 hc2
    refine m_aldN C dX8_stopAtDeadline_19 rfl h0 ?_
    refine m_rI (m_runV (As := []) (rest := []) C hW hS hL (c_X8_someoneWouldBegin hw) v_X8_299 ⟨rfl, rfl⟩ ⟨Nat.le_of_ble_eq_true rfl, Nat.le_of_ble_eq_true rfl⟩ rfl hk1 rfl rfl (Nat.le_of_ble_eq_true rfl) dX8_stopAtDeadline_20 ⟨Nat.le_of_ble_eq_true rfl, Nat.le_of_ble_eq_true rfl⟩) hS (fun r4 S3 H locs hw hW hS => ?_)
    refine lv_if_eq (tgt := 34) C.1 C.2.1 dX8_stopAtDeadline_23 (by decide) (fun hc5 => ?_) (fun hc5 => ?_)
    · have hw := hw.1 hc5
      refine m_aldN C dX8_stopAtDeadline_34 rfl h0 ?_
      obtain ⟨hk6, hw⟩ := hw
      refine m_rV (m_runV (As := []) (rest := []) C hW hS hL (c_X8_giveUp hw) v_X8_227 ⟨rfl, rfl⟩ ⟨Nat.le_of_ble_eq_true rfl, Nat.le_of_ble_eq_true rfl⟩ rfl hk6 rfl rfl (Nat.le_of_ble_eq_true rfl) dX8_stopAtDeadline_35 ⟨Nat.le_of_ble_eq_true rfl, Nat.le_of_ble_eq_true rfl⟩) hS (fun S7 H locs hw hW hS => ?_)
      exact m_vret C hW hS hw dX8_stopAtDeadline_38
    · have hw := hw.2 hc5
      refine m_aldN C dX8_stopAtDeadline_26 rfl h0 ?_
      refine lv_iconst (v := 2) C.1 C.2.1 dX8_stopAtDeadline_27 (by decide) ?_
      obtain ⟨hk8, hw⟩ := hw
      refine m_putI C hW hS rfl hk8 p_X8_66 (fun z => by cases z) rfl dX8_stopAtDeadline_28 (fun H locs hW hS => ?_)
      refine lv_goto (tgt := 38) C.1 C.2.1 dX8_stopAtDeadline_31 (by decide) ?_
      exact m_vret C hW hS hw dX8_stopAtDeadline_38
  · have hw := hw.2 hc2
    refine m_aldN C dX8_stopAtDeadline_7 rfl h0 ?_
    refine m_rV (m_runV (As := []) (rest := []) C hW hS hL (c_X8_interruptAll hw) v_X8_296 ⟨rfl, rfl⟩ ⟨Nat.le_of_ble_eq_true rfl, Nat.le_of_ble_eq_true rfl⟩ rfl hk1 rfl rfl (Nat.le_of_ble_eq_true rfl) dX8_stopAtDeadline_8 ⟨Nat.le_of_ble_eq_true rfl, Nat.le_of_ble_eq_true rfl⟩) hS (fun S9 H locs hw hW hS => ?_)
    refine m_aldN C dX8_stopAtDeadline_11 rfl h0 ?_
    refine lv_iconst (v := 2) C.1 C.2.1 dX8_stopAtDeadline_12 (by decide) ?_
    obtain ⟨hk10, hw⟩ := hw
    refine m_putI C hW hS rfl hk10 p_X8_66 (fun z => by cases z) rfl dX8_stopAtDeadline_13 (fun H locs hW hS => ?_)
    refine lv_goto (tgt := 38) C.1 C.2.1 dX8_stopAtDeadline_16 (by decide) ?_
    exact m_vret C hW hS hw dX8_stopAtDeadline_38
def wp_X8_passMinute (S : Hp) (a0 : Nat) (a1 : Int32) (Q : Int32 → Hp → Prop) : Prop := hK S a0 = 10 ∧ wp_X8_endJobs S a0 (fun S2 => hK S2 a0 = 10 ∧ wp_X8_cancelLeaning S2 a0 (fun S4 => hK S4 a0 = 10 ∧ ((hI S4 a0 10) < a1 → wp_X8_beginJobs S4 a0 (fun S7 => hK S7 a0 = 10 ∧ ((hI S7 a0 15) = 0 → wp_X8_giveUp S7 a0 (fun S13 => Q 1 S13)) ∧ (¬ ((hI S7 a0 15) = 0) → wp_X8_nextMinute S7 a0 a1 (fun r11 S10 => hK S10 a0 = 10 ∧ Q 0 (sI S10 a0 10 r11))))) ∧ (¬ ((hI S4 a0 10) < a1) → wp_X8_stopAtDeadline S4 a0 (fun S14 => Q 1 S14))))
set_option maxRecDepth 100000 in
set_option maxHeartbeats 4000000 in
theorem c_X8_passMinute {l : Launch} {G : GX} {S : Hp} {a0 : Nat} {a1 : Int32} {Q : Int32 → Hp → Prop} (hw : wp_X8_passMinute S a0 a1 Q) : Met l yX8_passMinute (Cond.code yX8_passMinute cX8_passMinute 2 (some .boolean) :: TS) { frames := 5, cells := 0, slots := 0, locals := 109 } (Pk G S [va_rf (some a0), .int a1]) (QI G Q) 0 0 G.2.2.1 := by
  refine m_met (by decide) ?_
  intro p e s m below meth c H locs C hW hS
  have C : Cx p s m ([va_rf (some a0), .int a1] : List Value).toArray meth c cX8_passMinute 2 RX8 (some .boolean) "passMinute" G := C
  obtain ⟨ls, hent, hL, hla⟩ := m_entry m (vs := [va_rf (some a0), .int a1]) (nn := 2) [1, 1] rfl (by decide)
  rw [hent]
  have h0 : ls[0]? = some (.val (va_rf (some a0))) := hla (0, va_rf (some a0)) (List.mem_of_getElem? (i := 0) rfl)
  have h1 : ls[1]? = some (.val (.int a1)) := hla (1, .int a1) (List.mem_of_getElem? (i := 1) rfl)
  clear hla
  generalize ([va_rf (some a0), .int a1] : List Value).toArray = args at C ⊢
  unfold wp_X8_passMinute at hw
  refine m_aldN C dX8_passMinute_0 rfl h0 ?_
  obtain ⟨hk1, hw⟩ := hw
  refine m_rV (m_runV (As := []) (rest := []) C hW hS hL (c_X8_endJobs hw) v_X8_215 ⟨rfl, rfl⟩ ⟨Nat.le_of_ble_eq_true rfl, Nat.le_of_ble_eq_true rfl⟩ rfl hk1 rfl rfl (Nat.le_of_ble_eq_true rfl) dX8_passMinute_1 ⟨Nat.le_of_ble_eq_true rfl, Nat.le_of_ble_eq_true rfl⟩) hS (fun S2 H locs hw hW hS => ?_)
  refine m_aldN C dX8_passMinute_4 rfl h0 ?_
  obtain ⟨hk3, hw⟩ := hw
  refine m_rV (m_runV (As := []) (rest := []) C hW hS hL (c_X8_cancelLeaning hw) v_X8_218 ⟨rfl, rfl⟩ ⟨Nat.le_of_ble_eq_true rfl, Nat.le_of_ble_eq_true rfl⟩ rfl hk3 rfl rfl (Nat.le_of_ble_eq_true rfl) dX8_passMinute_5 ⟨Nat.le_of_ble_eq_true rfl, Nat.le_of_ble_eq_true rfl⟩) hS (fun S4 H locs hw hW hS => ?_)
  refine m_aldN C dX8_passMinute_8 rfl h0 ?_
  obtain ⟨hk5, hw⟩ := hw
  refine m_getI C hW rfl hk5 f_X8_112 rfl dX8_passMinute_9 ?_
  refine lv_iload_n C.1 C.2.1 dX8_passMinute_12 rfl h1 ?_
  refine lv_icmp_lt (tgt := 22) C.1 C.2.1 dX8_passMinute_13 (by decide) (fun hc6 => ?_) (fun hc6 => ?_)
  · have hw := hw.1 hc6
    refine m_aldN C dX8_passMinute_22 rfl h0 ?_
    refine m_rV (m_runV (As := []) (rest := []) C hW hS hL (c_X8_beginJobs hw) v_X8_224 ⟨rfl, rfl⟩ ⟨Nat.le_of_ble_eq_true rfl, Nat.le_of_ble_eq_true rfl⟩ rfl hk5 rfl rfl (Nat.le_of_ble_eq_true rfl) dX8_passMinute_23 ⟨Nat.le_of_ble_eq_true rfl, Nat.le_of_ble_eq_true rfl⟩) hS (fun S7 H locs hw hW hS => ?_)
    refine m_aldN C dX8_passMinute_26 rfl h0 ?_
    obtain ⟨hk8, hw⟩ := hw
    refine m_getI C hW rfl hk8 f_X8_124 rfl dX8_passMinute_27 ?_
    refine lv_if_ne (tgt := 39) C.1 C.2.1 dX8_passMinute_30 (by decide) (fun hc9 => ?_) (fun hc9 => ?_)
    · have hw := hw.2 hc9
      refine m_aldN C dX8_passMinute_39 rfl h0 ?_
      refine m_aldN C dX8_passMinute_40 rfl h0 ?_
      refine lv_iload_n C.1 C.2.1 dX8_passMinute_41 rfl h1 ?_
      refine m_rI (m_runV (As := [.int a1]) (rest := [va_rf (some a0)]) C hW hS hL (c_X8_nextMinute hw) v_X8_230 ⟨rfl, rfl⟩ ⟨Nat.le_of_ble_eq_true rfl, Nat.le_of_ble_eq_true rfl⟩ rfl hk8 rfl rfl (by simp only [List.map_cons, List.map_nil, va_rf_cat, List.sum_cons, List.sum_nil] <;> exact Nat.le_of_ble_eq_true rfl) dX8_passMinute_42 ⟨Nat.le_of_ble_eq_true rfl, Nat.le_of_ble_eq_true rfl⟩) hS (fun r11 S10 H locs hw hW hS => ?_)
      obtain ⟨hk12, hw⟩ := hw
      refine m_putI C hW hS rfl hk12 p_X8_112 (fun z => by cases z) rfl dX8_passMinute_45 (fun H locs hW hS => ?_)
      refine lv_iconst (v := 0) C.1 C.2.1 dX8_passMinute_48 (by decide) ?_
      exact m_zret C hW hS (by decide) hw dX8_passMinute_49
    · have hw := hw.1 hc9
      refine m_aldN C dX8_passMinute_33 rfl h0 ?_
      refine m_rV (m_runV (As := []) (rest := []) C hW hS hL (c_X8_giveUp hw) v_X8_227 ⟨rfl, rfl⟩ ⟨Nat.le_of_ble_eq_true rfl, Nat.le_of_ble_eq_true rfl⟩ rfl hk8 rfl rfl (Nat.le_of_ble_eq_true rfl) dX8_passMinute_34 ⟨Nat.le_of_ble_eq_true rfl, Nat.le_of_ble_eq_true rfl⟩) hS (fun S13 H locs hw hW hS => ?_)
      refine lv_iconst (v := 1) C.1 C.2.1 dX8_passMinute_37 (by decide) ?_
      exact m_zret C hW hS (by decide) hw dX8_passMinute_38
  · have hw := hw.2 hc6
    refine m_aldN C dX8_passMinute_16 rfl h0 ?_
    refine m_rV (m_runV (As := []) (rest := []) C hW hS hL (c_X8_stopAtDeadline hw) v_X8_221 ⟨rfl, rfl⟩ ⟨Nat.le_of_ble_eq_true rfl, Nat.le_of_ble_eq_true rfl⟩ rfl hk5 rfl rfl (Nat.le_of_ble_eq_true rfl) dX8_passMinute_17 ⟨Nat.le_of_ble_eq_true rfl, Nat.le_of_ble_eq_true rfl⟩) hS (fun S14 H locs hw hW hS => ?_)
    refine lv_iconst (v := 1) C.1 C.2.1 dX8_passMinute_20 (by decide) ?_
    exact m_zret C hW hS (by decide) hw dX8_passMinute_21
def wp_X8_work_L21 (l0 : Nat) (l1 : Int32) (Q : Int32 → Hp → Prop) : Nat → Hp → Int32 → Int32 → Prop
  | 0, _, _, _ => False
  | n + 1, S, l2, l3 => (202 ≤ l3 → hK S l0 = 10 ∧ Q (hI S l0 9) S) ∧ (¬ (202 ≤ l3) → (l2 = 0 → hK S l0 = 10 ∧ wp_X8_passMinute S l0 l1 (fun r13 S12 => wp_X8_work_L21 l0 l1 Q n S12 r13 (l3 + 1))) ∧ (¬ (l2 = 0) → hK S l0 = 10 ∧ Q (hI S l0 9) S))
def wp_X8_work (S : Hp) (a0 : Nat) (a1 : Int32) (Q : Int32 → Hp → Prop) : Prop := hK S a0 = 10 ∧ wp_X8_wipe S a0 (fun S2 => hK S2 a0 = 10 ∧ wp_X8_layOut (sI S2 a0 8 1) a0 (fun S4 => hK S4 a0 = 10 ∧ wp_X8_turnAwayHopeless S4 a0 (fun S6 => wp_X8_work_L21 a0 a1 Q FU S6 0 0)))
set_option maxRecDepth 100000 in
set_option maxHeartbeats 4000000 in
theorem w_X8_work_L21 {p : Program} {l : Launch} {e : Env} {s : State} {m : MethodId} {args : Array Value} {below : List Frame} {meth : Method} {c : Code} {G : GX} {Q : Int32 → Hp → Prop} {l0 : Nat} {l1 : Int32} (C : Cx p s m args meth c cX8_work 4 RX8 (some .int) "work" G) :
    ∀ (n : Nat) (S : Hp) (l2 : Int32) (l3 : Int32) (H : Heap) (locs : List Loc) (ls : Array Slot), wd G S H → va_S G.2.2.1 s.heap H locs → LV ls 4 → ls[0]? = some (.val (va_rf (some l0))) → ls[1]? = some (.val (.int l1)) → ls[2]? = some (.val (.int l2)) → ls[3]? = some (.val (.int l3)) → wp_X8_work_L21 l0 l1 Q n S l2 l3 → W p l e ({ frames := 6, cells := 0, slots := 0, locals := 130 } : Room) s m args below meth c H locs 0 0 (MQ below (QI G Q) args s 0 0 G.2.2.1) (F0 m 21 ls []) := by
  intro n
  induction n with
  | zero =>
    intro S l2 l3 H locs ls hW hS hL h0 h1 h2 h3 hw
    exact False.elim hw
  | succ n ih =>
    intro S l2 l3 H locs ls hW hS hL h0 h1 h2 h3 hw
    unfold wp_X8_work_L21 at hw
    refine lv_iload_n C.1 C.2.1 dX8_work_21 rfl h3 ?_
    refine lv_sipush (v := 202) C.1 C.2.1 dX8_work_22 (by decide) ?_
    refine lv_icmp_ge (tgt := 44) C.1 C.2.1 dX8_work_25 (by decide) (fun hc7 => ?_) (fun hc7 => ?_)
    · have hw := hw.1 hc7
      refine m_aldN C dX8_work_44 rfl h0 ?_
      obtain ⟨hk8, hw⟩ := hw
      refine m_getI C hW rfl hk8 f_X8_66 rfl dX8_work_45 ?_
      exact m_iret C hW hS hw dX8_work_48
    · have hw := hw.2 hc7
      refine lv_iload_n C.1 C.2.1 dX8_work_28 rfl h2 ?_
      refine lv_if_ne (tgt := 44) C.1 C.2.1 dX8_work_29 (by decide) (fun hc9 => ?_) (fun hc9 => ?_)
      · have hw := hw.2 hc9
        refine m_aldN C dX8_work_44 rfl h0 ?_
        obtain ⟨hk10, hw⟩ := hw
        refine m_getI C hW rfl hk10 f_X8_66 rfl dX8_work_45 ?_
        exact m_iret C hW hS hw dX8_work_48
      · have hw := hw.1 hc9
        refine m_aldN C dX8_work_32 rfl h0 ?_
        refine lv_iload_n C.1 C.2.1 dX8_work_33 rfl h1 ?_
        obtain ⟨hk11, hw⟩ := hw
        refine m_rI (m_runV (As := [.int l1]) (rest := []) C hW hS hL (c_X8_passMinute hw) v_X8_62 ⟨rfl, rfl⟩ ⟨Nat.le_of_ble_eq_true rfl, Nat.le_of_ble_eq_true rfl⟩ rfl hk11 rfl rfl (Nat.le_of_ble_eq_true rfl) dX8_work_34 ⟨Nat.le_of_ble_eq_true rfl, Nat.le_of_ble_eq_true rfl⟩) hS (fun r13 S12 H locs hw hW hS => ?_)
        refine m_istN C hL dX8_work_37 rfl (by decide) (fun ls hL hn9 hk9 => ?_)
        have h0 := hk9 0 _ h0 (by decide) (Or.inl (by decide))
        have h1 := hk9 1 _ h1 (by decide) (Or.inr (rfl))
        have h3 := hk9 3 _ h3 (by decide) (Or.inl (by decide))
        have h2 := hn9
        refine m_iinc (v := (l3 + 1)) C hL dX8_work_38 h3 rfl (by decide) (fun ls hL hn9 hk9 => ?_)
        have h0 := hk9 0 _ h0 (by decide) (Or.inl (by decide))
        have h1 := hk9 1 _ h1 (by decide) (Or.inl (by decide))
        have h2 := hk9 2 _ h2 (by decide) (Or.inr (rfl))
        have h3 := hn9
        refine lv_goto (tgt := 21) C.1 C.2.1 dX8_work_41 (by decide) ?_
        exact ih S12 r13 (l3 + 1) H locs ls hW hS hL h0 h1 h2 h3 hw
set_option maxRecDepth 100000 in
set_option maxHeartbeats 4000000 in
theorem c_X8_work {l : Launch} {G : GX} {S : Hp} {a0 : Nat} {a1 : Int32} {Q : Int32 → Hp → Prop} (hw : wp_X8_work S a0 a1 Q) : Met l yX8_work (Cond.code yX8_work cX8_work 4 (some .int) :: TS) { frames := 6, cells := 0, slots := 0, locals := 130 } (Pk G S [va_rf (some a0), .int a1]) (QI G Q) 0 0 G.2.2.1 := by
  refine m_met (by decide) ?_
  intro p e s m below meth c H locs C hW hS
  have C : Cx p s m ([va_rf (some a0), .int a1] : List Value).toArray meth c cX8_work 4 RX8 (some .int) "work" G := C
  obtain ⟨ls, hent, hL, hla⟩ := m_entry m (vs := [va_rf (some a0), .int a1]) (nn := 4) [1, 1] rfl (by decide)
  rw [hent]
  have h0 : ls[0]? = some (.val (va_rf (some a0))) := hla (0, va_rf (some a0)) (List.mem_of_getElem? (i := 0) rfl)
  have h1 : ls[1]? = some (.val (.int a1)) := hla (1, .int a1) (List.mem_of_getElem? (i := 1) rfl)
  clear hla
  generalize ([va_rf (some a0), .int a1] : List Value).toArray = args at C ⊢
  unfold wp_X8_work at hw
  refine m_aldN C dX8_work_0 rfl h0 ?_
  obtain ⟨hk1, hw⟩ := hw
  refine m_rV (m_runV (As := []) (rest := []) C hW hS hL (c_X8_wipe hw) v_X8_49 ⟨rfl, rfl⟩ ⟨Nat.le_of_ble_eq_true rfl, Nat.le_of_ble_eq_true rfl⟩ rfl hk1 rfl rfl (Nat.le_of_ble_eq_true rfl) dX8_work_1 ⟨Nat.le_of_ble_eq_true rfl, Nat.le_of_ble_eq_true rfl⟩) hS (fun S2 H locs hw hW hS => ?_)
  refine m_aldN C dX8_work_4 rfl h0 ?_
  refine lv_iconst (v := 1) C.1 C.2.1 dX8_work_5 (by decide) ?_
  obtain ⟨hk3, hw⟩ := hw
  refine m_putZ C hW hS rfl hk3 p_X8_52 (fun z => by cases z) (by decide) rfl dX8_work_6 (fun H locs hW hS => ?_)
  refine m_aldN C dX8_work_9 rfl h0 ?_
  refine m_rV (m_runV (As := []) (rest := []) C hW hS hL (c_X8_layOut hw) v_X8_56 ⟨rfl, rfl⟩ ⟨Nat.le_of_ble_eq_true rfl, Nat.le_of_ble_eq_true rfl⟩ rfl hk3 rfl rfl (Nat.le_of_ble_eq_true rfl) dX8_work_10 ⟨Nat.le_of_ble_eq_true rfl, Nat.le_of_ble_eq_true rfl⟩) hS (fun S4 H locs hw hW hS => ?_)
  refine m_aldN C dX8_work_13 rfl h0 ?_
  obtain ⟨hk5, hw⟩ := hw
  refine m_rV (m_runV (As := []) (rest := []) C hW hS hL (c_X8_turnAwayHopeless hw) v_X8_59 ⟨rfl, rfl⟩ ⟨Nat.le_of_ble_eq_true rfl, Nat.le_of_ble_eq_true rfl⟩ rfl hk5 rfl rfl (Nat.le_of_ble_eq_true rfl) dX8_work_14 ⟨Nat.le_of_ble_eq_true rfl, Nat.le_of_ble_eq_true rfl⟩) hS (fun S6 H locs hw hW hS => ?_)
  refine lv_iconst (v := 0) C.1 C.2.1 dX8_work_17 (by decide) ?_
  refine m_istN C hL dX8_work_18 rfl (by decide) (fun ls hL hn9 hk9 => ?_)
  have h0 := hk9 0 _ h0 (by decide) (Or.inl (by decide))
  have h1 := hk9 1 _ h1 (by decide) (Or.inr (rfl))
  have h2 := hn9
  refine lv_iconst (v := 0) C.1 C.2.1 dX8_work_19 (by decide) ?_
  refine m_istN C hL dX8_work_20 rfl (by decide) (fun ls hL hn9 hk9 => ?_)
  have h0 := hk9 0 _ h0 (by decide) (Or.inl (by decide))
  have h1 := hk9 1 _ h1 (by decide) (Or.inl (by decide))
  have h2 := hk9 2 _ h2 (by decide) (Or.inr (rfl))
  have h3 := hn9
  exact w_X8_work_L21 C  FU S6 0 0 H locs ls hW hS hL h0 h1 h2 h3 hw
def wp_X8_culpritOf_L15 (l0 : Nat) (l1 : Nat) (Q : Int32 → Hp → Prop) : Nat → Hp → Int32 → Prop
  | 0, _, _ => False
  | n + 1, S, l2 => hK S l0 = 10 ∧ ∃ b7 : Nat, (hR S l0 0) = some b7 ∧ hK S b7 = 11 ∧ ((hI S b7 7) ≤ l2 → Q (-1) S) ∧ (¬ ((hI S b7 7) ≤ l2) → ∃ b10 : Nat, (hR S b7 5) = some b10 ∧ hK S b10 = 19 ∧ vp_in l2 (hN S b10) ∧ ∃ b13 : Nat, (hR S b10 (l2 : Int32).toNatClampNeg) = some b13 ∧ hK S b13 = 6 ∧ ∃ b15 : Nat, (hR S b13 15) = some b15 ∧ hK S b15 = 12 ∧ ((hI S b15 0) = 2 → hK S l1 = 6 ∧ ∃ b19 : Nat, (hR S l1 6) = some b19 ∧ hK S b19 = 7 ∧ wp_X5_has S b19 l2 (fun r22 S21 => (r22 = 0 → wp_X8_culpritOf_L15 l0 l1 Q n S21 (l2 + 1)) ∧ (¬ (r22 = 0) → Q l2 S21))) ∧ (¬ ((hI S b15 0) = 2) → wp_X8_culpritOf_L15 l0 l1 Q n S (l2 + 1)))
def wp_X8_culpritOf (S : Hp) (a0 : Nat) (a1 : Option Nat) (Q : Int32 → Hp → Prop) : Prop := ∃ b1 : Nat, a1 = some b1 ∧ hK S b1 = 6 ∧ ∃ b3 : Nat, (hR S b1 15) = some b3 ∧ hK S b3 = 12 ∧ ((hI S b3 0) = 3 → wp_X8_culpritOf_L15 a0 b1 Q FU S 0) ∧ (¬ ((hI S b3 0) = 3) → Q (-1) S)
set_option maxRecDepth 100000 in
set_option maxHeartbeats 4000000 in
theorem w_X8_culpritOf_L15 {p : Program} {l : Launch} {e : Env} {s : State} {m : MethodId} {args : Array Value} {below : List Frame} {meth : Method} {c : Code} {G : GX} {Q : Int32 → Hp → Prop} {l0 : Nat} {l1 : Nat} (C : Cx p s m args meth c cX8_culpritOf 3 RX8 (some .int) "culpritOf" G) :
    ∀ (n : Nat) (S : Hp) (l2 : Int32) (H : Heap) (locs : List Loc) (ls : Array Slot), wd G S H → va_S G.2.2.1 s.heap H locs → LV ls 3 → ls[0]? = some (.val (va_rf (some l0))) → ls[1]? = some (.val (va_rf (some l1))) → ls[2]? = some (.val (.int l2)) → wp_X8_culpritOf_L15 l0 l1 Q n S l2 → W p l e ({ frames := 1, cells := 0, slots := 0, locals := 21 } : Room) s m args below meth c H locs 0 0 (MQ below (QI G Q) args s 0 0 G.2.2.1) (F0 m 15 ls []) := by
  intro n
  induction n with
  | zero =>
    intro S l2 H locs ls hW hS hL h0 h1 h2 hw
    exact False.elim hw
  | succ n ih =>
    intro S l2 H locs ls hW hS hL h0 h1 h2 hw
    unfold wp_X8_culpritOf_L15 at hw
    refine lv_iload_n C.1 C.2.1 dX8_culpritOf_15 rfl h2 ?_
    refine m_aldN C dX8_culpritOf_16 rfl h0 ?_
    obtain ⟨hk6, hw⟩ := hw
    refine m_getR C hW rfl hk6 f_X8_45 rfl dX8_culpritOf_17 ?_
    obtain ⟨b7, ho7, hw⟩ := hw
    obtain ⟨hk8, hw⟩ := hw
    refine m_getI C hW ho7 hk8 f_X8_79 rfl dX8_culpritOf_20 ?_
    refine lv_icmp_ge (tgt := 64) C.1 C.2.1 dX8_culpritOf_23 (by decide) (fun hc9 => ?_) (fun hc9 => ?_)
    · have hw := hw.1 hc9
      refine lv_iconst (v := (-1)) C.1 C.2.1 dX8_culpritOf_64 (by decide) ?_
      exact m_iret C hW hS hw dX8_culpritOf_65
    · have hw := hw.2 hc9
      refine m_aldN C dX8_culpritOf_26 rfl h0 ?_
      refine m_getR C hW rfl hk6 f_X8_45 rfl dX8_culpritOf_27 ?_
      refine m_getR C hW ho7 hk8 f_X8_84 rfl dX8_culpritOf_30 ?_
      refine lv_iload_n C.1 C.2.1 dX8_culpritOf_33 rfl h2 ?_
      obtain ⟨b10, ho10, hw⟩ := hw
      obtain ⟨hk11, hw⟩ := hw
      obtain ⟨hi12, hw⟩ := hw
      refine m_aald C hW ho10 hk11 (by decide) (by decide) hi12 dX8_culpritOf_34 ?_
      obtain ⟨b13, ho13, hw⟩ := hw
      obtain ⟨hk14, hw⟩ := hw
      refine m_getR C hW ho13 hk14 f_X8_70 rfl dX8_culpritOf_35 ?_
      obtain ⟨b15, ho15, hw⟩ := hw
      obtain ⟨hk16, hw⟩ := hw
      refine m_getI C hW ho15 hk16 f_X8_74 rfl dX8_culpritOf_38 ?_
      refine lv_iconst (v := 2) C.1 C.2.1 dX8_culpritOf_41 (by decide) ?_
      refine lv_icmp_ne (tgt := 58) C.1 C.2.1 dX8_culpritOf_42 (by decide) (fun hc17 => ?_) (fun hc17 => ?_)
      · have hw := hw.2 hc17
        refine m_iinc (v := (l2 + 1)) C hL dX8_culpritOf_58 h2 rfl (by decide) (fun ls hL hn9 hk9 => ?_)
        have h0 := hk9 0 _ h0 (by decide) (Or.inl (by decide))
        have h1 := hk9 1 _ h1 (by decide) (Or.inr (va_rf_cat _))
        have h2 := hn9
        refine lv_goto (tgt := 15) C.1 C.2.1 dX8_culpritOf_61 (by decide) ?_
        exact ih S (l2 + 1) H locs ls hW hS hL h0 h1 h2 hw
      · have hw := hw.1 hc17
        refine m_aldN C dX8_culpritOf_45 rfl h1 ?_
        obtain ⟨hk18, hw⟩ := hw
        refine m_getR C hW rfl hk18 f_X8_87 rfl dX8_culpritOf_46 ?_
        refine lv_iload_n C.1 C.2.1 dX8_culpritOf_49 rfl h2 ?_
        obtain ⟨b19, ho19, hw⟩ := hw
        obtain ⟨hk20, hw⟩ := hw
        refine m_rI (m_runV (As := [.int l2]) (rest := []) C hW hS hL (c_X5_has hw) v_X8_90 ⟨rfl, rfl⟩ ⟨Nat.le_of_ble_eq_true rfl, Nat.le_of_ble_eq_true rfl⟩ ho19 hk20 rfl rfl (Nat.le_of_ble_eq_true rfl) dX8_culpritOf_50 ⟨Nat.le_of_ble_eq_true rfl, Nat.le_of_ble_eq_true rfl⟩) hS (fun r22 S21 H locs hw hW hS => ?_)
        refine lv_if_eq (tgt := 58) C.1 C.2.1 dX8_culpritOf_53 (by decide) (fun hc23 => ?_) (fun hc23 => ?_)
        · have hw := hw.1 hc23
          refine m_iinc (v := (l2 + 1)) C hL dX8_culpritOf_58 h2 rfl (by decide) (fun ls hL hn9 hk9 => ?_)
          have h0 := hk9 0 _ h0 (by decide) (Or.inl (by decide))
          have h1 := hk9 1 _ h1 (by decide) (Or.inr (va_rf_cat _))
          have h2 := hn9
          refine lv_goto (tgt := 15) C.1 C.2.1 dX8_culpritOf_61 (by decide) ?_
          exact ih S21 (l2 + 1) H locs ls hW hS hL h0 h1 h2 hw
        · have hw := hw.2 hc23
          refine lv_iload_n C.1 C.2.1 dX8_culpritOf_56 rfl h2 ?_
          exact m_iret C hW hS hw dX8_culpritOf_57
set_option maxRecDepth 100000 in
set_option maxHeartbeats 4000000 in
theorem c_X8_culpritOf {l : Launch} {G : GX} {S : Hp} {a0 : Nat} {a1 : Option Nat} {Q : Int32 → Hp → Prop} (hw : wp_X8_culpritOf S a0 a1 Q) : Met l yX8_culpritOf (Cond.code yX8_culpritOf cX8_culpritOf 3 (some .int) :: TS) { frames := 1, cells := 0, slots := 0, locals := 21 } (Pk G S [va_rf (some a0), va_rf a1]) (QI G Q) 0 0 G.2.2.1 := by
  refine m_met (by decide) ?_
  intro p e s m below meth c H locs C hW hS
  have C : Cx p s m ([va_rf (some a0), va_rf a1] : List Value).toArray meth c cX8_culpritOf 3 RX8 (some .int) "culpritOf" G := C
  obtain ⟨ls, hent, hL, hla⟩ := m_entry m (vs := [va_rf (some a0), va_rf a1]) (nn := 3) [1, 1] (by simp only [List.map_cons, List.map_nil, va_rf_cat] <;> rfl) (by decide)
  rw [hent]
  have h0 : ls[0]? = some (.val (va_rf (some a0))) := hla (0, va_rf (some a0)) (List.mem_of_getElem? (i := 0) rfl)
  have h1 : ls[1]? = some (.val (va_rf a1)) := hla (1, va_rf a1) (List.mem_of_getElem? (i := 1) rfl)
  clear hla
  generalize ([va_rf (some a0), va_rf a1] : List Value).toArray = args at C ⊢
  unfold wp_X8_culpritOf at hw
  refine m_aldN C dX8_culpritOf_0 rfl h1 ?_
  obtain ⟨b1, ho1, hw⟩ := hw
  obtain ⟨hk2, hw⟩ := hw
  refine m_getR C hW ho1 hk2 f_X8_70 rfl dX8_culpritOf_1 ?_
  obtain ⟨b3, ho3, hw⟩ := hw
  obtain ⟨hk4, hw⟩ := hw
  refine m_getI C hW ho3 hk4 f_X8_74 rfl dX8_culpritOf_4 ?_
  refine lv_iconst (v := 3) C.1 C.2.1 dX8_culpritOf_7 (by decide) ?_
  refine lv_icmp_eq (tgt := 13) C.1 C.2.1 dX8_culpritOf_8 (by decide) (fun hc5 => ?_) (fun hc5 => ?_)
  · have hw := hw.1 hc5
    refine lv_iconst (v := 0) C.1 C.2.1 dX8_culpritOf_13 (by decide) ?_
    refine m_istN C hL dX8_culpritOf_14 rfl (by decide) (fun ls hL hn9 hk9 => ?_)
    have h0 := hk9 0 _ h0 (by decide) (Or.inl (by decide))
    have h1 := hk9 1 _ h1 (by decide) (Or.inr (va_rf_cat _))
    have h2 := hn9
    rw [ho1] at h1
    exact w_X8_culpritOf_L15 C  FU S 0 H locs ls hW hS hL h0 h1 h2 hw
  · have hw := hw.2 hc5
    refine lv_iconst (v := (-1)) C.1 C.2.1 dX8_culpritOf_11 (by decide) ?_
    exact m_iret C hW hS hw dX8_culpritOf_12
def wp_X8_failedJob_L4 (S : Hp) (l0 : Nat) (l1 : Int32) (Q : Int32 → Hp → Prop) : Nat → Int32 → Int32 → Prop
  | 0, _, _ => False
  | n + 1, l2, l3 => hK S l0 = 10 ∧ ∃ b2 : Nat, (hR S l0 0) = some b2 ∧ hK S b2 = 11 ∧ ((hI S b2 7) ≤ l3 → Q (-1) S) ∧ (¬ ((hI S b2 7) ≤ l3) → ∃ b5 : Nat, (hR S b2 5) = some b5 ∧ hK S b5 = 19 ∧ vp_in l3 (hN S b5) ∧ ∃ b8 : Nat, (hR S b5 (l3 : Int32).toNatClampNeg) = some b8 ∧ hK S b8 = 6 ∧ ∃ b10 : Nat, (hR S b8 15) = some b10 ∧ hK S b10 = 12 ∧ ((hI S b10 0) = 2 → (l2 = l1 → Q l3 S) ∧ (¬ (l2 = l1) → wp_X8_failedJob_L4 S l0 l1 Q n (l2 + 1) (l3 + 1))) ∧ (¬ ((hI S b10 0) = 2) → wp_X8_failedJob_L4 S l0 l1 Q n l2 (l3 + 1)))
def wp_X8_failedJob (S : Hp) (a0 : Nat) (a1 : Int32) (Q : Int32 → Hp → Prop) : Prop := wp_X8_failedJob_L4 S a0 a1 Q FU 0 0
set_option maxRecDepth 100000 in
set_option maxHeartbeats 4000000 in
theorem w_X8_failedJob_L4 {p : Program} {l : Launch} {e : Env} {s : State} {m : MethodId} {args : Array Value} {below : List Frame} {meth : Method} {c : Code} {G : GX} {Q : Int32 → Hp → Prop} {l0 : Nat} {l1 : Int32} {S : Hp} {H : Heap} {locs : List Loc} (C : Cx p s m args meth c cX8_failedJob 4 RX8 (some .int) "failedJob" G) (hW : wd G S H) (hS : va_S G.2.2.1 s.heap H locs) :
    ∀ (n : Nat) (l2 : Int32) (l3 : Int32) (ls : Array Slot), LV ls 4 → ls[0]? = some (.val (va_rf (some l0))) → ls[1]? = some (.val (.int l1)) → ls[2]? = some (.val (.int l2)) → ls[3]? = some (.val (.int l3)) → wp_X8_failedJob_L4 S l0 l1 Q n l2 l3 → W p l e ({ frames := 0, cells := 0, slots := 0, locals := 0 } : Room) s m args below meth c H locs 0 0 (MQ below (QI G Q) args s 0 0 G.2.2.1) (F0 m 4 ls []) := by
  intro n
  induction n with
  | zero =>
    intro l2 l3 ls hL h0 h1 h2 h3 hw
    exact False.elim hw
  | succ n ih =>
    intro l2 l3 ls hL h0 h1 h2 h3 hw
    unfold wp_X8_failedJob_L4 at hw
    refine lv_iload_n C.1 C.2.1 dX8_failedJob_4 rfl h3 ?_
    refine m_aldN C dX8_failedJob_5 rfl h0 ?_
    obtain ⟨hk1, hw⟩ := hw
    refine m_getR C hW rfl hk1 f_X8_45 rfl dX8_failedJob_6 ?_
    obtain ⟨b2, ho2, hw⟩ := hw
    obtain ⟨hk3, hw⟩ := hw
    refine m_getI C hW ho2 hk3 f_X8_79 rfl dX8_failedJob_9 ?_
    refine lv_icmp_ge (tgt := 50) C.1 C.2.1 dX8_failedJob_12 (by decide) (fun hc4 => ?_) (fun hc4 => ?_)
    · have hw := hw.1 hc4
      refine lv_iconst (v := (-1)) C.1 C.2.1 dX8_failedJob_50 (by decide) ?_
      exact m_iret C hW hS hw dX8_failedJob_51
    · have hw := hw.2 hc4
      refine m_aldN C dX8_failedJob_15 rfl h0 ?_
      refine m_getR C hW rfl hk1 f_X8_45 rfl dX8_failedJob_16 ?_
      refine m_getR C hW ho2 hk3 f_X8_84 rfl dX8_failedJob_19 ?_
      refine lv_iload_n C.1 C.2.1 dX8_failedJob_22 rfl h3 ?_
      obtain ⟨b5, ho5, hw⟩ := hw
      obtain ⟨hk6, hw⟩ := hw
      obtain ⟨hi7, hw⟩ := hw
      refine m_aald C hW ho5 hk6 (by decide) (by decide) hi7 dX8_failedJob_23 ?_
      obtain ⟨b8, ho8, hw⟩ := hw
      obtain ⟨hk9, hw⟩ := hw
      refine m_getR C hW ho8 hk9 f_X8_70 rfl dX8_failedJob_24 ?_
      obtain ⟨b10, ho10, hw⟩ := hw
      obtain ⟨hk11, hw⟩ := hw
      refine m_getI C hW ho10 hk11 f_X8_74 rfl dX8_failedJob_27 ?_
      refine lv_iconst (v := 2) C.1 C.2.1 dX8_failedJob_30 (by decide) ?_
      refine lv_icmp_ne (tgt := 44) C.1 C.2.1 dX8_failedJob_31 (by decide) (fun hc12 => ?_) (fun hc12 => ?_)
      · have hw := hw.2 hc12
        refine m_iinc (v := (l3 + 1)) C hL dX8_failedJob_44 h3 rfl (by decide) (fun ls hL hn9 hk9 => ?_)
        have h0 := hk9 0 _ h0 (by decide) (Or.inl (by decide))
        have h1 := hk9 1 _ h1 (by decide) (Or.inl (by decide))
        have h2 := hk9 2 _ h2 (by decide) (Or.inr (rfl))
        have h3 := hn9
        refine lv_goto (tgt := 4) C.1 C.2.1 dX8_failedJob_47 (by decide) ?_
        exact ih l2 (l3 + 1) ls hL h0 h1 h2 h3 hw
      · have hw := hw.1 hc12
        refine lv_iload_n C.1 C.2.1 dX8_failedJob_34 rfl h2 ?_
        refine lv_iload_n C.1 C.2.1 dX8_failedJob_35 rfl h1 ?_
        refine lv_icmp_ne (tgt := 41) C.1 C.2.1 dX8_failedJob_36 (by decide) (fun hc13 => ?_) (fun hc13 => ?_)
        · have hw := hw.2 hc13
          refine m_iinc (v := (l2 + 1)) C hL dX8_failedJob_41 h2 rfl (by decide) (fun ls hL hn9 hk9 => ?_)
          have h0 := hk9 0 _ h0 (by decide) (Or.inl (by decide))
          have h1 := hk9 1 _ h1 (by decide) (Or.inr (rfl))
          have h3 := hk9 3 _ h3 (by decide) (Or.inl (by decide))
          have h2 := hn9
          refine m_iinc (v := (l3 + 1)) C hL dX8_failedJob_44 h3 rfl (by decide) (fun ls hL hn9 hk9 => ?_)
          have h0 := hk9 0 _ h0 (by decide) (Or.inl (by decide))
          have h1 := hk9 1 _ h1 (by decide) (Or.inl (by decide))
          have h2 := hk9 2 _ h2 (by decide) (Or.inr (rfl))
          have h3 := hn9
          refine lv_goto (tgt := 4) C.1 C.2.1 dX8_failedJob_47 (by decide) ?_
          exact ih (l2 + 1) (l3 + 1) ls hL h0 h1 h2 h3 hw
        · have hw := hw.1 hc13
          refine lv_iload_n C.1 C.2.1 dX8_failedJob_39 rfl h3 ?_
          exact m_iret C hW hS hw dX8_failedJob_40
set_option maxRecDepth 100000 in
set_option maxHeartbeats 4000000 in
theorem c_X8_failedJob {l : Launch} {G : GX} {S : Hp} {a0 : Nat} {a1 : Int32} {Q : Int32 → Hp → Prop} (hw : wp_X8_failedJob S a0 a1 Q) : Met l yX8_failedJob (Cond.code yX8_failedJob cX8_failedJob 4 (some .int) :: TS) { frames := 0, cells := 0, slots := 0, locals := 0 } (Pk G S [va_rf (some a0), .int a1]) (QI G Q) 0 0 G.2.2.1 := by
  refine m_met (by decide) ?_
  intro p e s m below meth c H locs C hW hS
  have C : Cx p s m ([va_rf (some a0), .int a1] : List Value).toArray meth c cX8_failedJob 4 RX8 (some .int) "failedJob" G := C
  obtain ⟨ls, hent, hL, hla⟩ := m_entry m (vs := [va_rf (some a0), .int a1]) (nn := 4) [1, 1] rfl (by decide)
  rw [hent]
  have h0 : ls[0]? = some (.val (va_rf (some a0))) := hla (0, va_rf (some a0)) (List.mem_of_getElem? (i := 0) rfl)
  have h1 : ls[1]? = some (.val (.int a1)) := hla (1, .int a1) (List.mem_of_getElem? (i := 1) rfl)
  clear hla
  generalize ([va_rf (some a0), .int a1] : List Value).toArray = args at C ⊢
  unfold wp_X8_failedJob at hw
  refine lv_iconst (v := 0) C.1 C.2.1 dX8_failedJob_0 (by decide) ?_
  refine m_istN C hL dX8_failedJob_1 rfl (by decide) (fun ls hL hn9 hk9 => ?_)
  have h0 := hk9 0 _ h0 (by decide) (Or.inl (by decide))
  have h1 := hk9 1 _ h1 (by decide) (Or.inr (rfl))
  have h2 := hn9
  refine lv_iconst (v := 0) C.1 C.2.1 dX8_failedJob_2 (by decide) ?_
  refine m_istN C hL dX8_failedJob_3 rfl (by decide) (fun ls hL hn9 hk9 => ?_)
  have h0 := hk9 0 _ h0 (by decide) (Or.inl (by decide))
  have h1 := hk9 1 _ h1 (by decide) (Or.inl (by decide))
  have h2 := hk9 2 _ h2 (by decide) (Or.inr (rfl))
  have h3 := hn9
  exact w_X8_failedJob_L4 C hW hS  FU 0 0 ls hL h0 h1 h2 h3 hw
def wp_X8_idleMinutes_L15 (S : Hp) (l0 : Nat) (l1 : Nat) (Q : Int64 → Hp → Prop) : Nat → Int64 → Int32 → Prop
  | 0, _, _ => False
  | n + 1, l2, l4 => hK S l0 = 10 ∧ ∃ b6 : Nat, (hR S l0 0) = some b6 ∧ hK S b6 = 11 ∧ ((hI S b6 7) ≤ l4 → Q l2 S) ∧ (¬ ((hI S b6 7) ≤ l4) → ∃ b9 : Nat, (hR S b6 5) = some b9 ∧ hK S b9 = 19 ∧ vp_in l4 (hN S b9) ∧ ∃ b12 : Nat, (hR S b9 (l4 : Int32).toNatClampNeg) = some b12 ∧ hK S b12 = 6 ∧ ((hR S b12 1) = (some l1) → vp_in l4 (hN S b9) ∧ ∃ b16 : Nat, (hR S b12 15) = some b16 ∧ hK S b16 = 12 ∧ ∀ z18 : Int64, z18 = (l2 - (((hI S b16 4) : Int32).toInt64)) → wp_X8_idleMinutes_L15 S l0 l1 Q n z18 (l4 + 1)) ∧ (¬ ((hR S b12 1) = (some l1)) → wp_X8_idleMinutes_L15 S l0 l1 Q n l2 (l4 + 1)))
def wp_X8_idleMinutes (S : Hp) (a0 : Nat) (a1 : Option Nat) (Q : Int64 → Hp → Prop) : Prop := ∃ b1 : Nat, a1 = some b1 ∧ hK S b1 = 4 ∧ hK S a0 = 10 ∧ ∀ z4 : Int64, z4 = ((((hI S b1 2) : Int32).toInt64) * (((hI S a0 13) : Int32).toInt64)) → wp_X8_idleMinutes_L15 S a0 b1 Q FU z4 0
set_option maxRecDepth 100000 in
set_option maxHeartbeats 4000000 in
theorem w_X8_idleMinutes_L15 {p : Program} {l : Launch} {e : Env} {s : State} {m : MethodId} {args : Array Value} {below : List Frame} {meth : Method} {c : Code} {G : GX} {Q : Int64 → Hp → Prop} {l0 : Nat} {l1 : Nat} {S : Hp} {H : Heap} {locs : List Loc} (C : Cx p s m args meth c cX8_idleMinutes 5 RX8 (some .long) "idleMinutes" G) (hW : wd G S H) (hS : va_S G.2.2.1 s.heap H locs) :
    ∀ (n : Nat) (l2 : Int64) (l4 : Int32) (ls : Array Slot), LV ls 5 → ls[0]? = some (.val (va_rf (some l0))) → ls[1]? = some (.val (va_rf (some l1))) → ls[2]? = some (.val (.long l2)) → ls[4]? = some (.val (.int l4)) → wp_X8_idleMinutes_L15 S l0 l1 Q n l2 l4 → W p l e ({ frames := 0, cells := 0, slots := 0, locals := 0 } : Room) s m args below meth c H locs 0 0 (MQ below (QL G Q) args s 0 0 G.2.2.1) (F0 m 15 ls []) := by
  intro n
  induction n with
  | zero =>
    intro l2 l4 ls hL h0 h1 h2 h4 hw
    exact False.elim hw
  | succ n ih =>
    intro l2 l4 ls hL h0 h1 h2 h4 hw
    unfold wp_X8_idleMinutes_L15 at hw
    refine lv_iload C.1 C.2.1 dX8_idleMinutes_15 h4 ?_
    refine m_aldN C dX8_idleMinutes_17 rfl h0 ?_
    obtain ⟨hk5, hw⟩ := hw
    refine m_getR C hW rfl hk5 f_X8_45 rfl dX8_idleMinutes_18 ?_
    obtain ⟨b6, ho6, hw⟩ := hw
    obtain ⟨hk7, hw⟩ := hw
    refine m_getI C hW ho6 hk7 f_X8_79 rfl dX8_idleMinutes_21 ?_
    refine lv_icmp_ge (tgt := 70) C.1 C.2.1 dX8_idleMinutes_24 (by decide) (fun hc8 => ?_) (fun hc8 => ?_)
    · have hw := hw.1 hc8
      refine lv_lload_n C.1 C.2.1 dX8_idleMinutes_70 rfl h2 ?_
      exact m_lret C hW hS hw dX8_idleMinutes_71
    · have hw := hw.2 hc8
      refine m_aldN C dX8_idleMinutes_27 rfl h0 ?_
      refine m_getR C hW rfl hk5 f_X8_45 rfl dX8_idleMinutes_28 ?_
      refine m_getR C hW ho6 hk7 f_X8_84 rfl dX8_idleMinutes_31 ?_
      refine lv_iload C.1 C.2.1 dX8_idleMinutes_34 h4 ?_
      obtain ⟨b9, ho9, hw⟩ := hw
      obtain ⟨hk10, hw⟩ := hw
      obtain ⟨hi11, hw⟩ := hw
      refine m_aald C hW ho9 hk10 (by decide) (by decide) hi11 dX8_idleMinutes_36 ?_
      obtain ⟨b12, ho12, hw⟩ := hw
      obtain ⟨hk13, hw⟩ := hw
      refine m_getR C hW ho12 hk13 f_X8_101 rfl dX8_idleMinutes_37 ?_
      refine m_aldN C dX8_idleMinutes_40 rfl h1 ?_
      refine lv_acmp_ne (rx := (hR S b12 1)) (ry := (some l1)) (tgt := 64) C.1 C.2.1 dX8_idleMinutes_41 (by decide) (fun hc14 => ?_) (fun hc14 => ?_)
      · have hw := hw.2 hc14
        refine m_iinc (v := (l4 + 1)) C hL dX8_idleMinutes_64 h4 rfl (by decide) (fun ls hL hn9 hk9 => ?_)
        have h0 := hk9 0 _ h0 (by decide) (Or.inl (by decide))
        have h1 := hk9 1 _ h1 (by decide) (Or.inl (by decide))
        have h2 := hk9 2 _ h2 (by decide) (Or.inl (by decide))
        have h4 := hn9
        refine lv_goto (tgt := 15) C.1 C.2.1 dX8_idleMinutes_67 (by decide) ?_
        exact ih l2 (l4 + 1) ls hL h0 h1 h2 h4 hw
      · have hw := hw.1 hc14
        refine lv_lload_n C.1 C.2.1 dX8_idleMinutes_44 rfl h2 ?_
        refine m_aldN C dX8_idleMinutes_45 rfl h0 ?_
        refine m_getR C hW rfl hk5 f_X8_45 rfl dX8_idleMinutes_46 ?_
        refine m_getR C hW ho6 hk7 f_X8_84 rfl dX8_idleMinutes_49 ?_
        refine lv_iload C.1 C.2.1 dX8_idleMinutes_52 h4 ?_
        obtain ⟨hi15, hw⟩ := hw
        refine m_aald C hW ho9 hk10 (by decide) (by decide) hi15 dX8_idleMinutes_54 ?_
        refine m_getR C hW ho12 hk13 f_X8_70 rfl dX8_idleMinutes_55 ?_
        obtain ⟨b16, ho16, hw⟩ := hw
        obtain ⟨hk17, hw⟩ := hw
        refine m_getI C hW ho16 hk17 f_X8_105 rfl dX8_idleMinutes_58 ?_
        refine lv_i2l (v := (((hI S b16 4) : Int32).toInt64)) C.1 C.2.1 dX8_idleMinutes_61 rfl ?_
        refine lv_lsub C.1 C.2.1 dX8_idleMinutes_62 ?_
        refine lv_topl (fun z18 ez18 => ?_)
        have hw := hw z18 ez18
        refine m_lstN C hL dX8_idleMinutes_63 rfl (by decide) (fun ls hL hn9 hk9 => ?_)
        have h0 := hk9 0 _ h0 (by decide) (by decide) (Or.inl (by decide))
        have h1 := hk9 1 _ h1 (by decide) (by decide) (Or.inr (va_rf_cat _))
        have h4 := hk9 4 _ h4 (by decide) (by decide) (Or.inl (by decide))
        have h2 := hn9
        refine m_iinc (v := (l4 + 1)) C hL dX8_idleMinutes_64 h4 rfl (by decide) (fun ls hL hn9 hk9 => ?_)
        have h0 := hk9 0 _ h0 (by decide) (Or.inl (by decide))
        have h1 := hk9 1 _ h1 (by decide) (Or.inl (by decide))
        have h2 := hk9 2 _ h2 (by decide) (Or.inl (by decide))
        have h4 := hn9
        refine lv_goto (tgt := 15) C.1 C.2.1 dX8_idleMinutes_67 (by decide) ?_
        exact ih z18 (l4 + 1) ls hL h0 h1 h2 h4 hw
set_option maxRecDepth 100000 in
set_option maxHeartbeats 4000000 in
theorem c_X8_idleMinutes {l : Launch} {G : GX} {S : Hp} {a0 : Nat} {a1 : Option Nat} {Q : Int64 → Hp → Prop} (hw : wp_X8_idleMinutes S a0 a1 Q) : Met l yX8_idleMinutes (Cond.code yX8_idleMinutes cX8_idleMinutes 5 (some .long) :: TS) { frames := 0, cells := 0, slots := 0, locals := 0 } (Pk G S [va_rf (some a0), va_rf a1]) (QL G Q) 0 0 G.2.2.1 := by
  refine m_met (by decide) ?_
  intro p e s m below meth c H locs C hW hS
  have C : Cx p s m ([va_rf (some a0), va_rf a1] : List Value).toArray meth c cX8_idleMinutes 5 RX8 (some .long) "idleMinutes" G := C
  obtain ⟨ls, hent, hL, hla⟩ := m_entry m (vs := [va_rf (some a0), va_rf a1]) (nn := 5) [1, 1] (by simp only [List.map_cons, List.map_nil, va_rf_cat] <;> rfl) (by decide)
  rw [hent]
  have h0 : ls[0]? = some (.val (va_rf (some a0))) := hla (0, va_rf (some a0)) (List.mem_of_getElem? (i := 0) rfl)
  have h1 : ls[1]? = some (.val (va_rf a1)) := hla (1, va_rf a1) (List.mem_of_getElem? (i := 1) rfl)
  clear hla
  generalize ([va_rf (some a0), va_rf a1] : List Value).toArray = args at C ⊢
  unfold wp_X8_idleMinutes at hw
  refine m_aldN C dX8_idleMinutes_0 rfl h1 ?_
  obtain ⟨b1, ho1, hw⟩ := hw
  obtain ⟨hk2, hw⟩ := hw
  refine m_getI C hW ho1 hk2 f_X8_93 rfl dX8_idleMinutes_1 ?_
  refine lv_i2l (v := (((hI S b1 2) : Int32).toInt64)) C.1 C.2.1 dX8_idleMinutes_4 rfl ?_
  refine m_aldN C dX8_idleMinutes_5 rfl h0 ?_
  obtain ⟨hk3, hw⟩ := hw
  refine m_getI C hW rfl hk3 f_X8_98 rfl dX8_idleMinutes_6 ?_
  refine lv_i2l (v := (((hI S a0 13) : Int32).toInt64)) C.1 C.2.1 dX8_idleMinutes_9 rfl ?_
  refine lv_lmul C.1 C.2.1 dX8_idleMinutes_10 ?_
  refine lv_topl (fun z4 ez4 => ?_)
  have hw := hw z4 ez4
  refine m_lstN C hL dX8_idleMinutes_11 rfl (by decide) (fun ls hL hn9 hk9 => ?_)
  have h0 := hk9 0 _ h0 (by decide) (by decide) (Or.inl (by decide))
  have h1 := hk9 1 _ h1 (by decide) (by decide) (Or.inr (va_rf_cat _))
  have h2 := hn9
  refine lv_iconst (v := 0) C.1 C.2.1 dX8_idleMinutes_12 (by decide) ?_
  refine m_ist C hL dX8_idleMinutes_13 (by decide) (fun ls hL hn9 hk9 => ?_)
  have h0 := hk9 0 _ h0 (by decide) (Or.inl (by decide))
  have h1 := hk9 1 _ h1 (by decide) (Or.inl (by decide))
  have h2 := hk9 2 _ h2 (by decide) (Or.inl (by decide))
  have h4 := hn9
  rw [ho1] at h1
  exact w_X8_idleMinutes_L15 C hW hS  FU z4 0 ls hL h0 h1 h2 h4 hw
def wp_X9_init (S : Hp) (a0 : Nat) (Q : Hp → Prop) : Prop := ∀ q1 : Nat, hK S q1 = 0 → hK (sN S q1 18 8) a0 = 11 ∧ ∀ q3 : Nat, hK (sR (sN S q1 18 8) a0 0 (some q1)) q3 = 0 → hK (sN (sR (sN S q1 18 8) a0 0 (some q1)) q3 16 60) a0 = 11 ∧ ∀ q5 : Nat, hK (sR (sN (sR (sN S q1 18 8) a0 0 (some q1)) q3 16 60) a0 4 (some q3)) q5 = 0 → hK (sN (sR (sN (sR (sN S q1 18 8) a0 0 (some q1)) q3 16 60) a0 4 (some q3)) q5 19 200) a0 = 11 ∧ ∀ q7 : Nat, hK (sR (sN (sR (sN (sR (sN S q1 18 8) a0 0 (some q1)) q3 16 60) a0 4 (some q3)) q5 19 200) a0 5 (some q5)) q7 = 0 → hK (sN (sR (sN (sR (sN (sR (sN S q1 18 8) a0 0 (some q1)) q3 16 60) a0 4 (some q3)) q5 19 200) a0 5 (some q5)) q7 19 200) a0 = 11 ∧ Q (sR (sN (sR (sN (sR (sN (sR (sN S q1 18 8) a0 0 (some q1)) q3 16 60) a0 4 (some q3)) q5 19 200) a0 5 (some q5)) q7 19 200) a0 6 (some q7))
set_option maxRecDepth 100000 in
set_option maxHeartbeats 4000000 in
theorem c_X9_init {l : Launch} {G : GX} {S : Hp} {a0 : Nat} {Q : Hp → Prop} (hw : wp_X9_init S a0 Q) : Met l yX9_init (Cond.code yX9_init cX9_init 1 none :: TS) { frames := 1, cells := 4, slots := 468, locals := 20 } (Pk G S [va_rf (some a0)]) (QV G Q) 4 468 G.2.2.1 := by
  refine m_met (by decide) ?_
  intro p e s m below meth c H locs C hW hS
  have C : Cx p s m ([va_rf (some a0)] : List Value).toArray meth c cX9_init 1 RX9 none "<init>" G := C
  obtain ⟨ls, hent, hL, hla⟩ := m_entry m (vs := [va_rf (some a0)]) (nn := 1) [1] rfl (by decide)
  rw [hent]
  have h0 : ls[0]? = some (.val (va_rf (some a0))) := hla (0, va_rf (some a0)) (List.mem_of_getElem? (i := 0) rfl)
  clear hla
  generalize ([va_rf (some a0)] : List Value).toArray = args at C ⊢
  unfold wp_X9_init at hw
  refine m_aldN C dX9_init_0 rfl h0 ?_
  refine m_obj C tw_40 tw_33 tw_34 hL.1 ⟨Nat.le_of_ble_eq_true rfl, Nat.le_of_ble_eq_true rfl⟩ (Nat.le_of_ble_eq_true rfl) rfl dX9_init_1 ?_
  refine m_aldN C dX9_init_4 rfl h0 ?_
  refine lv_bipush (v := 8) C.1 C.2.1 dX9_init_5 (by decide) ?_
  refine m_anew (k := 18) (N := 8) C hW hS (by decide) (by decide) rfl (by decide) tw_41 (by decide) (by decide) (by decide) (Nat.le_of_ble_eq_true rfl) (Nat.le_of_ble_eq_true rfl) dX9_init_7 (fun q1 H hq1 hW hS => ?_)
  have hw := hw q1 hq1
  obtain ⟨hk2, hw⟩ := hw
  refine m_putR C hW hS rfl hk2 p_X9_11 (fun _ => rfl) rfl dX9_init_10 (fun H locs hW hS => ?_)
  refine m_aldN C dX9_init_13 rfl h0 ?_
  refine lv_bipush (v := 60) C.1 C.2.1 dX9_init_14 (by decide) ?_
  refine m_newa (N := 60) C hW hS (Or.inr (Or.inl ⟨rfl, rfl⟩)) tw_87 (by decide) (by decide) (by decide) (Nat.le_of_ble_eq_true rfl) (Nat.le_of_ble_eq_true rfl) dX9_init_16 (fun q3 H hq3 hW hS => ?_)
  have hw := hw q3 hq3
  obtain ⟨hk4, hw⟩ := hw
  refine m_putR C hW hS rfl hk4 p_X9_17 (fun _ => rfl) rfl dX9_init_18 (fun H locs hW hS => ?_)
  refine m_aldN C dX9_init_21 rfl h0 ?_
  refine lv_sipush (v := 200) C.1 C.2.1 dX9_init_22 (by decide) ?_
  refine m_anew (k := 19) (N := 200) C hW hS (by decide) (by decide) rfl (by decide) tw_43 (by decide) (by decide) (by decide) (Nat.le_of_ble_eq_true rfl) (Nat.le_of_ble_eq_true rfl) dX9_init_25 (fun q5 H hq5 hW hS => ?_)
  have hw := hw q5 hq5
  obtain ⟨hk6, hw⟩ := hw
  refine m_putR C hW hS rfl hk6 p_X9_23 (fun _ => rfl) rfl dX9_init_28 (fun H locs hW hS => ?_)
  refine m_aldN C dX9_init_31 rfl h0 ?_
  refine lv_sipush (v := 200) C.1 C.2.1 dX9_init_32 (by decide) ?_
  refine m_anew (k := 19) (N := 200) C hW hS (by decide) (by decide) rfl (by decide) tw_43 (by decide) (by decide) (by decide) (Nat.le_of_ble_eq_true rfl) (Nat.le_of_ble_eq_true rfl) dX9_init_35 (fun q7 H hq7 hW hS => ?_)
  have hw := hw q7 hq7
  obtain ⟨hk8, hw⟩ := hw
  refine m_putR C hW hS rfl hk8 p_X9_27 (fun _ => rfl) rfl dX9_init_38 (fun H locs hW hS => ?_)
  exact m_vret C hW hS hw dX9_init_41
def wp_X9_hasCraft (S : Hp) (a0 : Nat) (a1 : Int32) (Q : Int32 → Hp → Prop) : Prop := (a1 < 0 → Q 0 S) ∧ (¬ (a1 < 0) → hK S a0 = 11 ∧ ((hI S a0 1) ≤ a1 → Q 0 S) ∧ (¬ ((hI S a0 1) ≤ a1) → Q 1 S))
set_option maxRecDepth 100000 in
set_option maxHeartbeats 4000000 in
theorem c_X9_hasCraft {l : Launch} {G : GX} {S : Hp} {a0 : Nat} {a1 : Int32} {Q : Int32 → Hp → Prop} (hw : wp_X9_hasCraft S a0 a1 Q) : Met l yX9_hasCraft (Cond.code yX9_hasCraft cX9_hasCraft 2 (some .boolean) :: TS) { frames := 0, cells := 0, slots := 0, locals := 0 } (Pk G S [va_rf (some a0), .int a1]) (QI G Q) 0 0 G.2.2.1 := by
  refine m_met (by decide) ?_
  intro p e s m below meth c H locs C hW hS
  have C : Cx p s m ([va_rf (some a0), .int a1] : List Value).toArray meth c cX9_hasCraft 2 RX9 (some .boolean) "hasCraft" G := C
  obtain ⟨ls, hent, hL, hla⟩ := m_entry m (vs := [va_rf (some a0), .int a1]) (nn := 2) [1, 1] rfl (by decide)
  rw [hent]
  have h0 : ls[0]? = some (.val (va_rf (some a0))) := hla (0, va_rf (some a0)) (List.mem_of_getElem? (i := 0) rfl)
  have h1 : ls[1]? = some (.val (.int a1)) := hla (1, .int a1) (List.mem_of_getElem? (i := 1) rfl)
  clear hla
  generalize ([va_rf (some a0), .int a1] : List Value).toArray = args at C ⊢
  unfold wp_X9_hasCraft at hw
  refine lv_iload_n C.1 C.2.1 dX9_hasCraft_0 rfl h1 ?_
  refine lv_if_lt (tgt := 16) C.1 C.2.1 dX9_hasCraft_1 (by decide) (fun hc1 => ?_) (fun hc1 => ?_)
  · have hw := hw.1 hc1
    refine lv_iconst (v := 0) C.1 C.2.1 dX9_hasCraft_16 (by decide) ?_
    exact m_zret C hW hS (by decide) hw dX9_hasCraft_17
  · have hw := hw.2 hc1
    refine lv_iload_n C.1 C.2.1 dX9_hasCraft_4 rfl h1 ?_
    refine m_aldN C dX9_hasCraft_5 rfl h0 ?_
    obtain ⟨hk2, hw⟩ := hw
    refine m_getI C hW rfl hk2 f_X9_30 rfl dX9_hasCraft_6 ?_
    refine lv_icmp_ge (tgt := 16) C.1 C.2.1 dX9_hasCraft_9 (by decide) (fun hc3 => ?_) (fun hc3 => ?_)
    · have hw := hw.1 hc3
      refine lv_iconst (v := 0) C.1 C.2.1 dX9_hasCraft_16 (by decide) ?_
      exact m_zret C hW hS (by decide) hw dX9_hasCraft_17
    · have hw := hw.2 hc3
      refine lv_iconst (v := 1) C.1 C.2.1 dX9_hasCraft_12 (by decide) ?_
      refine lv_goto (tgt := 17) C.1 C.2.1 dX9_hasCraft_13 (by decide) ?_
      exact m_zret C hW hS (by decide) hw dX9_hasCraft_17
def wp_X9_hasMachine (S : Hp) (a0 : Nat) (a1 : Int32) (Q : Int32 → Hp → Prop) : Prop := (a1 < 0 → Q 0 S) ∧ (¬ (a1 < 0) → hK S a0 = 11 ∧ ((hI S a0 3) ≤ a1 → Q 0 S) ∧ (¬ ((hI S a0 3) ≤ a1) → Q 1 S))
set_option maxRecDepth 100000 in
set_option maxHeartbeats 4000000 in
theorem c_X9_hasMachine {l : Launch} {G : GX} {S : Hp} {a0 : Nat} {a1 : Int32} {Q : Int32 → Hp → Prop} (hw : wp_X9_hasMachine S a0 a1 Q) : Met l yX9_hasMachine (Cond.code yX9_hasMachine cX9_hasMachine 2 (some .boolean) :: TS) { frames := 0, cells := 0, slots := 0, locals := 0 } (Pk G S [va_rf (some a0), .int a1]) (QI G Q) 0 0 G.2.2.1 := by
  refine m_met (by decide) ?_
  intro p e s m below meth c H locs C hW hS
  have C : Cx p s m ([va_rf (some a0), .int a1] : List Value).toArray meth c cX9_hasMachine 2 RX9 (some .boolean) "hasMachine" G := C
  obtain ⟨ls, hent, hL, hla⟩ := m_entry m (vs := [va_rf (some a0), .int a1]) (nn := 2) [1, 1] rfl (by decide)
  rw [hent]
  have h0 : ls[0]? = some (.val (va_rf (some a0))) := hla (0, va_rf (some a0)) (List.mem_of_getElem? (i := 0) rfl)
  have h1 : ls[1]? = some (.val (.int a1)) := hla (1, .int a1) (List.mem_of_getElem? (i := 1) rfl)
  clear hla
  generalize ([va_rf (some a0), .int a1] : List Value).toArray = args at C ⊢
  unfold wp_X9_hasMachine at hw
  refine lv_iload_n C.1 C.2.1 dX9_hasMachine_0 rfl h1 ?_
  refine lv_if_lt (tgt := 16) C.1 C.2.1 dX9_hasMachine_1 (by decide) (fun hc1 => ?_) (fun hc1 => ?_)
  · have hw := hw.1 hc1
    refine lv_iconst (v := 0) C.1 C.2.1 dX9_hasMachine_16 (by decide) ?_
    exact m_zret C hW hS (by decide) hw dX9_hasMachine_17
  · have hw := hw.2 hc1
    refine lv_iload_n C.1 C.2.1 dX9_hasMachine_4 rfl h1 ?_
    refine m_aldN C dX9_hasMachine_5 rfl h0 ?_
    obtain ⟨hk2, hw⟩ := hw
    refine m_getI C hW rfl hk2 f_X9_34 rfl dX9_hasMachine_6 ?_
    refine lv_icmp_ge (tgt := 16) C.1 C.2.1 dX9_hasMachine_9 (by decide) (fun hc3 => ?_) (fun hc3 => ?_)
    · have hw := hw.1 hc3
      refine lv_iconst (v := 0) C.1 C.2.1 dX9_hasMachine_16 (by decide) ?_
      exact m_zret C hW hS (by decide) hw dX9_hasMachine_17
    · have hw := hw.2 hc3
      refine lv_iconst (v := 1) C.1 C.2.1 dX9_hasMachine_12 (by decide) ?_
      refine lv_goto (tgt := 17) C.1 C.2.1 dX9_hasMachine_13 (by decide) ?_
      exact m_zret C hW hS (by decide) hw dX9_hasMachine_17
def wp_X9_hasStock (S : Hp) (a0 : Nat) (a1 : Int32) (Q : Int32 → Hp → Prop) : Prop := (a1 < 0 → Q 0 S) ∧ (¬ (a1 < 0) → (60 ≤ a1 → Q 0 S) ∧ (¬ (60 ≤ a1) → Q 1 S))
set_option maxRecDepth 100000 in
set_option maxHeartbeats 4000000 in
theorem c_X9_hasStock {l : Launch} {G : GX} {S : Hp} {a0 : Nat} {a1 : Int32} {Q : Int32 → Hp → Prop} (hw : wp_X9_hasStock S a0 a1 Q) : Met l yX9_hasStock (Cond.code yX9_hasStock cX9_hasStock 2 (some .boolean) :: TS) { frames := 0, cells := 0, slots := 0, locals := 0 } (Pk G S [va_rf (some a0), .int a1]) (QI G Q) 0 0 G.2.2.1 := by
  refine m_met (by decide) ?_
  intro p e s m below meth c H locs C hW hS
  have C : Cx p s m ([va_rf (some a0), .int a1] : List Value).toArray meth c cX9_hasStock 2 RX9 (some .boolean) "hasStock" G := C
  obtain ⟨ls, hent, hL, hla⟩ := m_entry m (vs := [va_rf (some a0), .int a1]) (nn := 2) [1, 1] rfl (by decide)
  rw [hent]
  have h0 : ls[0]? = some (.val (va_rf (some a0))) := hla (0, va_rf (some a0)) (List.mem_of_getElem? (i := 0) rfl)
  have h1 : ls[1]? = some (.val (.int a1)) := hla (1, .int a1) (List.mem_of_getElem? (i := 1) rfl)
  clear hla
  generalize ([va_rf (some a0), .int a1] : List Value).toArray = args at C ⊢
  unfold wp_X9_hasStock at hw
  refine lv_iload_n C.1 C.2.1 dX9_hasStock_0 rfl h1 ?_
  refine lv_if_lt (tgt := 14) C.1 C.2.1 dX9_hasStock_1 (by decide) (fun hc1 => ?_) (fun hc1 => ?_)
  · have hw := hw.1 hc1
    refine lv_iconst (v := 0) C.1 C.2.1 dX9_hasStock_14 (by decide) ?_
    exact m_zret C hW hS (by decide) hw dX9_hasStock_15
  · have hw := hw.2 hc1
    refine lv_iload_n C.1 C.2.1 dX9_hasStock_4 rfl h1 ?_
    refine lv_bipush (v := 60) C.1 C.2.1 dX9_hasStock_5 (by decide) ?_
    refine lv_icmp_ge (tgt := 14) C.1 C.2.1 dX9_hasStock_7 (by decide) (fun hc2 => ?_) (fun hc2 => ?_)
    · have hw := hw.1 hc2
      refine lv_iconst (v := 0) C.1 C.2.1 dX9_hasStock_14 (by decide) ?_
      exact m_zret C hW hS (by decide) hw dX9_hasStock_15
    · have hw := hw.2 hc2
      refine lv_iconst (v := 1) C.1 C.2.1 dX9_hasStock_10 (by decide) ?_
      refine lv_goto (tgt := 15) C.1 C.2.1 dX9_hasStock_11 (by decide) ?_
      exact m_zret C hW hS (by decide) hw dX9_hasStock_15
def wp_X9_hasJob (S : Hp) (a0 : Nat) (a1 : Int32) (Q : Int32 → Hp → Prop) : Prop := (a1 < 0 → Q 0 S) ∧ (¬ (a1 < 0) → hK S a0 = 11 ∧ ((hI S a0 7) ≤ a1 → Q 0 S) ∧ (¬ ((hI S a0 7) ≤ a1) → Q 1 S))
set_option maxRecDepth 100000 in
set_option maxHeartbeats 4000000 in
theorem c_X9_hasJob {l : Launch} {G : GX} {S : Hp} {a0 : Nat} {a1 : Int32} {Q : Int32 → Hp → Prop} (hw : wp_X9_hasJob S a0 a1 Q) : Met l yX9_hasJob (Cond.code yX9_hasJob cX9_hasJob 2 (some .boolean) :: TS) { frames := 0, cells := 0, slots := 0, locals := 0 } (Pk G S [va_rf (some a0), .int a1]) (QI G Q) 0 0 G.2.2.1 := by
  refine m_met (by decide) ?_
  intro p e s m below meth c H locs C hW hS
  have C : Cx p s m ([va_rf (some a0), .int a1] : List Value).toArray meth c cX9_hasJob 2 RX9 (some .boolean) "hasJob" G := C
  obtain ⟨ls, hent, hL, hla⟩ := m_entry m (vs := [va_rf (some a0), .int a1]) (nn := 2) [1, 1] rfl (by decide)
  rw [hent]
  have h0 : ls[0]? = some (.val (va_rf (some a0))) := hla (0, va_rf (some a0)) (List.mem_of_getElem? (i := 0) rfl)
  have h1 : ls[1]? = some (.val (.int a1)) := hla (1, .int a1) (List.mem_of_getElem? (i := 1) rfl)
  clear hla
  generalize ([va_rf (some a0), .int a1] : List Value).toArray = args at C ⊢
  unfold wp_X9_hasJob at hw
  refine lv_iload_n C.1 C.2.1 dX9_hasJob_0 rfl h1 ?_
  refine lv_if_lt (tgt := 16) C.1 C.2.1 dX9_hasJob_1 (by decide) (fun hc1 => ?_) (fun hc1 => ?_)
  · have hw := hw.1 hc1
    refine lv_iconst (v := 0) C.1 C.2.1 dX9_hasJob_16 (by decide) ?_
    exact m_zret C hW hS (by decide) hw dX9_hasJob_17
  · have hw := hw.2 hc1
    refine lv_iload_n C.1 C.2.1 dX9_hasJob_4 rfl h1 ?_
    refine m_aldN C dX9_hasJob_5 rfl h0 ?_
    obtain ⟨hk2, hw⟩ := hw
    refine m_getI C hW rfl hk2 f_X9_37 rfl dX9_hasJob_6 ?_
    refine lv_icmp_ge (tgt := 16) C.1 C.2.1 dX9_hasJob_9 (by decide) (fun hc3 => ?_) (fun hc3 => ?_)
    · have hw := hw.1 hc3
      refine lv_iconst (v := 0) C.1 C.2.1 dX9_hasJob_16 (by decide) ?_
      exact m_zret C hW hS (by decide) hw dX9_hasJob_17
    · have hw := hw.2 hc3
      refine lv_iconst (v := 1) C.1 C.2.1 dX9_hasJob_12 (by decide) ?_
      refine lv_goto (tgt := 17) C.1 C.2.1 dX9_hasJob_13 (by decide) ?_
      exact m_zret C hW hS (by decide) hw dX9_hasJob_17
def wp_X9_addCraft (S : Hp) (a0 : Nat) (a1 : Int32) (Q : Int32 → Hp → Prop) : Prop := hK S a0 = 11 ∧ ((hI S a0 1) < 8 → ∀ q3 : Nat, hK S q3 = 0 → hK (sN S q3 4 0) a0 = 11 ∧ wp_X2_init (sN S q3 4 0) q3 (hI (sN S q3 4 0) a0 1) (hI (sN S q3 4 0) a0 2) a1 (fun S5 => ∃ b6 : Nat, (hR S a0 0) = some b6 ∧ hK S5 b6 = 18 ∧ vp_in (hI S a0 1) (hN S5 b6) ∧ hK S5 q3 = 4 ∧ hK (sR S5 b6 ((hI S a0 1) : Int32).toNatClampNeg (some q3)) a0 = 11 ∧ Q ((hI (sI (sI (sR S5 b6 ((hI S a0 1) : Int32).toNatClampNeg (some q3)) a0 2 ((hI (sR S5 b6 ((hI S a0 1) : Int32).toNatClampNeg (some q3)) a0 2) + a1)) a0 1 ((hI (sI (sR S5 b6 ((hI S a0 1) : Int32).toNatClampNeg (some q3)) a0 2 ((hI (sR S5 b6 ((hI S a0 1) : Int32).toNatClampNeg (some q3)) a0 2) + a1)) a0 1) + 1)) a0 1) - 1) (sI (sI (sR S5 b6 ((hI S a0 1) : Int32).toNatClampNeg (some q3)) a0 2 ((hI (sR S5 b6 ((hI S a0 1) : Int32).toNatClampNeg (some q3)) a0 2) + a1)) a0 1 ((hI (sI (sR S5 b6 ((hI S a0 1) : Int32).toNatClampNeg (some q3)) a0 2 ((hI (sR S5 b6 ((hI S a0 1) : Int32).toNatClampNeg (some q3)) a0 2) + a1)) a0 1) + 1)))) ∧ (¬ ((hI S a0 1) < 8) → Q (-8) S)
set_option maxRecDepth 100000 in
set_option maxHeartbeats 4000000 in
theorem c_X9_addCraft {l : Launch} {G : GX} {S : Hp} {a0 : Nat} {a1 : Int32} {Q : Int32 → Hp → Prop} (hw : wp_X9_addCraft S a0 a1 Q) : Met l yX9_addCraft (Cond.code yX9_addCraft cX9_addCraft 2 (some .int) :: TS) { frames := 2, cells := 1, slots := 4, locals := 43 } (Pk G S [va_rf (some a0), .int a1]) (QI G Q) 1 4 G.2.2.1 := by
  refine m_met (by decide) ?_
  intro p e s m below meth c H locs C hW hS
  have C : Cx p s m ([va_rf (some a0), .int a1] : List Value).toArray meth c cX9_addCraft 2 RX9 (some .int) "addCraft" G := C
  obtain ⟨ls, hent, hL, hla⟩ := m_entry m (vs := [va_rf (some a0), .int a1]) (nn := 2) [1, 1] rfl (by decide)
  rw [hent]
  have h0 : ls[0]? = some (.val (va_rf (some a0))) := hla (0, va_rf (some a0)) (List.mem_of_getElem? (i := 0) rfl)
  have h1 : ls[1]? = some (.val (.int a1)) := hla (1, .int a1) (List.mem_of_getElem? (i := 1) rfl)
  clear hla
  generalize ([va_rf (some a0), .int a1] : List Value).toArray = args at C ⊢
  unfold wp_X9_addCraft at hw
  refine m_aldN C dX9_addCraft_0 rfl h0 ?_
  obtain ⟨hk1, hw⟩ := hw
  refine m_getI C hW rfl hk1 f_X9_30 rfl dX9_addCraft_1 ?_
  refine lv_bipush (v := 8) C.1 C.2.1 dX9_addCraft_4 (by decide) ?_
  refine lv_icmp_lt (tgt := 12) C.1 C.2.1 dX9_addCraft_6 (by decide) (fun hc2 => ?_) (fun hc2 => ?_)
  · have hw := hw.1 hc2
    refine m_aldN C dX9_addCraft_12 rfl h0 ?_
    refine m_getR C hW rfl hk1 f_X9_11 rfl dX9_addCraft_13 ?_
    refine m_aldN C dX9_addCraft_16 rfl h0 ?_
    refine m_getI C hW rfl hk1 f_X9_30 rfl dX9_addCraft_17 ?_
    refine m_new C hW hS n_X9_9 (Nat.le_of_ble_eq_true rfl) (Nat.le_of_ble_eq_true rfl) dX9_addCraft_20 (fun q3 H hq3 hW hS => ?_)
    have hw := hw q3 hq3
    refine lv_dup C.1 C.2.1 dX9_addCraft_23 (va_rf_cat _) ?_
    refine m_aldN C dX9_addCraft_24 rfl h0 ?_
    obtain ⟨hk4, hw⟩ := hw
    refine m_getI C hW rfl hk4 f_X9_30 rfl dX9_addCraft_25 ?_
    refine m_aldN C dX9_addCraft_28 rfl h0 ?_
    refine m_getI C hW rfl hk4 f_X9_40 rfl dX9_addCraft_29 ?_
    refine lv_iload_n C.1 C.2.1 dX9_addCraft_32 rfl h1 ?_
    refine m_rV (m_runI (As := [.int (hI (sN S q3 4 0) a0 1), .int (hI (sN S q3 4 0) a0 2), .int a1]) (rest := [va_rf (some q3), .int (hI S a0 1), va_rf (hR S a0 0)]) C hW hS hL (c_X2_init hw) i_X9_43 ⟨rfl, rfl⟩ ⟨Nat.le_of_ble_eq_true rfl, Nat.le_of_ble_eq_true rfl⟩ rfl rfl rfl (by simp only [List.map_cons, List.map_nil, va_rf_cat, List.sum_cons, List.sum_nil] <;> exact Nat.le_of_ble_eq_true rfl) dX9_addCraft_33 ⟨Nat.le_of_ble_eq_true rfl, Nat.le_of_ble_eq_true rfl⟩) hS (fun S5 H locs hw hW hS => ?_)
    obtain ⟨b6, ho6, hw⟩ := hw
    obtain ⟨hk7, hw⟩ := hw
    obtain ⟨hi8, hw⟩ := hw
    obtain ⟨hk9, hw⟩ := hw
    refine m_aast C hW hS ho6 hk7 (by decide) (by decide) hi8 (fun bb9 zz9 => by obtain rfl : q3 = bb9 := Option.some.inj ((rfl).symm.trans zz9); exact Or.inl ⟨rfl, hk9⟩) dX9_addCraft_36 (fun H locs hW hS => ?_)
    refine m_aldN C dX9_addCraft_37 rfl h0 ?_
    refine lv_dup C.1 C.2.1 dX9_addCraft_38 (va_rf_cat _) ?_
    obtain ⟨hk10, hw⟩ := hw
    refine m_getI C hW rfl hk10 f_X9_40 rfl dX9_addCraft_39 ?_
    refine lv_iload_n C.1 C.2.1 dX9_addCraft_42 rfl h1 ?_
    refine lv_iadd C.1 C.2.1 dX9_addCraft_43 ?_
    refine m_putI C hW hS rfl hk10 p_X9_40 (fun z => by cases z) rfl dX9_addCraft_44 (fun H locs hW hS => ?_)
    refine m_aldN C dX9_addCraft_47 rfl h0 ?_
    refine lv_dup C.1 C.2.1 dX9_addCraft_48 (va_rf_cat _) ?_
    refine m_getI C hW rfl hk10 f_X9_30 rfl dX9_addCraft_49 ?_
    refine lv_iconst (v := 1) C.1 C.2.1 dX9_addCraft_52 (by decide) ?_
    refine lv_iadd C.1 C.2.1 dX9_addCraft_53 ?_
    refine m_putI C hW hS rfl hk10 p_X9_30 (fun z => by cases z) rfl dX9_addCraft_54 (fun H locs hW hS => ?_)
    refine m_aldN C dX9_addCraft_57 rfl h0 ?_
    refine m_getI C hW rfl hk10 f_X9_30 rfl dX9_addCraft_58 ?_
    refine lv_iconst (v := 1) C.1 C.2.1 dX9_addCraft_61 (by decide) ?_
    refine lv_isub C.1 C.2.1 dX9_addCraft_62 ?_
    exact m_iret C hW hS hw dX9_addCraft_63
  · have hw := hw.2 hc2
    refine lv_bipush (v := (-8)) C.1 C.2.1 dX9_addCraft_9 (by decide) ?_
    refine W.widen (k := 1) (n := 4) (by decide) (by decide) ?_
    exact m_iret C hW hS hw dX9_addCraft_11
def wp_X9_addMachine (S : Hp) (a0 : Nat) (Q : Int32 → Hp → Prop) : Prop := hK S a0 = 11 ∧ Q ((hI (sI S a0 3 ((hI S a0 3) + 1)) a0 3) - 1) (sI S a0 3 ((hI S a0 3) + 1))
set_option maxRecDepth 100000 in
set_option maxHeartbeats 4000000 in
theorem c_X9_addMachine {l : Launch} {G : GX} {S : Hp} {a0 : Nat} {Q : Int32 → Hp → Prop} (hw : wp_X9_addMachine S a0 Q) : Met l yX9_addMachine (Cond.code yX9_addMachine cX9_addMachine 1 (some .int) :: TS) { frames := 0, cells := 0, slots := 0, locals := 0 } (Pk G S [va_rf (some a0)]) (QI G Q) 0 0 G.2.2.1 := by
  refine m_met (by decide) ?_
  intro p e s m below meth c H locs C hW hS
  have C : Cx p s m ([va_rf (some a0)] : List Value).toArray meth c cX9_addMachine 1 RX9 (some .int) "addMachine" G := C
  obtain ⟨ls, hent, hL, hla⟩ := m_entry m (vs := [va_rf (some a0)]) (nn := 1) [1] rfl (by decide)
  rw [hent]
  have h0 : ls[0]? = some (.val (va_rf (some a0))) := hla (0, va_rf (some a0)) (List.mem_of_getElem? (i := 0) rfl)
  clear hla
  generalize ([va_rf (some a0)] : List Value).toArray = args at C ⊢
  unfold wp_X9_addMachine at hw
  refine m_aldN C dX9_addMachine_0 rfl h0 ?_
  refine lv_dup C.1 C.2.1 dX9_addMachine_1 (va_rf_cat _) ?_
  obtain ⟨hk1, hw⟩ := hw
  refine m_getI C hW rfl hk1 f_X9_34 rfl dX9_addMachine_2 ?_
  refine lv_iconst (v := 1) C.1 C.2.1 dX9_addMachine_5 (by decide) ?_
  refine lv_iadd C.1 C.2.1 dX9_addMachine_6 ?_
  refine m_putI C hW hS rfl hk1 p_X9_34 (fun z => by cases z) rfl dX9_addMachine_7 (fun H locs hW hS => ?_)
  refine m_aldN C dX9_addMachine_10 rfl h0 ?_
  refine m_getI C hW rfl hk1 f_X9_34 rfl dX9_addMachine_11 ?_
  refine lv_iconst (v := 1) C.1 C.2.1 dX9_addMachine_14 (by decide) ?_
  refine lv_isub C.1 C.2.1 dX9_addMachine_15 ?_
  exact m_iret C hW hS hw dX9_addMachine_16
def wp_X9_addJob_L46 (l0 : Nat) (l4 : Nat) (K90 : Hp → Int32 → Prop) (Q : Int32 → Hp → Prop) : Nat → Hp → Int32 → Prop
  | 0, _, _ => False
  | n + 1, S, l5 => (l5 ≤ 0 → K90 S l5) ∧ (¬ (l5 ≤ 0) → hK S l0 = 11 ∧ ∃ b14 : Nat, (hR S l0 6) = some b14 ∧ hK S b14 = 19 ∧ vp_in (l5 - 1) (hN S b14) ∧ hK S l4 = 6 ∧ wp_X4_comesAheadOf S l4 (hR S b14 ((l5 - 1) : Int32).toNatClampNeg) (fun r19 S18 => (r19 = 0 → K90 S18 l5) ∧ (¬ (r19 = 0) → hK S18 l0 = 11 ∧ ∃ b22 : Nat, (hR S18 l0 6) = some b22 ∧ hK S18 b22 = 19 ∧ vp_in (l5 - 1) (hN S18 b22) ∧ vp_in l5 (hN S18 b22) ∧ ∃ b26 : Nat, (hR S18 b22 ((l5 - 1) : Int32).toNatClampNeg) = some b26 ∧ hK S18 b26 = 6 ∧ wp_X9_addJob_L46 l0 l4 K90 Q n (sR S18 b22 (l5 : Int32).toNatClampNeg (hR S18 b22 ((l5 - 1) : Int32).toNatClampNeg)) (l5 + (-1)))))
def wp_X9_addJob (S : Hp) (a0 : Nat) (a1 : Option Nat) (a2 : Int32) (a3 : Int32) (Q : Int32 → Hp → Prop) : Prop := hK S a0 = 11 ∧ ((hI S a0 7) < 200 → ∀ q3 : Nat, hK S q3 = 0 → hK (sN S q3 6 0) a0 = 11 ∧ wp_X4_init (sN S q3 6 0) q3 (hI (sN S q3 6 0) a0 7) a1 a2 a3 (fun S5 => hK S5 a0 = 11 ∧ ∃ b7 : Nat, (hR S5 a0 5) = some b7 ∧ hK S5 b7 = 19 ∧ vp_in (hI S5 a0 7) (hN S5 b7) ∧ hK S5 q3 = 6 ∧ ∀ x11 : Int32, x11 = (hI (sR S5 b7 ((hI S5 a0 7) : Int32).toNatClampNeg (some q3)) a0 7) → wp_X9_addJob_L46 a0 q3 (fun (S28 : Hp) (x29 : Int32) => hK S28 a0 = 11 ∧ ∃ b31 : Nat, (hR S28 a0 6) = some b31 ∧ hK S28 b31 = 19 ∧ vp_in x29 (hN S28 b31) ∧ hK S28 q3 = 6 ∧ Q (hI (sI (sR S28 b31 (x29 : Int32).toNatClampNeg (some q3)) a0 7 ((hI (sR S28 b31 (x29 : Int32).toNatClampNeg (some q3)) a0 7) + 1)) q3 0) (sI (sR S28 b31 (x29 : Int32).toNatClampNeg (some q3)) a0 7 ((hI (sR S28 b31 (x29 : Int32).toNatClampNeg (some q3)) a0 7) + 1))) Q FU (sR S5 b7 ((hI S5 a0 7) : Int32).toNatClampNeg (some q3)) x11)) ∧ (¬ ((hI S a0 7) < 200) → Q (-8) S)
set_option maxRecDepth 100000 in
set_option maxHeartbeats 4000000 in
theorem w_X9_addJob_L46 {p : Program} {l : Launch} {e : Env} {s : State} {m : MethodId} {args : Array Value} {below : List Frame} {meth : Method} {c : Code} {G : GX} {Q : Int32 → Hp → Prop} {K90 : Hp → Int32 → Prop} {l0 : Nat} {l4 : Nat} (C : Cx p s m args meth c cX9_addJob 6 RX9 (some .int) "addJob" G)
    (k90 : ∀ (S : Hp) (l5 : Int32) (H : Heap) (locs : List Loc) (ls : Array Slot), wd G S H → va_S G.2.2.1 s.heap H locs → LV ls 6 → ls[0]? = some (.val (va_rf (some l0))) → ls[4]? = some (.val (va_rf (some l4))) → ls[5]? = some (.val (.int l5)) → K90 S l5 → W p l e ({ frames := 5, cells := 14, slots := 316, locals := 104 } : Room) s m args below meth c H locs 14 316 (MQ below (QI G Q) args s 14 316 G.2.2.1) (F0 m 90 ls [])) :
    ∀ (n : Nat) (S : Hp) (l5 : Int32) (H : Heap) (locs : List Loc) (ls : Array Slot), wd G S H → va_S G.2.2.1 s.heap H locs → LV ls 6 → ls[0]? = some (.val (va_rf (some l0))) → ls[4]? = some (.val (va_rf (some l4))) → ls[5]? = some (.val (.int l5)) → wp_X9_addJob_L46 l0 l4 K90 Q n S l5 → W p l e ({ frames := 5, cells := 14, slots := 316, locals := 104 } : Room) s m args below meth c H locs 14 316 (MQ below (QI G Q) args s 14 316 G.2.2.1) (F0 m 46 ls []) := by
  intro n
  induction n with
  | zero =>
    intro S l5 H locs ls hW hS hL h0 h4 h5 hw
    exact False.elim hw
  | succ n ih =>
    intro S l5 H locs ls hW hS hL h0 h4 h5 hw
    unfold wp_X9_addJob_L46 at hw
    refine lv_iload C.1 C.2.1 dX9_addJob_46 h5 ?_
    refine lv_if_le (tgt := 90) C.1 C.2.1 dX9_addJob_48 (by decide) (fun hc12 => ?_) (fun hc12 => ?_)
    · have hw := hw.1 hc12
      exact k90 S l5 H locs ls hW hS hL h0 h4 h5 hw
    · have hw := hw.2 hc12
      refine m_ald C dX9_addJob_51 h4 ?_
      refine m_aldN C dX9_addJob_53 rfl h0 ?_
      obtain ⟨hk13, hw⟩ := hw
      refine m_getR C hW rfl hk13 f_X9_27 rfl dX9_addJob_54 ?_
      refine lv_iload C.1 C.2.1 dX9_addJob_57 h5 ?_
      refine lv_iconst (v := 1) C.1 C.2.1 dX9_addJob_59 (by decide) ?_
      refine lv_isub C.1 C.2.1 dX9_addJob_60 ?_
      obtain ⟨b14, ho14, hw⟩ := hw
      obtain ⟨hk15, hw⟩ := hw
      obtain ⟨hi16, hw⟩ := hw
      refine m_aald C hW ho14 hk15 (by decide) (by decide) hi16 dX9_addJob_61 ?_
      obtain ⟨hk17, hw⟩ := hw
      refine m_rI (m_runV (As := [va_rf (hR S b14 ((l5 - 1) : Int32).toNatClampNeg)]) (rest := []) C hW hS hL (c_X4_comesAheadOf hw) v_X9_49 ⟨rfl, rfl⟩ ⟨Nat.le_of_ble_eq_true rfl, Nat.le_of_ble_eq_true rfl⟩ rfl hk17 rfl rfl (Nat.le_of_ble_eq_true rfl) dX9_addJob_62 ⟨Nat.le_of_ble_eq_true rfl, Nat.le_of_ble_eq_true rfl⟩) hS (fun r19 S18 H locs hw hW hS => ?_)
      refine lv_if_eq (tgt := 90) C.1 C.2.1 dX9_addJob_65 (by decide) (fun hc20 => ?_) (fun hc20 => ?_)
      · have hw := hw.1 hc20
        exact k90 S18 l5 H locs ls hW hS hL h0 h4 h5 hw
      · have hw := hw.2 hc20
        refine m_aldN C dX9_addJob_68 rfl h0 ?_
        obtain ⟨hk21, hw⟩ := hw
        refine m_getR C hW rfl hk21 f_X9_27 rfl dX9_addJob_69 ?_
        refine lv_iload C.1 C.2.1 dX9_addJob_72 h5 ?_
        refine m_aldN C dX9_addJob_74 rfl h0 ?_
        refine m_getR C hW rfl hk21 f_X9_27 rfl dX9_addJob_75 ?_
        refine lv_iload C.1 C.2.1 dX9_addJob_78 h5 ?_
        refine lv_iconst (v := 1) C.1 C.2.1 dX9_addJob_80 (by decide) ?_
        refine lv_isub C.1 C.2.1 dX9_addJob_81 ?_
        obtain ⟨b22, ho22, hw⟩ := hw
        obtain ⟨hk23, hw⟩ := hw
        obtain ⟨hi24, hw⟩ := hw
        refine m_aald C hW ho22 hk23 (by decide) (by decide) hi24 dX9_addJob_82 ?_
        obtain ⟨hi25, hw⟩ := hw
        obtain ⟨b26, ho26, hw⟩ := hw
        obtain ⟨hk27, hw⟩ := hw
        refine m_aast C hW hS ho22 hk23 (by decide) (by decide) hi25 (fun bb9 zz9 => by obtain rfl : b26 = bb9 := Option.some.inj ((ho26).symm.trans zz9); exact Or.inr ⟨by decide, hk27⟩) dX9_addJob_83 (fun H locs hW hS => ?_)
        refine m_iinc (v := (l5 + (-1))) C hL dX9_addJob_84 h5 rfl (by decide) (fun ls hL hn9 hk9 => ?_)
        have h0 := hk9 0 _ h0 (by decide) (Or.inl (by decide))
        have h4 := hk9 4 _ h4 (by decide) (Or.inr (va_rf_cat _))
        have h5 := hn9
        refine lv_goto (tgt := 46) C.1 C.2.1 dX9_addJob_87 (by decide) ?_
        exact ih (sR S18 b22 (l5 : Int32).toNatClampNeg (hR S18 b22 ((l5 - 1) : Int32).toNatClampNeg)) (l5 + (-1)) H locs ls hW hS hL h0 h4 h5 hw
set_option maxRecDepth 100000 in
set_option maxHeartbeats 4000000 in
theorem c_X9_addJob {l : Launch} {G : GX} {S : Hp} {a0 : Nat} {a1 : Option Nat} {a2 : Int32} {a3 : Int32} {Q : Int32 → Hp → Prop} (hw : wp_X9_addJob S a0 a1 a2 a3 Q) : Met l yX9_addJob (Cond.code yX9_addJob cX9_addJob 6 (some .int) :: TS) { frames := 5, cells := 14, slots := 316, locals := 104 } (Pk G S [va_rf (some a0), va_rf a1, .int a2, .int a3]) (QI G Q) 14 316 G.2.2.1 := by
  refine m_met (by decide) ?_
  intro p e s m below meth c H locs C hW hS
  have C : Cx p s m ([va_rf (some a0), va_rf a1, .int a2, .int a3] : List Value).toArray meth c cX9_addJob 6 RX9 (some .int) "addJob" G := C
  obtain ⟨ls, hent, hL, hla⟩ := m_entry m (vs := [va_rf (some a0), va_rf a1, .int a2, .int a3]) (nn := 6) [1, 1, 1, 1] (by simp only [List.map_cons, List.map_nil, va_rf_cat] <;> rfl) (by decide)
  rw [hent]
  have h0 : ls[0]? = some (.val (va_rf (some a0))) := hla (0, va_rf (some a0)) (List.mem_of_getElem? (i := 0) rfl)
  have h1 : ls[1]? = some (.val (va_rf a1)) := hla (1, va_rf a1) (List.mem_of_getElem? (i := 1) rfl)
  have h2 : ls[2]? = some (.val (.int a2)) := hla (2, .int a2) (List.mem_of_getElem? (i := 2) rfl)
  have h3 : ls[3]? = some (.val (.int a3)) := hla (3, .int a3) (List.mem_of_getElem? (i := 3) rfl)
  clear hla
  generalize ([va_rf (some a0), va_rf a1, .int a2, .int a3] : List Value).toArray = args at C ⊢
  unfold wp_X9_addJob at hw
  refine m_aldN C dX9_addJob_0 rfl h0 ?_
  obtain ⟨hk1, hw⟩ := hw
  refine m_getI C hW rfl hk1 f_X9_37 rfl dX9_addJob_1 ?_
  refine lv_sipush (v := 200) C.1 C.2.1 dX9_addJob_4 (by decide) ?_
  refine lv_icmp_lt (tgt := 13) C.1 C.2.1 dX9_addJob_7 (by decide) (fun hc2 => ?_) (fun hc2 => ?_)
  · have hw := hw.1 hc2
    refine m_new C hW hS n_X9_21 (Nat.le_of_ble_eq_true rfl) (Nat.le_of_ble_eq_true rfl) dX9_addJob_13 (fun q3 H hq3 hW hS => ?_)
    have hw := hw q3 hq3
    refine lv_dup C.1 C.2.1 dX9_addJob_16 (va_rf_cat _) ?_
    refine m_aldN C dX9_addJob_17 rfl h0 ?_
    obtain ⟨hk4, hw⟩ := hw
    refine m_getI C hW rfl hk4 f_X9_37 rfl dX9_addJob_18 ?_
    refine m_aldN C dX9_addJob_21 rfl h1 ?_
    refine lv_iload_n C.1 C.2.1 dX9_addJob_22 rfl h2 ?_
    refine lv_iload_n C.1 C.2.1 dX9_addJob_23 rfl h3 ?_
    refine m_rV (m_runI (As := [.int (hI (sN S q3 6 0) a0 7), va_rf a1, .int a2, .int a3]) (rest := [va_rf (some q3)]) C hW hS hL (c_X4_init hw) i_X9_46 ⟨rfl, rfl⟩ ⟨Nat.le_of_ble_eq_true rfl, Nat.le_of_ble_eq_true rfl⟩ rfl rfl rfl (by simp only [List.map_cons, List.map_nil, va_rf_cat, List.sum_cons, List.sum_nil] <;> exact Nat.le_of_ble_eq_true rfl) dX9_addJob_24 ⟨Nat.le_of_ble_eq_true rfl, Nat.le_of_ble_eq_true rfl⟩) hS (fun S5 H locs hw hW hS => ?_)
    refine m_ast_ C hL dX9_addJob_27 (by decide) (fun ls hL hn9 hk9 => ?_)
    have h0 := hk9 0 _ h0 (by decide) (Or.inl (by decide))
    have h4 := hn9
    refine m_aldN C dX9_addJob_29 rfl h0 ?_
    obtain ⟨hk6, hw⟩ := hw
    refine m_getR C hW rfl hk6 f_X9_23 rfl dX9_addJob_30 ?_
    refine m_aldN C dX9_addJob_33 rfl h0 ?_
    refine m_getI C hW rfl hk6 f_X9_37 rfl dX9_addJob_34 ?_
    refine m_ald C dX9_addJob_37 h4 ?_
    obtain ⟨b7, ho7, hw⟩ := hw
    obtain ⟨hk8, hw⟩ := hw
    obtain ⟨hi9, hw⟩ := hw
    obtain ⟨hk10, hw⟩ := hw
    refine m_aast C hW hS ho7 hk8 (by decide) (by decide) hi9 (fun bb9 zz9 => by obtain rfl : q3 = bb9 := Option.some.inj ((rfl).symm.trans zz9); exact Or.inr ⟨by decide, hk10⟩) dX9_addJob_39 (fun H locs hW hS => ?_)
    refine m_aldN C dX9_addJob_40 rfl h0 ?_
    refine m_getI C hW rfl hk6 f_X9_37 rfl dX9_addJob_41 ?_
    refine lv_topi (fun x11 ex11 => ?_)
    have hw := hw x11 ex11
    refine m_ist C hL dX9_addJob_44 (by decide) (fun ls hL hn9 hk9 => ?_)
    have h0 := hk9 0 _ h0 (by decide) (Or.inl (by decide))
    have h4 := hk9 4 _ h4 (by decide) (Or.inr (va_rf_cat _))
    have h5 := hn9
    refine w_X9_addJob_L46 C ?_ FU (sR S5 b7 ((hI S5 a0 7) : Int32).toNatClampNeg (some q3)) x11 H locs ls hW hS hL h0 h4 h5 hw
    · intro S28 x29 H locs ls hW hS hL h0 h4 h5 hw
      refine m_aldN C dX9_addJob_90 rfl h0 ?_
      obtain ⟨hk30, hw⟩ := hw
      refine m_getR C hW rfl hk30 f_X9_27 rfl dX9_addJob_91 ?_
      refine lv_iload C.1 C.2.1 dX9_addJob_94 h5 ?_
      refine m_ald C dX9_addJob_96 h4 ?_
      obtain ⟨b31, ho31, hw⟩ := hw
      obtain ⟨hk32, hw⟩ := hw
      obtain ⟨hi33, hw⟩ := hw
      obtain ⟨hk34, hw⟩ := hw
      refine m_aast C hW hS ho31 hk32 (by decide) (by decide) hi33 (fun bb9 zz9 => by obtain rfl : q3 = bb9 := Option.some.inj ((rfl).symm.trans zz9); exact Or.inr ⟨by decide, hk34⟩) dX9_addJob_98 (fun H locs hW hS => ?_)
      refine m_aldN C dX9_addJob_99 rfl h0 ?_
      refine lv_dup C.1 C.2.1 dX9_addJob_100 (va_rf_cat _) ?_
      refine m_getI C hW rfl hk30 f_X9_37 rfl dX9_addJob_101 ?_
      refine lv_iconst (v := 1) C.1 C.2.1 dX9_addJob_104 (by decide) ?_
      refine lv_iadd C.1 C.2.1 dX9_addJob_105 ?_
      refine m_putI C hW hS rfl hk30 p_X9_37 (fun z => by cases z) rfl dX9_addJob_106 (fun H locs hW hS => ?_)
      refine m_ald C dX9_addJob_109 h4 ?_
      refine m_getI C hW rfl hk34 f_X9_53 rfl dX9_addJob_111 ?_
      exact m_iret C hW hS hw dX9_addJob_114
  · have hw := hw.2 hc2
    refine lv_bipush (v := (-8)) C.1 C.2.1 dX9_addJob_10 (by decide) ?_
    refine W.widen (k := 14) (n := 316) (by decide) (by decide) ?_
    exact m_iret C hW hS hw dX9_addJob_12
def wp_X11_init (S : Hp) (a0 : Nat) (Q : Hp → Prop) : Prop := ∀ q1 : Nat, hK S q1 = 0 → wp_X9_init (sN S q1 11 0) q1 (fun S2 => hK S2 a0 = 13 ∧ ∀ q4 : Nat, hK (sR S2 a0 0 (some q1)) q4 = 0 → hK (sN (sR S2 a0 0 (some q1)) q4 8 0) a0 = 13 ∧ wp_X6_init (sN (sR S2 a0 0 (some q1)) q4 8 0) q4 (hR (sN (sR S2 a0 0 (some q1)) q4 8 0) a0 0) (fun S6 => hK S6 a0 = 13 ∧ ∀ q8 : Nat, hK (sR S6 a0 1 (some q4)) q8 = 0 → wp_X1_init (sN (sR S6 a0 1 (some q4)) q8 3 0) q8 (fun S9 => hK S9 a0 = 13 ∧ ∀ q11 : Nat, hK (sR S9 a0 2 (some q8)) q11 = 0 → hK (sN (sR S9 a0 2 (some q8)) q11 10 0) a0 = 13 ∧ wp_X8_init (sN (sR S9 a0 2 (some q8)) q11 10 0) q11 (hR (sN (sR S9 a0 2 (some q8)) q11 10 0) a0 0) (fun S13 => hK S13 a0 = 13 ∧ Q (sR S13 a0 3 (some q11))))))
set_option maxRecDepth 100000 in
set_option maxHeartbeats 4000000 in
theorem c_X11_init {l : Launch} {G : GX} {S : Hp} {a0 : Nat} {Q : Hp → Prop} (hw : wp_X11_init S a0 Q) : Met l yX11_init (Cond.code yX11_init cX11_init 1 none :: TS) { frames := 4, cells := 22, slots := 1964, locals := 83 } (Pk G S [va_rf (some a0)]) (QV G Q) 22 1964 G.2.2.1 := by
  refine m_met (by decide) ?_
  intro p e s m below meth c H locs C hW hS
  have C : Cx p s m ([va_rf (some a0)] : List Value).toArray meth c cX11_init 1 RX11 none "<init>" G := C
  obtain ⟨ls, hent, hL, hla⟩ := m_entry m (vs := [va_rf (some a0)]) (nn := 1) [1] rfl (by decide)
  rw [hent]
  have h0 : ls[0]? = some (.val (va_rf (some a0))) := hla (0, va_rf (some a0)) (List.mem_of_getElem? (i := 0) rfl)
  clear hla
  generalize ([va_rf (some a0)] : List Value).toArray = args at C ⊢
  unfold wp_X11_init at hw
  refine m_aldN C dX11_init_0 rfl h0 ?_
  refine m_obj C tw_32 tw_33 tw_34 hL.1 ⟨Nat.le_of_ble_eq_true rfl, Nat.le_of_ble_eq_true rfl⟩ (Nat.le_of_ble_eq_true rfl) rfl dX11_init_1 ?_
  refine m_aldN C dX11_init_4 rfl h0 ?_
  refine m_new C hW hS n_X11_7 (Nat.le_of_ble_eq_true rfl) (Nat.le_of_ble_eq_true rfl) dX11_init_5 (fun q1 H hq1 hW hS => ?_)
  have hw := hw q1 hq1
  refine lv_dup C.1 C.2.1 dX11_init_8 (va_rf_cat _) ?_
  refine m_rV (m_runI (As := []) (rest := [va_rf (some q1), va_rf (some a0)]) C hW hS hL (c_X9_init hw) i_X11_9 ⟨rfl, rfl⟩ ⟨Nat.le_of_ble_eq_true rfl, Nat.le_of_ble_eq_true rfl⟩ rfl rfl rfl (by simp only [List.map_cons, List.map_nil, va_rf_cat, List.sum_cons, List.sum_nil] <;> exact Nat.le_of_ble_eq_true rfl) dX11_init_9 ⟨Nat.le_of_ble_eq_true rfl, Nat.le_of_ble_eq_true rfl⟩) hS (fun S2 H locs hw hW hS => ?_)
  obtain ⟨hk3, hw⟩ := hw
  refine m_putR C hW hS rfl hk3 p_X11_10 (fun _ => rfl) rfl dX11_init_12 (fun H locs hW hS => ?_)
  refine m_aldN C dX11_init_15 rfl h0 ?_
  refine m_new C hW hS n_X11_16 (Nat.le_of_ble_eq_true rfl) (Nat.le_of_ble_eq_true rfl) dX11_init_16 (fun q4 H hq4 hW hS => ?_)
  have hw := hw q4 hq4
  refine lv_dup C.1 C.2.1 dX11_init_19 (va_rf_cat _) ?_
  refine m_aldN C dX11_init_20 rfl h0 ?_
  obtain ⟨hk5, hw⟩ := hw
  refine m_getR C hW rfl hk5 f_X11_10 rfl dX11_init_21 ?_
  refine m_rV (m_runI (As := [va_rf (hR (sN (sR S2 a0 0 (some q1)) q4 8 0) a0 0)]) (rest := [va_rf (some q4), va_rf (some a0)]) C hW hS hL (c_X6_init hw) i_X11_18 ⟨rfl, rfl⟩ ⟨Nat.le_of_ble_eq_true rfl, Nat.le_of_ble_eq_true rfl⟩ rfl rfl rfl (by simp only [List.map_cons, List.map_nil, va_rf_cat, List.sum_cons, List.sum_nil] <;> exact Nat.le_of_ble_eq_true rfl) dX11_init_24 ⟨Nat.le_of_ble_eq_true rfl, Nat.le_of_ble_eq_true rfl⟩) hS (fun S6 H locs hw hW hS => ?_)
  obtain ⟨hk7, hw⟩ := hw
  refine m_putR C hW hS rfl hk7 p_X11_21 (fun _ => rfl) rfl dX11_init_27 (fun H locs hW hS => ?_)
  refine m_aldN C dX11_init_30 rfl h0 ?_
  refine m_new C hW hS n_X11_25 (Nat.le_of_ble_eq_true rfl) (Nat.le_of_ble_eq_true rfl) dX11_init_31 (fun q8 H hq8 hW hS => ?_)
  have hw := hw q8 hq8
  refine lv_dup C.1 C.2.1 dX11_init_34 (va_rf_cat _) ?_
  refine m_rV (m_runI (As := []) (rest := [va_rf (some q8), va_rf (some a0)]) C hW hS hL (c_X1_init hw) i_X11_27 ⟨rfl, rfl⟩ ⟨Nat.le_of_ble_eq_true rfl, Nat.le_of_ble_eq_true rfl⟩ rfl rfl rfl (by simp only [List.map_cons, List.map_nil, va_rf_cat, List.sum_cons, List.sum_nil] <;> exact Nat.le_of_ble_eq_true rfl) dX11_init_35 ⟨Nat.le_of_ble_eq_true rfl, Nat.le_of_ble_eq_true rfl⟩) hS (fun S9 H locs hw hW hS => ?_)
  obtain ⟨hk10, hw⟩ := hw
  refine m_putR C hW hS rfl hk10 p_X11_28 (fun _ => rfl) rfl dX11_init_38 (fun H locs hW hS => ?_)
  refine m_aldN C dX11_init_41 rfl h0 ?_
  refine m_new C hW hS n_X11_32 (Nat.le_of_ble_eq_true rfl) (Nat.le_of_ble_eq_true rfl) dX11_init_42 (fun q11 H hq11 hW hS => ?_)
  have hw := hw q11 hq11
  refine lv_dup C.1 C.2.1 dX11_init_45 (va_rf_cat _) ?_
  refine m_aldN C dX11_init_46 rfl h0 ?_
  obtain ⟨hk12, hw⟩ := hw
  refine m_getR C hW rfl hk12 f_X11_10 rfl dX11_init_47 ?_
  refine m_rV (m_runI (As := [va_rf (hR (sN (sR S9 a0 2 (some q8)) q11 10 0) a0 0)]) (rest := [va_rf (some q11), va_rf (some a0)]) C hW hS hL (c_X8_init hw) i_X11_34 ⟨rfl, rfl⟩ ⟨Nat.le_of_ble_eq_true rfl, Nat.le_of_ble_eq_true rfl⟩ rfl rfl rfl (by simp only [List.map_cons, List.map_nil, va_rf_cat, List.sum_cons, List.sum_nil] <;> exact Nat.le_of_ble_eq_true rfl) dX11_init_50 ⟨Nat.le_of_ble_eq_true rfl, Nat.le_of_ble_eq_true rfl⟩) hS (fun S13 H locs hw hW hS => ?_)
  obtain ⟨hk14, hw⟩ := hw
  refine m_putR C hW hS rfl hk14 p_X11_35 (fun _ => rfl) rfl dX11_init_53 (fun H locs hW hS => ?_)
  exact m_vret C hW hS hw dX11_init_56
def wp_X11_craft (S : Hp) (a0 : Nat) (a1 : Int32) (Q : Int32 → Hp → Prop) : Prop := (a1 < 0 → Q (-2) S) ∧ (¬ (a1 < 0) → (a1 ≤ 32 → hK S a0 = 13 ∧ ∃ b4 : Nat, (hR S a0 0) = some b4 ∧ hK S b4 = 11 ∧ (8 ≤ (hI S b4 1) → Q (-8) S) ∧ (¬ (8 ≤ (hI S b4 1)) → (((hI S b4 2) + a1) ≤ 32 → ∃ b8 : Nat, (hR S a0 3) = some b8 ∧ hK S b8 = 10 ∧ wp_X8_empty S b8 (fun r11 S10 => hK S10 a0 = 13 ∧ ∃ b13 : Nat, (hR S10 a0 0) = some b13 ∧ hK S10 b13 = 11 ∧ wp_X9_addCraft S10 b13 a1 (fun r16 S15 => Q r16 S15))) ∧ (¬ (((hI S b4 2) + a1) ≤ 32) → Q (-8) S))) ∧ (¬ (a1 ≤ 32) → Q (-2) S))
set_option maxRecDepth 100000 in
set_option maxHeartbeats 4000000 in
theorem c_X11_craft {l : Launch} {G : GX} {S : Hp} {a0 : Nat} {a1 : Int32} {Q : Int32 → Hp → Prop} (hw : wp_X11_craft S a0 a1 Q) : Met l yX11_craft (Cond.code yX11_craft cX11_craft 2 (some .int) :: TS) { frames := 4, cells := 1, slots := 4, locals := 83 } (Pk G S [va_rf (some a0), .int a1]) (QI G Q) 1 4 G.2.2.1 := by
  refine m_met (by decide) ?_
  intro p e s m below meth c H locs C hW hS
  have C : Cx p s m ([va_rf (some a0), .int a1] : List Value).toArray meth c cX11_craft 2 RX11 (some .int) "craft" G := C
  obtain ⟨ls, hent, hL, hla⟩ := m_entry m (vs := [va_rf (some a0), .int a1]) (nn := 2) [1, 1] rfl (by decide)
  rw [hent]
  have h0 : ls[0]? = some (.val (va_rf (some a0))) := hla (0, va_rf (some a0)) (List.mem_of_getElem? (i := 0) rfl)
  have h1 : ls[1]? = some (.val (.int a1)) := hla (1, .int a1) (List.mem_of_getElem? (i := 1) rfl)
  clear hla
  generalize ([va_rf (some a0), .int a1] : List Value).toArray = args at C ⊢
  unfold wp_X11_craft at hw
  refine lv_iload_n C.1 C.2.1 dX11_craft_0 rfl h1 ?_
  refine lv_if_lt (tgt := 10) C.1 C.2.1 dX11_craft_1 (by decide) (fun hc1 => ?_) (fun hc1 => ?_)
  · have hw := hw.1 hc1
    refine lv_bipush (v := (-2)) C.1 C.2.1 dX11_craft_10 (by decide) ?_
    refine W.widen (k := 1) (n := 4) (by decide) (by decide) ?_
    exact m_iret C hW hS hw dX11_craft_12
  · have hw := hw.2 hc1
    refine lv_iload_n C.1 C.2.1 dX11_craft_4 rfl h1 ?_
    refine lv_bipush (v := 32) C.1 C.2.1 dX11_craft_5 (by decide) ?_
    refine lv_icmp_le (tgt := 13) C.1 C.2.1 dX11_craft_7 (by decide) (fun hc2 => ?_) (fun hc2 => ?_)
    · have hw := hw.1 hc2
      refine m_aldN C dX11_craft_13 rfl h0 ?_
      obtain ⟨hk3, hw⟩ := hw
      refine m_getR C hW rfl hk3 f_X11_10 rfl dX11_craft_14 ?_
      obtain ⟨b4, ho4, hw⟩ := hw
      obtain ⟨hk5, hw⟩ := hw
      refine m_getI C hW ho4 hk5 f_X11_39 rfl dX11_craft_17 ?_
      refine lv_bipush (v := 8) C.1 C.2.1 dX11_craft_20 (by decide) ?_
      refine lv_icmp_ge (tgt := 39) C.1 C.2.1 dX11_craft_22 (by decide) (fun hc6 => ?_) (fun hc6 => ?_)
      · have hw := hw.1 hc6
        refine lv_bipush (v := (-8)) C.1 C.2.1 dX11_craft_39 (by decide) ?_
        refine W.widen (k := 1) (n := 4) (by decide) (by decide) ?_
        exact m_iret C hW hS hw dX11_craft_41
      · have hw := hw.2 hc6
        refine m_aldN C dX11_craft_25 rfl h0 ?_
        refine m_getR C hW rfl hk3 f_X11_10 rfl dX11_craft_26 ?_
        refine m_getI C hW ho4 hk5 f_X11_43 rfl dX11_craft_29 ?_
        refine lv_iload_n C.1 C.2.1 dX11_craft_32 rfl h1 ?_
        refine lv_iadd C.1 C.2.1 dX11_craft_33 ?_
        refine lv_bipush (v := 32) C.1 C.2.1 dX11_craft_34 (by decide) ?_
        refine lv_icmp_le (tgt := 42) C.1 C.2.1 dX11_craft_36 (by decide) (fun hc7 => ?_) (fun hc7 => ?_)
        · have hw := hw.1 hc7
          refine m_aldN C dX11_craft_42 rfl h0 ?_
          refine m_getR C hW rfl hk3 f_X11_35 rfl dX11_craft_43 ?_
          obtain ⟨b8, ho8, hw⟩ := hw
          obtain ⟨hk9, hw⟩ := hw
          refine m_rI (m_runV (As := []) (rest := []) C hW hS hL (c_X8_empty hw) v_X11_46 ⟨rfl, rfl⟩ ⟨Nat.le_of_ble_eq_true rfl, Nat.le_of_ble_eq_true rfl⟩ ho8 hk9 rfl rfl (Nat.le_of_ble_eq_true rfl) dX11_craft_46 ⟨Nat.le_of_ble_eq_true rfl, Nat.le_of_ble_eq_true rfl⟩) hS (fun r11 S10 H locs hw hW hS => ?_)
          refine lv_pop C.1 C.2.1 dX11_craft_49 (rfl) ?_
          refine m_aldN C dX11_craft_50 rfl h0 ?_
          obtain ⟨hk12, hw⟩ := hw
          refine m_getR C hW rfl hk12 f_X11_10 rfl dX11_craft_51 ?_
          refine lv_iload_n C.1 C.2.1 dX11_craft_54 rfl h1 ?_
          obtain ⟨b13, ho13, hw⟩ := hw
          obtain ⟨hk14, hw⟩ := hw
          refine m_rI (m_runV (As := [.int a1]) (rest := []) C hW hS hL (c_X9_addCraft hw) v_X11_50 ⟨rfl, rfl⟩ ⟨Nat.le_of_ble_eq_true rfl, Nat.le_of_ble_eq_true rfl⟩ ho13 hk14 rfl rfl (Nat.le_of_ble_eq_true rfl) dX11_craft_55 ⟨Nat.le_of_ble_eq_true rfl, Nat.le_of_ble_eq_true rfl⟩) hS (fun r16 S15 H locs hw hW hS => ?_)
          exact m_iret C hW hS hw dX11_craft_58
        · have hw := hw.2 hc7
          refine lv_bipush (v := (-8)) C.1 C.2.1 dX11_craft_39 (by decide) ?_
          refine W.widen (k := 1) (n := 4) (by decide) (by decide) ?_
          exact m_iret C hW hS hw dX11_craft_41
    · have hw := hw.2 hc2
      refine lv_bipush (v := (-2)) C.1 C.2.1 dX11_craft_10 (by decide) ?_
      refine W.widen (k := 1) (n := 4) (by decide) (by decide) ?_
      exact m_iret C hW hS hw dX11_craft_12
def wp_X11_machine (S : Hp) (a0 : Nat) (Q : Int32 → Hp → Prop) : Prop := hK S a0 = 13 ∧ ∃ b2 : Nat, (hR S a0 0) = some b2 ∧ hK S b2 = 11 ∧ ((hI S b2 3) < 40 → ∃ b5 : Nat, (hR S a0 3) = some b5 ∧ hK S b5 = 10 ∧ wp_X8_empty S b5 (fun r8 S7 => hK S7 a0 = 13 ∧ ∃ b10 : Nat, (hR S7 a0 0) = some b10 ∧ hK S7 b10 = 11 ∧ wp_X9_addMachine S7 b10 (fun r13 S12 => Q r13 S12))) ∧ (¬ ((hI S b2 3) < 40) → Q (-8) S)
set_option maxRecDepth 100000 in
set_option maxHeartbeats 4000000 in
theorem c_X11_machine {l : Launch} {G : GX} {S : Hp} {a0 : Nat} {Q : Int32 → Hp → Prop} (hw : wp_X11_machine S a0 Q) : Met l yX11_machine (Cond.code yX11_machine cX11_machine 1 (some .int) :: TS) { frames := 4, cells := 0, slots := 0, locals := 83 } (Pk G S [va_rf (some a0)]) (QI G Q) 0 0 G.2.2.1 := by
  refine m_met (by decide) ?_
  intro p e s m below meth c H locs C hW hS
  have C : Cx p s m ([va_rf (some a0)] : List Value).toArray meth c cX11_machine 1 RX11 (some .int) "machine" G := C
  obtain ⟨ls, hent, hL, hla⟩ := m_entry m (vs := [va_rf (some a0)]) (nn := 1) [1] rfl (by decide)
  rw [hent]
  have h0 : ls[0]? = some (.val (va_rf (some a0))) := hla (0, va_rf (some a0)) (List.mem_of_getElem? (i := 0) rfl)
  clear hla
  generalize ([va_rf (some a0)] : List Value).toArray = args at C ⊢
  unfold wp_X11_machine at hw
  refine m_aldN C dX11_machine_0 rfl h0 ?_
  obtain ⟨hk1, hw⟩ := hw
  refine m_getR C hW rfl hk1 f_X11_10 rfl dX11_machine_1 ?_
  obtain ⟨b2, ho2, hw⟩ := hw
  obtain ⟨hk3, hw⟩ := hw
  refine m_getI C hW ho2 hk3 f_X11_54 rfl dX11_machine_4 ?_
  refine lv_bipush (v := 40) C.1 C.2.1 dX11_machine_7 (by decide) ?_
  refine lv_icmp_lt (tgt := 15) C.1 C.2.1 dX11_machine_9 (by decide) (fun hc4 => ?_) (fun hc4 => ?_)
  · have hw := hw.1 hc4
    refine m_aldN C dX11_machine_15 rfl h0 ?_
    refine m_getR C hW rfl hk1 f_X11_35 rfl dX11_machine_16 ?_
    obtain ⟨b5, ho5, hw⟩ := hw
    obtain ⟨hk6, hw⟩ := hw
    refine m_rI (m_runV (As := []) (rest := []) C hW hS hL (c_X8_empty hw) v_X11_46 ⟨rfl, rfl⟩ ⟨Nat.le_of_ble_eq_true rfl, Nat.le_of_ble_eq_true rfl⟩ ho5 hk6 rfl rfl (Nat.le_of_ble_eq_true rfl) dX11_machine_19 ⟨Nat.le_of_ble_eq_true rfl, Nat.le_of_ble_eq_true rfl⟩) hS (fun r8 S7 H locs hw hW hS => ?_)
    refine lv_pop C.1 C.2.1 dX11_machine_22 (rfl) ?_
    refine m_aldN C dX11_machine_23 rfl h0 ?_
    obtain ⟨hk9, hw⟩ := hw
    refine m_getR C hW rfl hk9 f_X11_10 rfl dX11_machine_24 ?_
    obtain ⟨b10, ho10, hw⟩ := hw
    obtain ⟨hk11, hw⟩ := hw
    refine m_rI (m_runV (As := []) (rest := []) C hW hS hL (c_X9_addMachine hw) v_X11_57 ⟨rfl, rfl⟩ ⟨Nat.le_of_ble_eq_true rfl, Nat.le_of_ble_eq_true rfl⟩ ho10 hk11 rfl rfl (Nat.le_of_ble_eq_true rfl) dX11_machine_27 ⟨Nat.le_of_ble_eq_true rfl, Nat.le_of_ble_eq_true rfl⟩) hS (fun r13 S12 H locs hw hW hS => ?_)
    exact m_iret C hW hS hw dX11_machine_30
  · have hw := hw.2 hc4
    refine lv_bipush (v := (-8)) C.1 C.2.1 dX11_machine_12 (by decide) ?_
    exact m_iret C hW hS hw dX11_machine_14
def wp_X11_stock (S : Hp) (a0 : Nat) (a1 : Int32) (a2 : Int32) (Q : Int32 → Hp → Prop) : Prop := hK S a0 = 13 ∧ ∃ b2 : Nat, (hR S a0 0) = some b2 ∧ hK S b2 = 11 ∧ wp_X9_hasStock S b2 a1 (fun r5 S4 => (r5 = 0 → Q (-1) S4) ∧ (¬ (r5 = 0) → (a2 < 0 → Q (-2) S4) ∧ (¬ (a2 < 0) → (a2 ≤ 1000000 → hK S4 a0 = 13 ∧ ∃ b10 : Nat, (hR S4 a0 0) = some b10 ∧ hK S4 b10 = 11 ∧ ∃ b12 : Nat, (hR S4 b10 4) = some b12 ∧ hK S4 b12 = 16 ∧ vp_in a1 (hN S4 b12) ∧ (((hJ S4 b12 (a1 : Int32).toNatClampNeg) + ((a2 : Int32).toInt64)) ≤ 1000000000 → ∃ b16 : Nat, (hR S4 a0 3) = some b16 ∧ hK S4 b16 = 10 ∧ wp_X8_empty S4 b16 (fun r19 S18 => hK S18 a0 = 13 ∧ ∃ b21 : Nat, (hR S18 a0 0) = some b21 ∧ hK S18 b21 = 11 ∧ ∃ b23 : Nat, (hR S18 b21 4) = some b23 ∧ hK S18 b23 = 16 ∧ vp_in a1 (hN S18 b23) ∧ vp_in a1 (hN S18 b23) ∧ Q 0 (sJ S18 b23 (a1 : Int32).toNatClampNeg ((hJ S18 b23 (a1 : Int32).toNatClampNeg) + ((a2 : Int32).toInt64))))) ∧ (¬ (((hJ S4 b12 (a1 : Int32).toNatClampNeg) + ((a2 : Int32).toInt64)) ≤ 1000000000) → Q (-8) S4)) ∧ (¬ (a2 ≤ 1000000) → Q (-2) S4))))
set_option maxRecDepth 100000 in
set_option maxHeartbeats 4000000 in
theorem c_X11_stock {l : Launch} {G : GX} {S : Hp} {a0 : Nat} {a1 : Int32} {a2 : Int32} {Q : Int32 → Hp → Prop} (hw : wp_X11_stock S a0 a1 a2 Q) : Met l yX11_stock (Cond.code yX11_stock cX11_stock 3 (some .int) :: TS) { frames := 4, cells := 0, slots := 0, locals := 83 } (Pk G S [va_rf (some a0), .int a1, .int a2]) (QI G Q) 0 0 G.2.2.1 := by
  refine m_met (by decide) ?_
  intro p e s m below meth c H locs C hW hS
  have C : Cx p s m ([va_rf (some a0), .int a1, .int a2] : List Value).toArray meth c cX11_stock 3 RX11 (some .int) "stock" G := C
  obtain ⟨ls, hent, hL, hla⟩ := m_entry m (vs := [va_rf (some a0), .int a1, .int a2]) (nn := 3) [1, 1, 1] rfl (by decide)
  rw [hent]
  have h0 : ls[0]? = some (.val (va_rf (some a0))) := hla (0, va_rf (some a0)) (List.mem_of_getElem? (i := 0) rfl)
  have h1 : ls[1]? = some (.val (.int a1)) := hla (1, .int a1) (List.mem_of_getElem? (i := 1) rfl)
  have h2 : ls[2]? = some (.val (.int a2)) := hla (2, .int a2) (List.mem_of_getElem? (i := 2) rfl)
  clear hla
  generalize ([va_rf (some a0), .int a1, .int a2] : List Value).toArray = args at C ⊢
  unfold wp_X11_stock at hw
  refine m_aldN C dX11_stock_0 rfl h0 ?_
  obtain ⟨hk1, hw⟩ := hw
  refine m_getR C hW rfl hk1 f_X11_10 rfl dX11_stock_1 ?_
  refine lv_iload_n C.1 C.2.1 dX11_stock_4 rfl h1 ?_
  obtain ⟨b2, ho2, hw⟩ := hw
  obtain ⟨hk3, hw⟩ := hw
  refine m_rI (m_runV (As := [.int a1]) (rest := []) C hW hS hL (c_X9_hasStock hw) v_X11_61 ⟨rfl, rfl⟩ ⟨Nat.le_of_ble_eq_true rfl, Nat.le_of_ble_eq_true rfl⟩ ho2 hk3 rfl rfl (Nat.le_of_ble_eq_true rfl) dX11_stock_5 ⟨Nat.le_of_ble_eq_true rfl, Nat.le_of_ble_eq_true rfl⟩) hS (fun r5 S4 H locs hw hW hS => ?_)
  refine lv_if_ne (tgt := 13) C.1 C.2.1 dX11_stock_8 (by decide) (fun hc6 => ?_) (fun hc6 => ?_)
  · have hw := hw.2 hc6
    refine lv_iload_n C.1 C.2.1 dX11_stock_13 rfl h2 ?_
    refine lv_if_lt (tgt := 23) C.1 C.2.1 dX11_stock_14 (by decide) (fun hc7 => ?_) (fun hc7 => ?_)
    · have hw := hw.1 hc7
      refine lv_bipush (v := (-2)) C.1 C.2.1 dX11_stock_23 (by decide) ?_
      exact m_iret C hW hS hw dX11_stock_25
    · have hw := hw.2 hc7
      refine lv_iload_n C.1 C.2.1 dX11_stock_17 rfl h2 ?_
      refine lv_ldc (v := 1000000) C.1 C.2.1 C.2.2.2.1 (C.2.2.2.2.1 _ tw_313) dX11_stock_18 ?_
      refine lv_icmp_le (tgt := 26) C.1 C.2.1 dX11_stock_20 (by decide) (fun hc8 => ?_) (fun hc8 => ?_)
      · have hw := hw.1 hc8
        refine m_aldN C dX11_stock_26 rfl h0 ?_
        obtain ⟨hk9, hw⟩ := hw
        refine m_getR C hW rfl hk9 f_X11_10 rfl dX11_stock_27 ?_
        obtain ⟨b10, ho10, hw⟩ := hw
        obtain ⟨hk11, hw⟩ := hw
        refine m_getR C hW ho10 hk11 f_X11_66 rfl dX11_stock_30 ?_
        refine lv_iload_n C.1 C.2.1 dX11_stock_33 rfl h1 ?_
        obtain ⟨b12, ho12, hw⟩ := hw
        obtain ⟨hk13, hw⟩ := hw
        obtain ⟨hi14, hw⟩ := hw
        refine m_lald C hW ho12 hk13 hi14 dX11_stock_34 ?_
        refine lv_iload_n C.1 C.2.1 dX11_stock_35 rfl h2 ?_
        refine lv_i2l (v := ((a2 : Int32).toInt64)) C.1 C.2.1 dX11_stock_36 rfl ?_
        refine lv_ladd C.1 C.2.1 dX11_stock_37 ?_
        refine lv_ldc2 (v := 1000000000) C.1 C.2.1 C.2.2.2.1 (C.2.2.2.2.1 _ tw_314) dX11_stock_38 ?_
        refine W.lcmp C.1 C.2.1 dX11_stock_41 ?_
        refine lv_if_le (tgt := 48) C.1 C.2.1 dX11_stock_42 (by decide) (fun hc15 => ?_) (fun hc15 => ?_)
        · have hw := hw.1 ((q_le _ _).mp hc15)
          refine m_aldN C dX11_stock_48 rfl h0 ?_
          refine m_getR C hW rfl hk9 f_X11_35 rfl dX11_stock_49 ?_
          obtain ⟨b16, ho16, hw⟩ := hw
          obtain ⟨hk17, hw⟩ := hw
          refine m_rI (m_runV (As := []) (rest := []) C hW hS hL (c_X8_empty hw) v_X11_46 ⟨rfl, rfl⟩ ⟨Nat.le_of_ble_eq_true rfl, Nat.le_of_ble_eq_true rfl⟩ ho16 hk17 rfl rfl (Nat.le_of_ble_eq_true rfl) dX11_stock_52 ⟨Nat.le_of_ble_eq_true rfl, Nat.le_of_ble_eq_true rfl⟩) hS (fun r19 S18 H locs hw hW hS => ?_)
          refine lv_pop C.1 C.2.1 dX11_stock_55 (rfl) ?_
          refine m_aldN C dX11_stock_56 rfl h0 ?_
          obtain ⟨hk20, hw⟩ := hw
          refine m_getR C hW rfl hk20 f_X11_10 rfl dX11_stock_57 ?_
          obtain ⟨b21, ho21, hw⟩ := hw
          obtain ⟨hk22, hw⟩ := hw
          refine m_getR C hW ho21 hk22 f_X11_66 rfl dX11_stock_60 ?_
          refine lv_iload_n C.1 C.2.1 dX11_stock_63 rfl h1 ?_
          refine lv_dup2_11 C.1 C.2.1 dX11_stock_64 (rfl) (va_rf_cat _) ?_
          obtain ⟨b23, ho23, hw⟩ := hw
          obtain ⟨hk24, hw⟩ := hw
          obtain ⟨hi25, hw⟩ := hw
          refine m_lald C hW ho23 hk24 hi25 dX11_stock_65 ?_
          refine lv_iload_n C.1 C.2.1 dX11_stock_66 rfl h2 ?_
          refine lv_i2l (v := ((a2 : Int32).toInt64)) C.1 C.2.1 dX11_stock_67 rfl ?_
          refine lv_ladd C.1 C.2.1 dX11_stock_68 ?_
          obtain ⟨hi26, hw⟩ := hw
          refine m_last C hW hS ho23 hk24 hi26 dX11_stock_69 (fun H locs hW hS => ?_)
          refine lv_iconst (v := 0) C.1 C.2.1 dX11_stock_70 (by decide) ?_
          exact m_iret C hW hS hw dX11_stock_71
        · have hw := hw.2 (fun z => hc15 ((q_le _ _).mpr z))
          refine lv_bipush (v := (-8)) C.1 C.2.1 dX11_stock_45 (by decide) ?_
          exact m_iret C hW hS hw dX11_stock_47
      · have hw := hw.2 hc8
        refine lv_bipush (v := (-2)) C.1 C.2.1 dX11_stock_23 (by decide) ?_
        exact m_iret C hW hS hw dX11_stock_25
  · have hw := hw.1 hc6
    refine lv_iconst (v := (-1)) C.1 C.2.1 dX11_stock_11 (by decide) ?_
    exact m_iret C hW hS hw dX11_stock_12
def wp_X11_job (S : Hp) (a0 : Nat) (a1 : Int32) (a2 : Int32) (a3 : Int32) (Q : Int32 → Hp → Prop) : Prop := hK S a0 = 13 ∧ ∃ b2 : Nat, (hR S a0 0) = some b2 ∧ hK S b2 = 11 ∧ wp_X9_hasCraft S b2 a1 (fun r5 S4 => (r5 = 0 → Q (-1) S4) ∧ (¬ (r5 = 0) → (a2 < 1 → Q (-2) S4) ∧ (¬ (a2 < 1) → (10000 < a2 → Q (-2) S4) ∧ (¬ (10000 < a2) → (a3 < 0 → Q (-2) S4) ∧ (¬ (a3 < 0) → (a3 ≤ 1000 → hK S4 a0 = 13 ∧ ∃ b12 : Nat, (hR S4 a0 0) = some b12 ∧ hK S4 b12 = 11 ∧ ((hI S4 b12 7) < 200 → ∃ b15 : Nat, (hR S4 a0 3) = some b15 ∧ hK S4 b15 = 10 ∧ wp_X8_empty S4 b15 (fun r18 S17 => hK S17 a0 = 13 ∧ ∃ b20 : Nat, (hR S17 a0 1) = some b20 ∧ hK S17 b20 = 8 ∧ ∃ b22 : Nat, (hR (sI S17 b20 7 0) a0 0) = some b22 ∧ hK (sI S17 b20 7 0) b22 = 11 ∧ ∃ b24 : Nat, (hR (sI S17 b20 7 0) b22 0) = some b24 ∧ hK (sI S17 b20 7 0) b24 = 18 ∧ vp_in a1 (hN (sI S17 b20 7 0) b24) ∧ wp_X9_addJob (sI S17 b20 7 0) b22 (hR (sI S17 b20 7 0) b24 (a1 : Int32).toNatClampNeg) a2 a3 (fun r28 S27 => Q r28 S27))) ∧ (¬ ((hI S4 b12 7) < 200) → Q (-8) S4)) ∧ (¬ (a3 ≤ 1000) → Q (-2) S4))))))
set_option maxRecDepth 100000 in
set_option maxHeartbeats 4000000 in
theorem c_X11_job {l : Launch} {G : GX} {S : Hp} {a0 : Nat} {a1 : Int32} {a2 : Int32} {a3 : Int32} {Q : Int32 → Hp → Prop} (hw : wp_X11_job S a0 a1 a2 a3 Q) : Met l yX11_job (Cond.code yX11_job cX11_job 4 (some .int) :: TS) { frames := 6, cells := 14, slots := 316, locals := 129 } (Pk G S [va_rf (some a0), .int a1, .int a2, .int a3]) (QI G Q) 14 316 G.2.2.1 := by
  refine m_met (by decide) ?_
  intro p e s m below meth c H locs C hW hS
  have C : Cx p s m ([va_rf (some a0), .int a1, .int a2, .int a3] : List Value).toArray meth c cX11_job 4 RX11 (some .int) "job" G := C
  obtain ⟨ls, hent, hL, hla⟩ := m_entry m (vs := [va_rf (some a0), .int a1, .int a2, .int a3]) (nn := 4) [1, 1, 1, 1] rfl (by decide)
  rw [hent]
  have h0 : ls[0]? = some (.val (va_rf (some a0))) := hla (0, va_rf (some a0)) (List.mem_of_getElem? (i := 0) rfl)
  have h1 : ls[1]? = some (.val (.int a1)) := hla (1, .int a1) (List.mem_of_getElem? (i := 1) rfl)
  have h2 : ls[2]? = some (.val (.int a2)) := hla (2, .int a2) (List.mem_of_getElem? (i := 2) rfl)
  have h3 : ls[3]? = some (.val (.int a3)) := hla (3, .int a3) (List.mem_of_getElem? (i := 3) rfl)
  clear hla
  generalize ([va_rf (some a0), .int a1, .int a2, .int a3] : List Value).toArray = args at C ⊢
  unfold wp_X11_job at hw
  refine m_aldN C dX11_job_0 rfl h0 ?_
  obtain ⟨hk1, hw⟩ := hw
  refine m_getR C hW rfl hk1 f_X11_10 rfl dX11_job_1 ?_
  refine lv_iload_n C.1 C.2.1 dX11_job_4 rfl h1 ?_
  obtain ⟨b2, ho2, hw⟩ := hw
  obtain ⟨hk3, hw⟩ := hw
  refine m_rI (m_runV (As := [.int a1]) (rest := []) C hW hS hL (c_X9_hasCraft hw) v_X11_72 ⟨rfl, rfl⟩ ⟨Nat.le_of_ble_eq_true rfl, Nat.le_of_ble_eq_true rfl⟩ ho2 hk3 rfl rfl (Nat.le_of_ble_eq_true rfl) dX11_job_5 ⟨Nat.le_of_ble_eq_true rfl, Nat.le_of_ble_eq_true rfl⟩) hS (fun r5 S4 H locs hw hW hS => ?_)
  refine lv_if_ne (tgt := 13) C.1 C.2.1 dX11_job_8 (by decide) (fun hc6 => ?_) (fun hc6 => ?_)
  · have hw := hw.2 hc6
    refine lv_iload_n C.1 C.2.1 dX11_job_13 rfl h2 ?_
    refine lv_iconst (v := 1) C.1 C.2.1 dX11_job_14 (by decide) ?_
    refine lv_icmp_lt (tgt := 36) C.1 C.2.1 dX11_job_15 (by decide) (fun hc7 => ?_) (fun hc7 => ?_)
    · have hw := hw.1 hc7
      refine lv_bipush (v := (-2)) C.1 C.2.1 dX11_job_36 (by decide) ?_
      refine W.widen (k := 14) (n := 316) (by decide) (by decide) ?_
      exact m_iret C hW hS hw dX11_job_38
    · have hw := hw.2 hc7
      refine lv_iload_n C.1 C.2.1 dX11_job_18 rfl h2 ?_
      refine lv_sipush (v := 10000) C.1 C.2.1 dX11_job_19 (by decide) ?_
      refine lv_icmp_gt (tgt := 36) C.1 C.2.1 dX11_job_22 (by decide) (fun hc8 => ?_) (fun hc8 => ?_)
      · have hw := hw.1 hc8
        refine lv_bipush (v := (-2)) C.1 C.2.1 dX11_job_36 (by decide) ?_
        refine W.widen (k := 14) (n := 316) (by decide) (by decide) ?_
        exact m_iret C hW hS hw dX11_job_38
      · have hw := hw.2 hc8
        refine lv_iload_n C.1 C.2.1 dX11_job_25 rfl h3 ?_
        refine lv_if_lt (tgt := 36) C.1 C.2.1 dX11_job_26 (by decide) (fun hc9 => ?_) (fun hc9 => ?_)
        · have hw := hw.1 hc9
          refine lv_bipush (v := (-2)) C.1 C.2.1 dX11_job_36 (by decide) ?_
          refine W.widen (k := 14) (n := 316) (by decide) (by decide) ?_
          exact m_iret C hW hS hw dX11_job_38
        · have hw := hw.2 hc9
          refine lv_iload_n C.1 C.2.1 dX11_job_29 rfl h3 ?_
          refine lv_sipush (v := 1000) C.1 C.2.1 dX11_job_30 (by decide) ?_
          refine lv_icmp_le (tgt := 39) C.1 C.2.1 dX11_job_33 (by decide) (fun hc10 => ?_) (fun hc10 => ?_)
          · have hw := hw.1 hc10
            refine m_aldN C dX11_job_39 rfl h0 ?_
            obtain ⟨hk11, hw⟩ := hw
            refine m_getR C hW rfl hk11 f_X11_10 rfl dX11_job_40 ?_
            obtain ⟨b12, ho12, hw⟩ := hw
            obtain ⟨hk13, hw⟩ := hw
            refine m_getI C hW ho12 hk13 f_X11_75 rfl dX11_job_43 ?_
            refine lv_sipush (v := 200) C.1 C.2.1 dX11_job_46 (by decide) ?_
            refine lv_icmp_lt (tgt := 55) C.1 C.2.1 dX11_job_49 (by decide) (fun hc14 => ?_) (fun hc14 => ?_)
            · have hw := hw.1 hc14
              refine m_aldN C dX11_job_55 rfl h0 ?_
              refine m_getR C hW rfl hk11 f_X11_35 rfl dX11_job_56 ?_
              obtain ⟨b15, ho15, hw⟩ := hw
              obtain ⟨hk16, hw⟩ := hw
              refine m_rI (m_runV (As := []) (rest := []) C hW hS hL (c_X8_empty hw) v_X11_46 ⟨rfl, rfl⟩ ⟨Nat.le_of_ble_eq_true rfl, Nat.le_of_ble_eq_true rfl⟩ ho15 hk16 rfl rfl (Nat.le_of_ble_eq_true rfl) dX11_job_59 ⟨Nat.le_of_ble_eq_true rfl, Nat.le_of_ble_eq_true rfl⟩) hS (fun r18 S17 H locs hw hW hS => ?_)
              refine lv_pop C.1 C.2.1 dX11_job_62 (rfl) ?_
              refine m_aldN C dX11_job_63 rfl h0 ?_
              obtain ⟨hk19, hw⟩ := hw
              refine m_getR C hW rfl hk19 f_X11_21 rfl dX11_job_64 ?_
              refine lv_iconst (v := 0) C.1 C.2.1 dX11_job_67 (by decide) ?_
              obtain ⟨b20, ho20, hw⟩ := hw
              obtain ⟨hk21, hw⟩ := hw
              refine m_putZ C hW hS ho20 hk21 p_X11_78 (fun z => by cases z) (by decide) rfl dX11_job_68 (fun H locs hW hS => ?_)
              refine m_aldN C dX11_job_71 rfl h0 ?_
              refine m_getR C hW rfl hk19 f_X11_10 rfl dX11_job_72 ?_
              refine m_aldN C dX11_job_75 rfl h0 ?_
              refine m_getR C hW rfl hk19 f_X11_10 rfl dX11_job_76 ?_
              obtain ⟨b22, ho22, hw⟩ := hw
              obtain ⟨hk23, hw⟩ := hw
              refine m_getR C hW ho22 hk23 f_X11_82 rfl dX11_job_79 ?_
              refine lv_iload_n C.1 C.2.1 dX11_job_82 rfl h1 ?_
              obtain ⟨b24, ho24, hw⟩ := hw
              obtain ⟨hk25, hw⟩ := hw
              obtain ⟨hi26, hw⟩ := hw
              refine m_aald C hW ho24 hk25 (by decide) (by decide) hi26 dX11_job_83 ?_
              refine lv_iload_n C.1 C.2.1 dX11_job_84 rfl h2 ?_
              refine lv_iload_n C.1 C.2.1 dX11_job_85 rfl h3 ?_
              refine m_rI (m_runV (As := [va_rf (hR (sI S17 b20 7 0) b24 (a1 : Int32).toNatClampNeg), .int a2, .int a3]) (rest := []) C hW hS hL (c_X9_addJob hw) v_X11_86 ⟨rfl, rfl⟩ ⟨Nat.le_of_ble_eq_true rfl, Nat.le_of_ble_eq_true rfl⟩ ho22 hk23 rfl rfl (Nat.le_of_ble_eq_true rfl) dX11_job_86 ⟨Nat.le_of_ble_eq_true rfl, Nat.le_of_ble_eq_true rfl⟩) hS (fun r28 S27 H locs hw hW hS => ?_)
              exact m_iret C hW hS hw dX11_job_89
            · have hw := hw.2 hc14
              refine lv_bipush (v := (-8)) C.1 C.2.1 dX11_job_52 (by decide) ?_
              refine W.widen (k := 14) (n := 316) (by decide) (by decide) ?_
              exact m_iret C hW hS hw dX11_job_54
          · have hw := hw.2 hc10
            refine lv_bipush (v := (-2)) C.1 C.2.1 dX11_job_36 (by decide) ?_
            refine W.widen (k := 14) (n := 316) (by decide) (by decide) ?_
            exact m_iret C hW hS hw dX11_job_38
  · have hw := hw.1 hc6
    refine lv_iconst (v := (-1)) C.1 C.2.1 dX11_job_11 (by decide) ?_
    refine W.widen (k := 14) (n := 316) (by decide) (by decide) ?_
    exact m_iret C hW hS hw dX11_job_12
