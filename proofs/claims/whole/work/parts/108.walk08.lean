def wp_X12_swaps (S : Hp) (a0 : Nat) (a1 : Int32) (a2 : Int32) (Q : Hp → Prop) : Prop := hK S a0 = 14 ∧ ∃ b2 : Nat, (hR S a0 36) = some b2 ∧ hK S b2 = 15 ∧ vp_in a1 (hN S b2) ∧ ∀ x5 : Int32, x5 = (hI S b2 (a1 : Int32).toNatClampNeg) → ∃ b6 : Nat, (hR S a0 37) = some b6 ∧ hK S b6 = 15 ∧ vp_in a1 (hN S b6) ∧ ∀ x9 : Int32, x9 = (hI S b6 (a1 : Int32).toNatClampNeg) → ∃ b10 : Nat, (hR S a0 38) = some b10 ∧ hK S b10 = 15 ∧ vp_in a1 (hN S b10) ∧ ∀ x13 : Int32, x13 = (hI S b10 (a1 : Int32).toNatClampNeg) → vp_in a2 (hN S b2) ∧ vp_in a1 (hN S b2) ∧ ∃ b16 : Nat, (hR (sI S b2 (a1 : Int32).toNatClampNeg (hI S b2 (a2 : Int32).toNatClampNeg)) a0 37) = some b16 ∧ hK (sI S b2 (a1 : Int32).toNatClampNeg (hI S b2 (a2 : Int32).toNatClampNeg)) b16 = 15 ∧ vp_in a2 (hN (sI S b2 (a1 : Int32).toNatClampNeg (hI S b2 (a2 : Int32).toNatClampNeg)) b16) ∧ vp_in a1 (hN (sI S b2 (a1 : Int32).toNatClampNeg (hI S b2 (a2 : Int32).toNatClampNeg)) b16) ∧ ∃ b20 : Nat, (hR (sI (sI S b2 (a1 : Int32).toNatClampNeg (hI S b2 (a2 : Int32).toNatClampNeg)) b16 (a1 : Int32).toNatClampNeg (hI (sI S b2 (a1 : Int32).toNatClampNeg (hI S b2 (a2 : Int32).toNatClampNeg)) b16 (a2 : Int32).toNatClampNeg)) a0 38) = some b20 ∧ hK (sI (sI S b2 (a1 : Int32).toNatClampNeg (hI S b2 (a2 : Int32).toNatClampNeg)) b16 (a1 : Int32).toNatClampNeg (hI (sI S b2 (a1 : Int32).toNatClampNeg (hI S b2 (a2 : Int32).toNatClampNeg)) b16 (a2 : Int32).toNatClampNeg)) b20 = 15 ∧ vp_in a2 (hN (sI (sI S b2 (a1 : Int32).toNatClampNeg (hI S b2 (a2 : Int32).toNatClampNeg)) b16 (a1 : Int32).toNatClampNeg (hI (sI S b2 (a1 : Int32).toNatClampNeg (hI S b2 (a2 : Int32).toNatClampNeg)) b16 (a2 : Int32).toNatClampNeg)) b20) ∧ vp_in a1 (hN (sI (sI S b2 (a1 : Int32).toNatClampNeg (hI S b2 (a2 : Int32).toNatClampNeg)) b16 (a1 : Int32).toNatClampNeg (hI (sI S b2 (a1 : Int32).toNatClampNeg (hI S b2 (a2 : Int32).toNatClampNeg)) b16 (a2 : Int32).toNatClampNeg)) b20) ∧ ∃ b24 : Nat, (hR (sI (sI (sI S b2 (a1 : Int32).toNatClampNeg (hI S b2 (a2 : Int32).toNatClampNeg)) b16 (a1 : Int32).toNatClampNeg (hI (sI S b2 (a1 : Int32).toNatClampNeg (hI S b2 (a2 : Int32).toNatClampNeg)) b16 (a2 : Int32).toNatClampNeg)) b20 (a1 : Int32).toNatClampNeg (hI (sI (sI S b2 (a1 : Int32).toNatClampNeg (hI S b2 (a2 : Int32).toNatClampNeg)) b16 (a1 : Int32).toNatClampNeg (hI (sI S b2 (a1 : Int32).toNatClampNeg (hI S b2 (a2 : Int32).toNatClampNeg)) b16 (a2 : Int32).toNatClampNeg)) b20 (a2 : Int32).toNatClampNeg)) a0 36) = some b24 ∧ hK (sI (sI (sI S b2 (a1 : Int32).toNatClampNeg (hI S b2 (a2 : Int32).toNatClampNeg)) b16 (a1 : Int32).toNatClampNeg (hI (sI S b2 (a1 : Int32).toNatClampNeg (hI S b2 (a2 : Int32).toNatClampNeg)) b16 (a2 : Int32).toNatClampNeg)) b20 (a1 : Int32).toNatClampNeg (hI (sI (sI S b2 (a1 : Int32).toNatClampNeg (hI S b2 (a2 : Int32).toNatClampNeg)) b16 (a1 : Int32).toNatClampNeg (hI (sI S b2 (a1 : Int32).toNatClampNeg (hI S b2 (a2 : Int32).toNatClampNeg)) b16 (a2 : Int32).toNatClampNeg)) b20 (a2 : Int32).toNatClampNeg)) b24 = 15 ∧ vp_in a2 (hN (sI (sI (sI S b2 (a1 : Int32).toNatClampNeg (hI S b2 (a2 : Int32).toNatClampNeg)) b16 (a1 : Int32).toNatClampNeg (hI (sI S b2 (a1 : Int32).toNatClampNeg (hI S b2 (a2 : Int32).toNatClampNeg)) b16 (a2 : Int32).toNatClampNeg)) b20 (a1 : Int32).toNatClampNeg (hI (sI (sI S b2 (a1 : Int32).toNatClampNeg (hI S b2 (a2 : Int32).toNatClampNeg)) b16 (a1 : Int32).toNatClampNeg (hI (sI S b2 (a1 : Int32).toNatClampNeg (hI S b2 (a2 : Int32).toNatClampNeg)) b16 (a2 : Int32).toNatClampNeg)) b20 (a2 : Int32).toNatClampNeg)) b24) ∧ ∃ b27 : Nat, (hR (sI (sI (sI (sI S b2 (a1 : Int32).toNatClampNeg (hI S b2 (a2 : Int32).toNatClampNeg)) b16 (a1 : Int32).toNatClampNeg (hI (sI S b2 (a1 : Int32).toNatClampNeg (hI S b2 (a2 : Int32).toNatClampNeg)) b16 (a2 : Int32).toNatClampNeg)) b20 (a1 : Int32).toNatClampNeg (hI (sI (sI S b2 (a1 : Int32).toNatClampNeg (hI S b2 (a2 : Int32).toNatClampNeg)) b16 (a1 : Int32).toNatClampNeg (hI (sI S b2 (a1 : Int32).toNatClampNeg (hI S b2 (a2 : Int32).toNatClampNeg)) b16 (a2 : Int32).toNatClampNeg)) b20 (a2 : Int32).toNatClampNeg)) b24 (a2 : Int32).toNatClampNeg x5) a0 37) = some b27 ∧ hK (sI (sI (sI (sI S b2 (a1 : Int32).toNatClampNeg (hI S b2 (a2 : Int32).toNatClampNeg)) b16 (a1 : Int32).toNatClampNeg (hI (sI S b2 (a1 : Int32).toNatClampNeg (hI S b2 (a2 : Int32).toNatClampNeg)) b16 (a2 : Int32).toNatClampNeg)) b20 (a1 : Int32).toNatClampNeg (hI (sI (sI S b2 (a1 : Int32).toNatClampNeg (hI S b2 (a2 : Int32).toNatClampNeg)) b16 (a1 : Int32).toNatClampNeg (hI (sI S b2 (a1 : Int32).toNatClampNeg (hI S b2 (a2 : Int32).toNatClampNeg)) b16 (a2 : Int32).toNatClampNeg)) b20 (a2 : Int32).toNatClampNeg)) b24 (a2 : Int32).toNatClampNeg x5) b27 = 15 ∧ vp_in a2 (hN (sI (sI (sI (sI S b2 (a1 : Int32).toNatClampNeg (hI S b2 (a2 : Int32).toNatClampNeg)) b16 (a1 : Int32).toNatClampNeg (hI (sI S b2 (a1 : Int32).toNatClampNeg (hI S b2 (a2 : Int32).toNatClampNeg)) b16 (a2 : Int32).toNatClampNeg)) b20 (a1 : Int32).toNatClampNeg (hI (sI (sI S b2 (a1 : Int32).toNatClampNeg (hI S b2 (a2 : Int32).toNatClampNeg)) b16 (a1 : Int32).toNatClampNeg (hI (sI S b2 (a1 : Int32).toNatClampNeg (hI S b2 (a2 : Int32).toNatClampNeg)) b16 (a2 : Int32).toNatClampNeg)) b20 (a2 : Int32).toNatClampNeg)) b24 (a2 : Int32).toNatClampNeg x5) b27) ∧ ∃ b30 : Nat, (hR (sI (sI (sI (sI (sI S b2 (a1 : Int32).toNatClampNeg (hI S b2 (a2 : Int32).toNatClampNeg)) b16 (a1 : Int32).toNatClampNeg (hI (sI S b2 (a1 : Int32).toNatClampNeg (hI S b2 (a2 : Int32).toNatClampNeg)) b16 (a2 : Int32).toNatClampNeg)) b20 (a1 : Int32).toNatClampNeg (hI (sI (sI S b2 (a1 : Int32).toNatClampNeg (hI S b2 (a2 : Int32).toNatClampNeg)) b16 (a1 : Int32).toNatClampNeg (hI (sI S b2 (a1 : Int32).toNatClampNeg (hI S b2 (a2 : Int32).toNatClampNeg)) b16 (a2 : Int32).toNatClampNeg)) b20 (a2 : Int32).toNatClampNeg)) b24 (a2 : Int32).toNatClampNeg x5) b27 (a2 : Int32).toNatClampNeg x9) a0 38) = some b30 ∧ hK (sI (sI (sI (sI (sI S b2 (a1 : Int32).toNatClampNeg (hI S b2 (a2 : Int32).toNatClampNeg)) b16 (a1 : Int32).toNatClampNeg (hI (sI S b2 (a1 : Int32).toNatClampNeg (hI S b2 (a2 : Int32).toNatClampNeg)) b16 (a2 : Int32).toNatClampNeg)) b20 (a1 : Int32).toNatClampNeg (hI (sI (sI S b2 (a1 : Int32).toNatClampNeg (hI S b2 (a2 : Int32).toNatClampNeg)) b16 (a1 : Int32).toNatClampNeg (hI (sI S b2 (a1 : Int32).toNatClampNeg (hI S b2 (a2 : Int32).toNatClampNeg)) b16 (a2 : Int32).toNatClampNeg)) b20 (a2 : Int32).toNatClampNeg)) b24 (a2 : Int32).toNatClampNeg x5) b27 (a2 : Int32).toNatClampNeg x9) b30 = 15 ∧ vp_in a2 (hN (sI (sI (sI (sI (sI S b2 (a1 : Int32).toNatClampNeg (hI S b2 (a2 : Int32).toNatClampNeg)) b16 (a1 : Int32).toNatClampNeg (hI (sI S b2 (a1 : Int32).toNatClampNeg (hI S b2 (a2 : Int32).toNatClampNeg)) b16 (a2 : Int32).toNatClampNeg)) b20 (a1 : Int32).toNatClampNeg (hI (sI (sI S b2 (a1 : Int32).toNatClampNeg (hI S b2 (a2 : Int32).toNatClampNeg)) b16 (a1 : Int32).toNatClampNeg (hI (sI S b2 (a1 : Int32).toNatClampNeg (hI S b2 (a2 : Int32).toNatClampNeg)) b16 (a2 : Int32).toNatClampNeg)) b20 (a2 : Int32).toNatClampNeg)) b24 (a2 : Int32).toNatClampNeg x5) b27 (a2 : Int32).toNatClampNeg x9) b30) ∧ Q (sI (sI (sI (sI (sI (sI S b2 (a1 : Int32).toNatClampNeg (hI S b2 (a2 : Int32).toNatClampNeg)) b16 (a1 : Int32).toNatClampNeg (hI (sI S b2 (a1 : Int32).toNatClampNeg (hI S b2 (a2 : Int32).toNatClampNeg)) b16 (a2 : Int32).toNatClampNeg)) b20 (a1 : Int32).toNatClampNeg (hI (sI (sI S b2 (a1 : Int32).toNatClampNeg (hI S b2 (a2 : Int32).toNatClampNeg)) b16 (a1 : Int32).toNatClampNeg (hI (sI S b2 (a1 : Int32).toNatClampNeg (hI S b2 (a2 : Int32).toNatClampNeg)) b16 (a2 : Int32).toNatClampNeg)) b20 (a2 : Int32).toNatClampNeg)) b24 (a2 : Int32).toNatClampNeg x5) b27 (a2 : Int32).toNatClampNeg x9) b30 (a2 : Int32).toNatClampNeg x13)
set_option maxRecDepth 100000 in
set_option maxHeartbeats 4000000 in
theorem c_X12_swaps {l : Launch} {G : GX} {S : Hp} {a0 : Nat} {a1 : Int32} {a2 : Int32} {Q : Hp → Prop} (hw : wp_X12_swaps S a0 a1 a2 Q) : Met l yX12_swaps (Cond.code yX12_swaps cX12_swaps 6 none :: TS) { frames := 0, cells := 0, slots := 0, locals := 0 } (Pk G S [va_rf (some a0), .int a1, .int a2]) (QV G Q) 0 0 G.2.2.1 := by
  refine m_met (by decide) ?_
  intro p e s m below meth c H locs C hW hS
  have C : Cx p s m ([va_rf (some a0), .int a1, .int a2] : List Value).toArray meth c cX12_swaps 6 RX12 none "swaps" G := C
  obtain ⟨ls, hent, hL, hla⟩ := m_entry m (vs := [va_rf (some a0), .int a1, .int a2]) (nn := 6) [1, 1, 1] rfl (by decide)
  rw [hent]
  have h0 : ls[0]? = some (.val (va_rf (some a0))) := hla (0, va_rf (some a0)) (List.mem_of_getElem? (i := 0) rfl)
  have h1 : ls[1]? = some (.val (.int a1)) := hla (1, .int a1) (List.mem_of_getElem? (i := 1) rfl)
  have h2 : ls[2]? = some (.val (.int a2)) := hla (2, .int a2) (List.mem_of_getElem? (i := 2) rfl)
  clear hla
  generalize ([va_rf (some a0), .int a1, .int a2] : List Value).toArray = args at C ⊢
  unfold wp_X12_swaps at hw
  refine m_aldN C dX12_swaps_0 rfl h0 ?_
  obtain ⟨hk1, hw⟩ := hw
  refine m_getR C hW rfl hk1 f_X12_94 rfl dX12_swaps_1 ?_
  refine lv_iload_n C.1 C.2.1 dX12_swaps_4 rfl h1 ?_
  obtain ⟨b2, ho2, hw⟩ := hw
  obtain ⟨hk3, hw⟩ := hw
  obtain ⟨hi4, hw⟩ := hw
  refine m_iald C hW ho2 hk3 hi4 dX12_swaps_5 ?_
  refine lv_topi (fun x5 ex5 => ?_)
  have hw := hw x5 ex5
  refine m_istN C hL dX12_swaps_6 rfl (by decide) (fun ls hL hn9 hk9 => ?_)
  have h0 := hk9 0 _ h0 (by decide) (Or.inl (by decide))
  have h1 := hk9 1 _ h1 (by decide) (Or.inl (by decide))
  have h2 := hk9 2 _ h2 (by decide) (Or.inr (rfl))
  have h3 := hn9
  refine m_aldN C dX12_swaps_7 rfl h0 ?_
  refine m_getR C hW rfl hk1 f_X12_97 rfl dX12_swaps_8 ?_
  refine lv_iload_n C.1 C.2.1 dX12_swaps_11 rfl h1 ?_
  obtain ⟨b6, ho6, hw⟩ := hw
  obtain ⟨hk7, hw⟩ := hw
  obtain ⟨hi8, hw⟩ := hw
  refine m_iald C hW ho6 hk7 hi8 dX12_swaps_12 ?_
  refine lv_topi (fun x9 ex9 => ?_)
  have hw := hw x9 ex9
  refine m_ist C hL dX12_swaps_13 (by decide) (fun ls hL hn9 hk9 => ?_)
  have h0 := hk9 0 _ h0 (by decide) (Or.inl (by decide))
  have h1 := hk9 1 _ h1 (by decide) (Or.inl (by decide))
  have h2 := hk9 2 _ h2 (by decide) (Or.inl (by decide))
  have h3 := hk9 3 _ h3 (by decide) (Or.inr (rfl))
  have h4 := hn9
  refine m_aldN C dX12_swaps_15 rfl h0 ?_
  refine m_getR C hW rfl hk1 f_X12_100 rfl dX12_swaps_16 ?_
  refine lv_iload_n C.1 C.2.1 dX12_swaps_19 rfl h1 ?_
  obtain ⟨b10, ho10, hw⟩ := hw
  obtain ⟨hk11, hw⟩ := hw
  obtain ⟨hi12, hw⟩ := hw
  refine m_iald C hW ho10 hk11 hi12 dX12_swaps_20 ?_
  refine lv_topi (fun x13 ex13 => ?_)
  have hw := hw x13 ex13
  refine m_ist C hL dX12_swaps_21 (by decide) (fun ls hL hn9 hk9 => ?_)
  have h0 := hk9 0 _ h0 (by decide) (Or.inl (by decide))
  have h1 := hk9 1 _ h1 (by decide) (Or.inl (by decide))
  have h2 := hk9 2 _ h2 (by decide) (Or.inl (by decide))
  have h3 := hk9 3 _ h3 (by decide) (Or.inl (by decide))
  have h4 := hk9 4 _ h4 (by decide) (Or.inr (rfl))
  have h5 := hn9
  refine m_aldN C dX12_swaps_23 rfl h0 ?_
  refine m_getR C hW rfl hk1 f_X12_94 rfl dX12_swaps_24 ?_
  refine lv_iload_n C.1 C.2.1 dX12_swaps_27 rfl h1 ?_
  refine m_aldN C dX12_swaps_28 rfl h0 ?_
  refine m_getR C hW rfl hk1 f_X12_94 rfl dX12_swaps_29 ?_
  refine lv_iload_n C.1 C.2.1 dX12_swaps_32 rfl h2 ?_
  obtain ⟨hi14, hw⟩ := hw
  refine m_iald C hW ho2 hk3 hi14 dX12_swaps_33 ?_
  obtain ⟨hi15, hw⟩ := hw
  refine m_iast C hW hS ho2 hk3 hi15 dX12_swaps_34 (fun H locs hW hS => ?_)
  refine m_aldN C dX12_swaps_35 rfl h0 ?_
  refine m_getR C hW rfl hk1 f_X12_97 rfl dX12_swaps_36 ?_
  refine lv_iload_n C.1 C.2.1 dX12_swaps_39 rfl h1 ?_
  refine m_aldN C dX12_swaps_40 rfl h0 ?_
  refine m_getR C hW rfl hk1 f_X12_97 rfl dX12_swaps_41 ?_
  refine lv_iload_n C.1 C.2.1 dX12_swaps_44 rfl h2 ?_
  obtain ⟨b16, ho16, hw⟩ := hw
  obtain ⟨hk17, hw⟩ := hw
  obtain ⟨hi18, hw⟩ := hw
  refine m_iald C hW ho16 hk17 hi18 dX12_swaps_45 ?_
  obtain ⟨hi19, hw⟩ := hw
  refine m_iast C hW hS ho16 hk17 hi19 dX12_swaps_46 (fun H locs hW hS => ?_)
  refine m_aldN C dX12_swaps_47 rfl h0 ?_
  refine m_getR C hW rfl hk1 f_X12_100 rfl dX12_swaps_48 ?_
  refine lv_iload_n C.1 C.2.1 dX12_swaps_51 rfl h1 ?_
  refine m_aldN C dX12_swaps_52 rfl h0 ?_
  refine m_getR C hW rfl hk1 f_X12_100 rfl dX12_swaps_53 ?_
  refine lv_iload_n C.1 C.2.1 dX12_swaps_56 rfl h2 ?_
  obtain ⟨b20, ho20, hw⟩ := hw
  obtain ⟨hk21, hw⟩ := hw
  obtain ⟨hi22, hw⟩ := hw
  refine m_iald C hW ho20 hk21 hi22 dX12_swaps_57 ?_
  obtain ⟨hi23, hw⟩ := hw
  refine m_iast C hW hS ho20 hk21 hi23 dX12_swaps_58 (fun H locs hW hS => ?_)
  refine m_aldN C dX12_swaps_59 rfl h0 ?_
  refine m_getR C hW rfl hk1 f_X12_94 rfl dX12_swaps_60 ?_
  refine lv_iload_n C.1 C.2.1 dX12_swaps_63 rfl h2 ?_
  refine lv_iload_n C.1 C.2.1 dX12_swaps_64 rfl h3 ?_
  obtain ⟨b24, ho24, hw⟩ := hw
  obtain ⟨hk25, hw⟩ := hw
  obtain ⟨hi26, hw⟩ := hw
  refine m_iast C hW hS ho24 hk25 hi26 dX12_swaps_65 (fun H locs hW hS => ?_)
  refine m_aldN C dX12_swaps_66 rfl h0 ?_
  refine m_getR C hW rfl hk1 f_X12_97 rfl dX12_swaps_67 ?_
  refine lv_iload_n C.1 C.2.1 dX12_swaps_70 rfl h2 ?_
  refine lv_iload C.1 C.2.1 dX12_swaps_71 h4 ?_
  obtain ⟨b27, ho27, hw⟩ := hw
  obtain ⟨hk28, hw⟩ := hw
  obtain ⟨hi29, hw⟩ := hw
  refine m_iast C hW hS ho27 hk28 hi29 dX12_swaps_73 (fun H locs hW hS => ?_)
  refine m_aldN C dX12_swaps_74 rfl h0 ?_
  refine m_getR C hW rfl hk1 f_X12_100 rfl dX12_swaps_75 ?_
  refine lv_iload_n C.1 C.2.1 dX12_swaps_78 rfl h2 ?_
  refine lv_iload C.1 C.2.1 dX12_swaps_79 h5 ?_
  obtain ⟨b30, ho30, hw⟩ := hw
  obtain ⟨hk31, hw⟩ := hw
  obtain ⟨hi32, hw⟩ := hw
  refine m_iast C hW hS ho30 hk31 hi32 dX12_swaps_81 (fun H locs hW hS => ?_)
  exact m_vret C hW hS hw dX12_swaps_82
def wp_X12_isAhead (S : Hp) (a0 : Nat) (a1 : Int32) (a2 : Int32) (Q : Int32 → Hp → Prop) : Prop := hK S a0 = 14 ∧ ∃ b2 : Nat, (hR S a0 36) = some b2 ∧ hK S b2 = 15 ∧ vp_in a1 (hN S b2) ∧ vp_in a2 (hN S b2) ∧ ((hI S b2 (a1 : Int32).toNatClampNeg) = (hI S b2 (a2 : Int32).toNatClampNeg) → ∃ b7 : Nat, (hR S a0 38) = some b7 ∧ hK S b7 = 15 ∧ vp_in a1 (hN S b7) ∧ vp_in a2 (hN S b7) ∧ ((hI S b7 (a1 : Int32).toNatClampNeg) = (hI S b7 (a2 : Int32).toNatClampNeg) → ∃ b12 : Nat, (hR S a0 37) = some b12 ∧ hK S b12 = 15 ∧ vp_in a1 (hN S b12) ∧ vp_in a2 (hN S b12) ∧ ((hI S b12 (a2 : Int32).toNatClampNeg) ≤ (hI S b12 (a1 : Int32).toNatClampNeg) → Q 0 S) ∧ (¬ ((hI S b12 (a2 : Int32).toNatClampNeg) ≤ (hI S b12 (a1 : Int32).toNatClampNeg)) → Q 1 S)) ∧ (¬ ((hI S b7 (a1 : Int32).toNatClampNeg) = (hI S b7 (a2 : Int32).toNatClampNeg)) → vp_in a1 (hN S b7) ∧ vp_in a2 (hN S b7) ∧ ((hI S b7 (a2 : Int32).toNatClampNeg) ≤ (hI S b7 (a1 : Int32).toNatClampNeg) → Q 0 S) ∧ (¬ ((hI S b7 (a2 : Int32).toNatClampNeg) ≤ (hI S b7 (a1 : Int32).toNatClampNeg)) → Q 1 S))) ∧ (¬ ((hI S b2 (a1 : Int32).toNatClampNeg) = (hI S b2 (a2 : Int32).toNatClampNeg)) → vp_in a1 (hN S b2) ∧ vp_in a2 (hN S b2) ∧ ((hI S b2 (a2 : Int32).toNatClampNeg) ≤ (hI S b2 (a1 : Int32).toNatClampNeg) → Q 0 S) ∧ (¬ ((hI S b2 (a2 : Int32).toNatClampNeg) ≤ (hI S b2 (a1 : Int32).toNatClampNeg)) → Q 1 S))
set_option maxRecDepth 100000 in
set_option maxHeartbeats 4000000 in
theorem c_X12_isAhead {l : Launch} {G : GX} {S : Hp} {a0 : Nat} {a1 : Int32} {a2 : Int32} {Q : Int32 → Hp → Prop} (hw : wp_X12_isAhead S a0 a1 a2 Q) : Met l yX12_isAhead (Cond.code yX12_isAhead cX12_isAhead 3 (some .boolean) :: TS) { frames := 0, cells := 0, slots := 0, locals := 0 } (Pk G S [va_rf (some a0), .int a1, .int a2]) (QI G Q) 0 0 G.2.2.1 := by
  refine m_met (by decide) ?_
  intro p e s m below meth c H locs C hW hS
  have C : Cx p s m ([va_rf (some a0), .int a1, .int a2] : List Value).toArray meth c cX12_isAhead 3 RX12 (some .boolean) "isAhead" G := C
  obtain ⟨ls, hent, hL, hla⟩ := m_entry m (vs := [va_rf (some a0), .int a1, .int a2]) (nn := 3) [1, 1, 1] rfl (by decide)
  rw [hent]
  have h0 : ls[0]? = some (.val (va_rf (some a0))) := hla (0, va_rf (some a0)) (List.mem_of_getElem? (i := 0) rfl)
  have h1 : ls[1]? = some (.val (.int a1)) := hla (1, .int a1) (List.mem_of_getElem? (i := 1) rfl)
  have h2 : ls[2]? = some (.val (.int a2)) := hla (2, .int a2) (List.mem_of_getElem? (i := 2) rfl)
  clear hla
  generalize ([va_rf (some a0), .int a1, .int a2] : List Value).toArray = args at C ⊢
  unfold wp_X12_isAhead at hw
  refine m_aldN C dX12_isAhead_0 rfl h0 ?_
  obtain ⟨hk1, hw⟩ := hw
  refine m_getR C hW rfl hk1 f_X12_94 rfl dX12_isAhead_1 ?_
  refine lv_iload_n C.1 C.2.1 dX12_isAhead_4 rfl h1 ?_
  obtain ⟨b2, ho2, hw⟩ := hw
  obtain ⟨hk3, hw⟩ := hw
  obtain ⟨hi4, hw⟩ := hw
  refine m_iald C hW ho2 hk3 hi4 dX12_isAhead_5 ?_
  refine m_aldN C dX12_isAhead_6 rfl h0 ?_
  refine m_getR C hW rfl hk1 f_X12_94 rfl dX12_isAhead_7 ?_
  refine lv_iload_n C.1 C.2.1 dX12_isAhead_10 rfl h2 ?_
  obtain ⟨hi5, hw⟩ := hw
  refine m_iald C hW ho2 hk3 hi5 dX12_isAhead_11 ?_
  refine lv_icmp_eq (tgt := 38) C.1 C.2.1 dX12_isAhead_12 (by decide) (fun hc6 => ?_) (fun hc6 => ?_)
  · have hw := hw.1 hc6
    refine m_aldN C dX12_isAhead_38 rfl h0 ?_
    refine m_getR C hW rfl hk1 f_X12_100 rfl dX12_isAhead_39 ?_
    refine lv_iload_n C.1 C.2.1 dX12_isAhead_42 rfl h1 ?_
    obtain ⟨b7, ho7, hw⟩ := hw
    obtain ⟨hk8, hw⟩ := hw
    obtain ⟨hi9, hw⟩ := hw
    refine m_iald C hW ho7 hk8 hi9 dX12_isAhead_43 ?_
    refine m_aldN C dX12_isAhead_44 rfl h0 ?_
    refine m_getR C hW rfl hk1 f_X12_100 rfl dX12_isAhead_45 ?_
    refine lv_iload_n C.1 C.2.1 dX12_isAhead_48 rfl h2 ?_
    obtain ⟨hi10, hw⟩ := hw
    refine m_iald C hW ho7 hk8 hi10 dX12_isAhead_49 ?_
    refine lv_icmp_eq (tgt := 76) C.1 C.2.1 dX12_isAhead_50 (by decide) (fun hc11 => ?_) (fun hc11 => ?_)
    · have hw := hw.1 hc11
      refine m_aldN C dX12_isAhead_76 rfl h0 ?_
      refine m_getR C hW rfl hk1 f_X12_97 rfl dX12_isAhead_77 ?_
      refine lv_iload_n C.1 C.2.1 dX12_isAhead_80 rfl h1 ?_
      obtain ⟨b12, ho12, hw⟩ := hw
      obtain ⟨hk13, hw⟩ := hw
      obtain ⟨hi14, hw⟩ := hw
      refine m_iald C hW ho12 hk13 hi14 dX12_isAhead_81 ?_
      refine m_aldN C dX12_isAhead_82 rfl h0 ?_
      refine m_getR C hW rfl hk1 f_X12_97 rfl dX12_isAhead_83 ?_
      refine lv_iload_n C.1 C.2.1 dX12_isAhead_86 rfl h2 ?_
      obtain ⟨hi15, hw⟩ := hw
      refine m_iald C hW ho12 hk13 hi15 dX12_isAhead_87 ?_
      refine lv_icmp_ge (tgt := 95) C.1 C.2.1 dX12_isAhead_88 (by decide) (fun hc16 => ?_) (fun hc16 => ?_)
      · have hw := hw.1 hc16
        refine lv_iconst (v := 0) C.1 C.2.1 dX12_isAhead_95 (by decide) ?_
        exact m_zret C hW hS (by decide) hw dX12_isAhead_96
      · have hw := hw.2 hc16
        refine lv_iconst (v := 1) C.1 C.2.1 dX12_isAhead_91 (by decide) ?_
        refine lv_goto (tgt := 96) C.1 C.2.1 dX12_isAhead_92 (by decide) ?_
        exact m_zret C hW hS (by decide) hw dX12_isAhead_96
    · have hw := hw.2 hc11
      refine m_aldN C dX12_isAhead_53 rfl h0 ?_
      refine m_getR C hW rfl hk1 f_X12_100 rfl dX12_isAhead_54 ?_
      refine lv_iload_n C.1 C.2.1 dX12_isAhead_57 rfl h1 ?_
      obtain ⟨hi17, hw⟩ := hw
      refine m_iald C hW ho7 hk8 hi17 dX12_isAhead_58 ?_
      refine m_aldN C dX12_isAhead_59 rfl h0 ?_
      refine m_getR C hW rfl hk1 f_X12_100 rfl dX12_isAhead_60 ?_
      refine lv_iload_n C.1 C.2.1 dX12_isAhead_63 rfl h2 ?_
      obtain ⟨hi18, hw⟩ := hw
      refine m_iald C hW ho7 hk8 hi18 dX12_isAhead_64 ?_
      refine lv_icmp_ge (tgt := 72) C.1 C.2.1 dX12_isAhead_65 (by decide) (fun hc19 => ?_) (fun hc19 => ?_)
      · have hw := hw.1 hc19
        refine lv_iconst (v := 0) C.1 C.2.1 dX12_isAhead_72 (by decide) ?_
        refine lv_goto (tgt := 96) C.1 C.2.1 dX12_isAhead_73 (by decide) ?_
        exact m_zret C hW hS (by decide) hw dX12_isAhead_96
      · have hw := hw.2 hc19
        refine lv_iconst (v := 1) C.1 C.2.1 dX12_isAhead_68 (by decide) ?_
        refine lv_goto (tgt := 96) C.1 C.2.1 dX12_isAhead_69 (by decide) ?_
        exact m_zret C hW hS (by decide) hw dX12_isAhead_96
  · have hw := hw.2 hc6
    refine m_aldN C dX12_isAhead_15 rfl h0 ?_
    refine m_getR C hW rfl hk1 f_X12_94 rfl dX12_isAhead_16 ?_
    refine lv_iload_n C.1 C.2.1 dX12_isAhead_19 rfl h1 ?_
    obtain ⟨hi20, hw⟩ := hw
    refine m_iald C hW ho2 hk3 hi20 dX12_isAhead_20 ?_
    refine m_aldN C dX12_isAhead_21 rfl h0 ?_
    refine m_getR C hW rfl hk1 f_X12_94 rfl dX12_isAhead_22 ?_
    refine lv_iload_n C.1 C.2.1 dX12_isAhead_25 rfl h2 ?_
    obtain ⟨hi21, hw⟩ := hw
    refine m_iald C hW ho2 hk3 hi21 dX12_isAhead_26 ?_
    refine lv_icmp_ge (tgt := 34) C.1 C.2.1 dX12_isAhead_27 (by decide) (fun hc22 => ?_) (fun hc22 => ?_)
    · have hw := hw.1 hc22
      refine lv_iconst (v := 0) C.1 C.2.1 dX12_isAhead_34 (by decide) ?_
      refine lv_goto (tgt := 96) C.1 C.2.1 dX12_isAhead_35 (by decide) ?_
      exact m_zret C hW hS (by decide) hw dX12_isAhead_96
    · have hw := hw.2 hc22
      refine lv_iconst (v := 1) C.1 C.2.1 dX12_isAhead_30 (by decide) ?_
      refine lv_goto (tgt := 96) C.1 C.2.1 dX12_isAhead_31 (by decide) ?_
      exact m_zret C hW hS (by decide) hw dX12_isAhead_96
def wp_X12_run_L49 (l0 : Nat) (l2 : Int32) (K78 : Hp → Prop) (Q : Int32 → Hp → Prop) : Nat → Hp → Int32 → Prop
  | 0, _, _ => False
  | n + 1, S, l3 => (l3 ≤ 0 → K78 S) ∧ (¬ (l3 ≤ 0) → hK S l0 = 14 ∧ wp_X12_isAhead S l0 l3 (l3 - 1) (fun r14 S13 => (r14 = 0 → K78 S13) ∧ (¬ (r14 = 0) → hK S13 l0 = 14 ∧ wp_X12_swaps S13 l0 l3 (l3 - 1) (fun S17 => wp_X12_run_L49 l0 l2 K78 Q n S17 (l3 + (-1))))))
def wp_X12_run_L39 (l0 : Nat) (Q : Int32 → Hp → Prop) : Nat → Hp → Int32 → Prop
  | 0, _, _ => False
  | n + 1, S, l2 => hK S l0 = 14 ∧ ((hI S l0 25) ≤ l2 → Q (hI S l0 23) S) ∧ (¬ ((hI S l0 25) ≤ l2) → wp_X12_run_L49 l0 l2 (fun (S18 : Hp) => wp_X12_run_L39 l0 Q n S18 (l2 + 1)) Q FU S l2)
def wp_X12_run (S : Hp) (a0 : Nat) (a1 : Int32) (Q : Int32 → Hp → Prop) : Prop := hK S a0 = 14 ∧ (a1 < 1 → Q (-2) (sI S a0 0 0)) ∧ (¬ (a1 < 1) → (a1 ≤ 1000000 → wp_X12_begins (sI S a0 0 0) a0 (fun S4 => hK S4 a0 = 14 ∧ wp_X12_goesOn S4 a0 a1 (fun r7 S6 => hK S6 a0 = 14 ∧ wp_X12_run_L39 a0 Q FU (sI (sI S6 a0 23 r7) a0 22 1) 0))) ∧ (¬ (a1 ≤ 1000000) → Q (-2) (sI S a0 0 0)))
set_option maxRecDepth 100000 in
set_option maxHeartbeats 4000000 in
theorem w_X12_run_L49 {p : Program} {l : Launch} {e : Env} {s : State} {m : MethodId} {args : Array Value} {below : List Frame} {meth : Method} {c : Code} {G : GX} {Q : Int32 → Hp → Prop} {K78 : Hp → Prop} {l0 : Nat} {l2 : Int32} (C : Cx p s m args meth c cX12_run 4 RX12 (some .int) "run" G)
    (k78 : ∀ (S : Hp) (H : Heap) (locs : List Loc) (ls : Array Slot), wd G S H → va_S G.2.2.1 s.heap H locs → LV ls 4 → ls[0]? = some (.val (va_rf (some l0))) → ls[2]? = some (.val (.int l2)) → K78 S → W p l e ({ frames := 6, cells := 0, slots := 0, locals := 143 } : Room) s m args below meth c H locs 0 0 (MQ below (QI G Q) args s 0 0 G.2.2.1) (F0 m 78 ls [])) :
    ∀ (n : Nat) (S : Hp) (l3 : Int32) (H : Heap) (locs : List Loc) (ls : Array Slot), wd G S H → va_S G.2.2.1 s.heap H locs → LV ls 4 → ls[0]? = some (.val (va_rf (some l0))) → ls[2]? = some (.val (.int l2)) → ls[3]? = some (.val (.int l3)) → wp_X12_run_L49 l0 l2 K78 Q n S l3 → W p l e ({ frames := 6, cells := 0, slots := 0, locals := 143 } : Room) s m args below meth c H locs 0 0 (MQ below (QI G Q) args s 0 0 G.2.2.1) (F0 m 49 ls []) := by
  intro n
  induction n with
  | zero =>
    intro S l3 H locs ls hW hS hL h0 h2 h3 hw
    exact False.elim hw
  | succ n ih =>
    intro S l3 H locs ls hW hS hL h0 h2 h3 hw
    unfold wp_X12_run_L49 at hw
    refine lv_iload_n C.1 C.2.1 dX12_run_49 rfl h3 ?_
    refine lv_if_le (tgt := 78) C.1 C.2.1 dX12_run_50 (by decide) (fun hc11 => ?_) (fun hc11 => ?_)
    · have hw := hw.1 hc11
      exact k78 S H locs ls hW hS hL h0 h2 hw
    · have hw := hw.2 hc11
      refine m_aldN C dX12_run_53 rfl h0 ?_
      refine lv_iload_n C.1 C.2.1 dX12_run_54 rfl h3 ?_
      refine lv_iload_n C.1 C.2.1 dX12_run_55 rfl h3 ?_
      refine lv_iconst (v := 1) C.1 C.2.1 dX12_run_56 (by decide) ?_
      refine lv_isub C.1 C.2.1 dX12_run_57 ?_
      obtain ⟨hk12, hw⟩ := hw
      refine m_rI (m_runV (As := [.int l3, .int (l3 - 1)]) (rest := []) C hW hS hL (c_X12_isAhead hw) v_X12_281 ⟨rfl, rfl⟩ ⟨Nat.le_of_ble_eq_true rfl, Nat.le_of_ble_eq_true rfl⟩ rfl hk12 rfl rfl (Nat.le_of_ble_eq_true rfl) dX12_run_58 ⟨Nat.le_of_ble_eq_true rfl, Nat.le_of_ble_eq_true rfl⟩) hS (fun r14 S13 H locs hw hW hS => ?_)
      refine lv_if_eq (tgt := 78) C.1 C.2.1 dX12_run_61 (by decide) (fun hc15 => ?_) (fun hc15 => ?_)
      · have hw := hw.1 hc15
        exact k78 S13 H locs ls hW hS hL h0 h2 hw
      · have hw := hw.2 hc15
        refine m_aldN C dX12_run_64 rfl h0 ?_
        refine lv_iload_n C.1 C.2.1 dX12_run_65 rfl h3 ?_
        refine lv_iload_n C.1 C.2.1 dX12_run_66 rfl h3 ?_
        refine lv_iconst (v := 1) C.1 C.2.1 dX12_run_67 (by decide) ?_
        refine lv_isub C.1 C.2.1 dX12_run_68 ?_
        obtain ⟨hk16, hw⟩ := hw
        refine m_rV (m_runV (As := [.int l3, .int (l3 - 1)]) (rest := []) C hW hS hL (c_X12_swaps hw) v_X12_285 ⟨rfl, rfl⟩ ⟨Nat.le_of_ble_eq_true rfl, Nat.le_of_ble_eq_true rfl⟩ rfl hk16 rfl rfl (Nat.le_of_ble_eq_true rfl) dX12_run_69 ⟨Nat.le_of_ble_eq_true rfl, Nat.le_of_ble_eq_true rfl⟩) hS (fun S17 H locs hw hW hS => ?_)
        refine m_iinc (v := (l3 + (-1))) C hL dX12_run_72 h3 rfl (by decide) (fun ls hL hn9 hk9 => ?_)
        have h0 := hk9 0 _ h0 (by decide) (Or.inl (by decide))
        have h2 := hk9 2 _ h2 (by decide) (Or.inr (rfl))
        have h3 := hn9
        refine lv_goto (tgt := 49) C.1 C.2.1 dX12_run_75 (by decide) ?_
        exact ih S17 (l3 + (-1)) H locs ls hW hS hL h0 h2 h3 hw
set_option maxRecDepth 100000 in
set_option maxHeartbeats 4000000 in
theorem w_X12_run_L39 {p : Program} {l : Launch} {e : Env} {s : State} {m : MethodId} {args : Array Value} {below : List Frame} {meth : Method} {c : Code} {G : GX} {Q : Int32 → Hp → Prop} {l0 : Nat} (C : Cx p s m args meth c cX12_run 4 RX12 (some .int) "run" G) :
    ∀ (n : Nat) (S : Hp) (l2 : Int32) (H : Heap) (locs : List Loc) (ls : Array Slot), wd G S H → va_S G.2.2.1 s.heap H locs → LV ls 4 → ls[0]? = some (.val (va_rf (some l0))) → ls[2]? = some (.val (.int l2)) → wp_X12_run_L39 l0 Q n S l2 → W p l e ({ frames := 6, cells := 0, slots := 0, locals := 143 } : Room) s m args below meth c H locs 0 0 (MQ below (QI G Q) args s 0 0 G.2.2.1) (F0 m 39 ls []) := by
  intro n
  induction n with
  | zero =>
    intro S l2 H locs ls hW hS hL h0 h2 hw
    exact False.elim hw
  | succ n ih =>
    intro S l2 H locs ls hW hS hL h0 h2 hw
    unfold wp_X12_run_L39 at hw
    refine lv_iload_n C.1 C.2.1 dX12_run_39 rfl h2 ?_
    refine m_aldN C dX12_run_40 rfl h0 ?_
    obtain ⟨hk9, hw⟩ := hw
    refine m_getI C hW rfl hk9 f_X12_199 rfl dX12_run_41 ?_
    refine lv_icmp_ge (tgt := 84) C.1 C.2.1 dX12_run_44 (by decide) (fun hc10 => ?_) (fun hc10 => ?_)
    · have hw := hw.1 hc10
      refine m_aldN C dX12_run_84 rfl h0 ?_
      refine m_getI C hW rfl hk9 f_X12_278 rfl dX12_run_85 ?_
      exact m_iret C hW hS hw dX12_run_88
    · have hw := hw.2 hc10
      refine lv_iload_n C.1 C.2.1 dX12_run_47 rfl h2 ?_
      refine m_istN C hL dX12_run_48 rfl (by decide) (fun ls hL hn9 hk9 => ?_)
      have h0 := hk9 0 _ h0 (by decide) (Or.inl (by decide))
      have h2 := hk9 2 _ h2 (by decide) (Or.inr (rfl))
      have h3 := hn9
      refine w_X12_run_L49 C ?_ FU S l2 H locs ls hW hS hL h0 h2 h3 hw
      · intro S18 H locs ls hW hS hL h0 h2 hw
        refine m_iinc (v := (l2 + 1)) C hL dX12_run_78 h2 rfl (by decide) (fun ls hL hn9 hk9 => ?_)
        have h0 := hk9 0 _ h0 (by decide) (Or.inl (by decide))
        have h2 := hn9
        refine lv_goto (tgt := 39) C.1 C.2.1 dX12_run_81 (by decide) ?_
        exact ih S18 (l2 + 1) H locs ls hW hS hL h0 h2 hw
set_option maxRecDepth 100000 in
set_option maxHeartbeats 4000000 in
theorem c_X12_run {l : Launch} {G : GX} {S : Hp} {a0 : Nat} {a1 : Int32} {Q : Int32 → Hp → Prop} (hw : wp_X12_run S a0 a1 Q) : Met l yX12_run (Cond.code yX12_run cX12_run 4 (some .int) :: TS) { frames := 6, cells := 0, slots := 0, locals := 143 } (Pk G S [va_rf (some a0), .int a1]) (QI G Q) 0 0 G.2.2.1 := by
  refine m_met (by decide) ?_
  intro p e s m below meth c H locs C hW hS
  have C : Cx p s m ([va_rf (some a0), .int a1] : List Value).toArray meth c cX12_run 4 RX12 (some .int) "run" G := C
  obtain ⟨ls, hent, hL, hla⟩ := m_entry m (vs := [va_rf (some a0), .int a1]) (nn := 4) [1, 1] rfl (by decide)
  rw [hent]
  have h0 : ls[0]? = some (.val (va_rf (some a0))) := hla (0, va_rf (some a0)) (List.mem_of_getElem? (i := 0) rfl)
  have h1 : ls[1]? = some (.val (.int a1)) := hla (1, .int a1) (List.mem_of_getElem? (i := 1) rfl)
  clear hla
  generalize ([va_rf (some a0), .int a1] : List Value).toArray = args at C ⊢
  unfold wp_X12_run at hw
  refine m_aldN C dX12_run_0 rfl h0 ?_
  refine lv_iconst (v := 0) C.1 C.2.1 dX12_run_1 (by decide) ?_
  obtain ⟨hk1, hw⟩ := hw
  refine m_putI C hW hS rfl hk1 p_X12_124 (fun z => by cases z) rfl dX12_run_2 (fun H locs hW hS => ?_)
  refine lv_iload_n C.1 C.2.1 dX12_run_5 rfl h1 ?_
  refine lv_iconst (v := 1) C.1 C.2.1 dX12_run_6 (by decide) ?_
  refine lv_icmp_lt (tgt := 16) C.1 C.2.1 dX12_run_7 (by decide) (fun hc2 => ?_) (fun hc2 => ?_)
  · have hw := hw.1 hc2
    refine lv_bipush (v := (-2)) C.1 C.2.1 dX12_run_16 (by decide) ?_
    exact m_iret C hW hS hw dX12_run_18
  · have hw := hw.2 hc2
    refine lv_iload_n C.1 C.2.1 dX12_run_10 rfl h1 ?_
    refine lv_ldc (v := 1000000) C.1 C.2.1 C.2.2.2.1 (C.2.2.2.2.1 _ tw_1302) dX12_run_11 ?_
    refine lv_icmp_le (tgt := 19) C.1 C.2.1 dX12_run_13 (by decide) (fun hc3 => ?_) (fun hc3 => ?_)
    · have hw := hw.1 hc3
      refine m_aldN C dX12_run_19 rfl h0 ?_
      refine m_rV (m_runV (As := []) (rest := []) C hW hS hL (c_X12_begins hw) v_X12_272 ⟨rfl, rfl⟩ ⟨Nat.le_of_ble_eq_true rfl, Nat.le_of_ble_eq_true rfl⟩ rfl hk1 rfl rfl (Nat.le_of_ble_eq_true rfl) dX12_run_20 ⟨Nat.le_of_ble_eq_true rfl, Nat.le_of_ble_eq_true rfl⟩) hS (fun S4 H locs hw hW hS => ?_)
      refine m_aldN C dX12_run_23 rfl h0 ?_
      refine m_aldN C dX12_run_24 rfl h0 ?_
      refine lv_iload_n C.1 C.2.1 dX12_run_25 rfl h1 ?_
      obtain ⟨hk5, hw⟩ := hw
      refine m_rI (m_runV (As := [.int a1]) (rest := [va_rf (some a0)]) C hW hS hL (c_X12_goesOn hw) v_X12_275 ⟨rfl, rfl⟩ ⟨Nat.le_of_ble_eq_true rfl, Nat.le_of_ble_eq_true rfl⟩ rfl hk5 rfl rfl (by simp only [List.map_cons, List.map_nil, va_rf_cat, List.sum_cons, List.sum_nil] <;> exact Nat.le_of_ble_eq_true rfl) dX12_run_26 ⟨Nat.le_of_ble_eq_true rfl, Nat.le_of_ble_eq_true rfl⟩) hS (fun r7 S6 H locs hw hW hS => ?_)
      obtain ⟨hk8, hw⟩ := hw
      refine m_putI C hW hS rfl hk8 p_X12_278 (fun z => by cases z) rfl dX12_run_29 (fun H locs hW hS => ?_)
      refine m_aldN C dX12_run_32 rfl h0 ?_
      refine lv_iconst (v := 1) C.1 C.2.1 dX12_run_33 (by decide) ?_
      refine m_putZ C hW hS rfl hk8 p_X12_131 (fun z => by cases z) (by decide) rfl dX12_run_34 (fun H locs hW hS => ?_)
      refine lv_iconst (v := 0) C.1 C.2.1 dX12_run_37 (by decide) ?_
      refine m_istN C hL dX12_run_38 rfl (by decide) (fun ls hL hn9 hk9 => ?_)
      have h0 := hk9 0 _ h0 (by decide) (Or.inl (by decide))
      have h2 := hn9
      exact w_X12_run_L39 C  FU (sI (sI S6 a0 23 r7) a0 22 1) 0 H locs ls hW hS hL h0 h2 hw
    · have hw := hw.2 hc3
      refine lv_bipush (v := (-2)) C.1 C.2.1 dX12_run_16 (by decide) ?_
      exact m_iret C hW hS hw dX12_run_18
def wp_X12_again (S : Hp) (a0 : Nat) (Q : Int32 → Hp → Prop) : Prop := hK S a0 = 14 ∧ ∀ x2 : Int32, x2 = (hI (sI S a0 0 0) a0 22) → (x2 = 0 ∨ x2 = 1) ∧ Q x2 (sI (sI S a0 0 0) a0 22 0)
set_option maxRecDepth 100000 in
set_option maxHeartbeats 4000000 in
theorem c_X12_again {l : Launch} {G : GX} {S : Hp} {a0 : Nat} {Q : Int32 → Hp → Prop} (hw : wp_X12_again S a0 Q) : Met l yX12_again (Cond.code yX12_again cX12_again 2 (some .boolean) :: TS) { frames := 0, cells := 0, slots := 0, locals := 0 } (Pk G S [va_rf (some a0)]) (QI G Q) 0 0 G.2.2.1 := by
  refine m_met (by decide) ?_
  intro p e s m below meth c H locs C hW hS
  have C : Cx p s m ([va_rf (some a0)] : List Value).toArray meth c cX12_again 2 RX12 (some .boolean) "again" G := C
  obtain ⟨ls, hent, hL, hla⟩ := m_entry m (vs := [va_rf (some a0)]) (nn := 2) [1] rfl (by decide)
  rw [hent]
  have h0 : ls[0]? = some (.val (va_rf (some a0))) := hla (0, va_rf (some a0)) (List.mem_of_getElem? (i := 0) rfl)
  clear hla
  generalize ([va_rf (some a0)] : List Value).toArray = args at C ⊢
  unfold wp_X12_again at hw
  refine m_aldN C dX12_again_0 rfl h0 ?_
  refine lv_iconst (v := 0) C.1 C.2.1 dX12_again_1 (by decide) ?_
  obtain ⟨hk1, hw⟩ := hw
  refine m_putI C hW hS rfl hk1 p_X12_124 (fun z => by cases z) rfl dX12_again_2 (fun H locs hW hS => ?_)
  refine m_aldN C dX12_again_5 rfl h0 ?_
  refine m_getI C hW rfl hk1 f_X12_131 rfl dX12_again_6 ?_
  refine lv_topi (fun x2 ex2 => ?_)
  have hw := hw x2 ex2
  refine m_istN C hL dX12_again_9 rfl (by decide) (fun ls hL hn9 hk9 => ?_)
  have h0 := hk9 0 _ h0 (by decide) (Or.inr (va_rf_cat _))
  have h1 := hn9
  refine m_aldN C dX12_again_10 rfl h0 ?_
  refine lv_iconst (v := 0) C.1 C.2.1 dX12_again_11 (by decide) ?_
  refine m_putZ C hW hS rfl hk1 p_X12_131 (fun z => by cases z) (by decide) rfl dX12_again_12 (fun H locs hW hS => ?_)
  refine lv_iload_n C.1 C.2.1 dX12_again_15 rfl h1 ?_
  obtain ⟨hz3, hw⟩ := hw
  exact m_zret C hW hS hz3 hw dX12_again_16
def wp_X12_causeOf_L2 (S : Hp) (l0 : Nat) (l1 : Int32) (Q : Int32 → Hp → Prop) : Nat → Int32 → Prop
  | 0, _ => False
  | n + 1, l2 => hK S l0 = 14 ∧ ((hI S l0 4) ≤ l2 → Q (-1) S) ∧ (¬ ((hI S l0 4) ≤ l2) → ∃ b3 : Nat, (hR S l0 26) = some b3 ∧ hK S b3 = 15 ∧ vp_in l1 (hN S b3) ∧ ((hI S b3 (l1 : Int32).toNatClampNeg) = 3 → vp_in l2 (hN S b3) ∧ ((hI S b3 (l2 : Int32).toNatClampNeg) = 2 → ∃ b9 : Nat, (hR S l0 11) = some b9 ∧ hK S b9 = 17 ∧ vp_in ((200 * l1) + l2) (hN S b9) ∧ ((hI S b9 (((200 * l1) + l2) : Int32).toNatClampNeg) = 0 → wp_X12_causeOf_L2 S l0 l1 Q n (l2 + 1)) ∧ (¬ ((hI S b9 (((200 * l1) + l2) : Int32).toNatClampNeg) = 0) → Q l2 S)) ∧ (¬ ((hI S b3 (l2 : Int32).toNatClampNeg) = 2) → wp_X12_causeOf_L2 S l0 l1 Q n (l2 + 1))) ∧ (¬ ((hI S b3 (l1 : Int32).toNatClampNeg) = 3) → Q (-1) S))
def wp_X12_causeOf (S : Hp) (a0 : Nat) (a1 : Int32) (Q : Int32 → Hp → Prop) : Prop := wp_X12_causeOf_L2 S a0 a1 Q FU 0
set_option maxRecDepth 100000 in
set_option maxHeartbeats 4000000 in
theorem w_X12_causeOf_L2 {p : Program} {l : Launch} {e : Env} {s : State} {m : MethodId} {args : Array Value} {below : List Frame} {meth : Method} {c : Code} {G : GX} {Q : Int32 → Hp → Prop} {l0 : Nat} {l1 : Int32} {S : Hp} {H : Heap} {locs : List Loc} (C : Cx p s m args meth c cX12_causeOf 3 RX12 (some .int) "causeOf" G) (hW : wd G S H) (hS : va_S G.2.2.1 s.heap H locs) :
    ∀ (n : Nat) (l2 : Int32) (ls : Array Slot), LV ls 3 → ls[0]? = some (.val (va_rf (some l0))) → ls[1]? = some (.val (.int l1)) → ls[2]? = some (.val (.int l2)) → wp_X12_causeOf_L2 S l0 l1 Q n l2 → W p l e ({ frames := 0, cells := 0, slots := 0, locals := 0 } : Room) s m args below meth c H locs 0 0 (MQ below (QI G Q) args s 0 0 G.2.2.1) (F0 m 2 ls []) := by
  intro n
  induction n with
  | zero =>
    intro l2 ls hL h0 h1 h2 hw
    exact False.elim hw
  | succ n ih =>
    intro l2 ls hL h0 h1 h2 hw
    unfold wp_X12_causeOf_L2 at hw
    refine lv_iload_n C.1 C.2.1 dX12_causeOf_2 rfl h2 ?_
    refine m_aldN C dX12_causeOf_3 rfl h0 ?_
    obtain ⟨hk1, hw⟩ := hw
    refine m_getI C hW rfl hk1 f_X12_128 rfl dX12_causeOf_4 ?_
    refine lv_icmp_ge (tgt := 53) C.1 C.2.1 dX12_causeOf_7 (by decide) (fun hc2 => ?_) (fun hc2 => ?_)
    · have hw := hw.1 hc2
      refine lv_iconst (v := (-1)) C.1 C.2.1 dX12_causeOf_53 (by decide) ?_
      exact m_iret C hW hS hw dX12_causeOf_54
    · have hw := hw.2 hc2
      refine m_aldN C dX12_causeOf_10 rfl h0 ?_
      refine m_getR C hW rfl hk1 f_X12_63 rfl dX12_causeOf_11 ?_
      refine lv_iload_n C.1 C.2.1 dX12_causeOf_14 rfl h1 ?_
      obtain ⟨b3, ho3, hw⟩ := hw
      obtain ⟨hk4, hw⟩ := hw
      obtain ⟨hi5, hw⟩ := hw
      refine m_iald C hW ho3 hk4 hi5 dX12_causeOf_15 ?_
      refine lv_iconst (v := 3) C.1 C.2.1 dX12_causeOf_16 (by decide) ?_
      refine lv_icmp_ne (tgt := 53) C.1 C.2.1 dX12_causeOf_17 (by decide) (fun hc6 => ?_) (fun hc6 => ?_)
      · have hw := hw.2 hc6
        refine lv_iconst (v := (-1)) C.1 C.2.1 dX12_causeOf_53 (by decide) ?_
        exact m_iret C hW hS hw dX12_causeOf_54
      · have hw := hw.1 hc6
        refine m_aldN C dX12_causeOf_20 rfl h0 ?_
        refine m_getR C hW rfl hk1 f_X12_63 rfl dX12_causeOf_21 ?_
        refine lv_iload_n C.1 C.2.1 dX12_causeOf_24 rfl h2 ?_
        obtain ⟨hi7, hw⟩ := hw
        refine m_iald C hW ho3 hk4 hi7 dX12_causeOf_25 ?_
        refine lv_iconst (v := 2) C.1 C.2.1 dX12_causeOf_26 (by decide) ?_
        refine lv_icmp_ne (tgt := 47) C.1 C.2.1 dX12_causeOf_27 (by decide) (fun hc8 => ?_) (fun hc8 => ?_)
        · have hw := hw.2 hc8
          refine m_iinc (v := (l2 + 1)) C hL dX12_causeOf_47 h2 rfl (by decide) (fun ls hL hn9 hk9 => ?_)
          have h0 := hk9 0 _ h0 (by decide) (Or.inl (by decide))
          have h1 := hk9 1 _ h1 (by decide) (Or.inr (rfl))
          have h2 := hn9
          refine lv_goto (tgt := 2) C.1 C.2.1 dX12_causeOf_50 (by decide) ?_
          exact ih (l2 + 1) ls hL h0 h1 h2 hw
        · have hw := hw.1 hc8
          refine m_aldN C dX12_causeOf_30 rfl h0 ?_
          refine m_getR C hW rfl hk1 f_X12_30 rfl dX12_causeOf_31 ?_
          refine lv_sipush (v := 200) C.1 C.2.1 dX12_causeOf_34 (by decide) ?_
          refine lv_iload_n C.1 C.2.1 dX12_causeOf_37 rfl h1 ?_
          refine lv_imul C.1 C.2.1 dX12_causeOf_38 ?_
          refine lv_iload_n C.1 C.2.1 dX12_causeOf_39 rfl h2 ?_
          refine lv_iadd C.1 C.2.1 dX12_causeOf_40 ?_
          obtain ⟨b9, ho9, hw⟩ := hw
          obtain ⟨hk10, hw⟩ := hw
          obtain ⟨hi11, hw⟩ := hw
          refine m_zald C hW ho9 hk10 hi11 dX12_causeOf_41 ?_
          refine lv_if_eq (tgt := 47) C.1 C.2.1 dX12_causeOf_42 (by decide) (fun hc12 => ?_) (fun hc12 => ?_)
          · have hw := hw.1 hc12
            refine m_iinc (v := (l2 + 1)) C hL dX12_causeOf_47 h2 rfl (by decide) (fun ls hL hn9 hk9 => ?_)
            have h0 := hk9 0 _ h0 (by decide) (Or.inl (by decide))
            have h1 := hk9 1 _ h1 (by decide) (Or.inr (rfl))
            have h2 := hn9
            refine lv_goto (tgt := 2) C.1 C.2.1 dX12_causeOf_50 (by decide) ?_
            exact ih (l2 + 1) ls hL h0 h1 h2 hw
          · have hw := hw.2 hc12
            refine lv_iload_n C.1 C.2.1 dX12_causeOf_45 rfl h2 ?_
            exact m_iret C hW hS hw dX12_causeOf_46
set_option maxRecDepth 100000 in
set_option maxHeartbeats 4000000 in
theorem c_X12_causeOf {l : Launch} {G : GX} {S : Hp} {a0 : Nat} {a1 : Int32} {Q : Int32 → Hp → Prop} (hw : wp_X12_causeOf S a0 a1 Q) : Met l yX12_causeOf (Cond.code yX12_causeOf cX12_causeOf 3 (some .int) :: TS) { frames := 0, cells := 0, slots := 0, locals := 0 } (Pk G S [va_rf (some a0), .int a1]) (QI G Q) 0 0 G.2.2.1 := by
  refine m_met (by decide) ?_
  intro p e s m below meth c H locs C hW hS
  have C : Cx p s m ([va_rf (some a0), .int a1] : List Value).toArray meth c cX12_causeOf 3 RX12 (some .int) "causeOf" G := C
  obtain ⟨ls, hent, hL, hla⟩ := m_entry m (vs := [va_rf (some a0), .int a1]) (nn := 3) [1, 1] rfl (by decide)
  rw [hent]
  have h0 : ls[0]? = some (.val (va_rf (some a0))) := hla (0, va_rf (some a0)) (List.mem_of_getElem? (i := 0) rfl)
  have h1 : ls[1]? = some (.val (.int a1)) := hla (1, .int a1) (List.mem_of_getElem? (i := 1) rfl)
  clear hla
  generalize ([va_rf (some a0), .int a1] : List Value).toArray = args at C ⊢
  unfold wp_X12_causeOf at hw
  refine lv_iconst (v := 0) C.1 C.2.1 dX12_causeOf_0 (by decide) ?_
  refine m_istN C hL dX12_causeOf_1 rfl (by decide) (fun ls hL hn9 hk9 => ?_)
  have h0 := hk9 0 _ h0 (by decide) (Or.inl (by decide))
  have h1 := hk9 1 _ h1 (by decide) (Or.inr (rfl))
  have h2 := hn9
  exact w_X12_causeOf_L2 C hW hS  FU 0 ls hL h0 h1 h2 hw
def wp_X12_state (S : Hp) (a0 : Nat) (a1 : Int32) (a2 : Int32) (Q : Int32 → Hp → Prop) : Prop := hK S a0 = 14 ∧ wp_X12_isJob S a0 a1 (fun r3 S2 => ∃ J5 : Option Nat → Int32 → Prop, J5 = (fun (o6 : Option Nat) (x7 : Int32) => ∃ b8 : Nat, o6 = some b8 ∧ hK S2 b8 = 14 ∧ hK (sI S2 b8 0 x7) a0 = 14 ∧ ((hI (sI S2 b8 0 x7) a0 0) ≤ 0 → (a2 = 0 → ((hI (sI S2 b8 0 x7) a0 22) = 0 → Q 0 (sI S2 b8 0 x7)) ∧ (¬ ((hI (sI S2 b8 0 x7) a0 22) = 0) → ∃ b13 : Nat, (hR (sI S2 b8 0 x7) a0 26) = some b13 ∧ hK (sI S2 b8 0 x7) b13 = 15 ∧ vp_in a1 (hN (sI S2 b8 0 x7) b13) ∧ Q (hI (sI S2 b8 0 x7) b13 (a1 : Int32).toNatClampNeg) (sI S2 b8 0 x7))) ∧ (¬ (a2 = 0) → (a2 = 1 → ((hI (sI S2 b8 0 x7) a0 22) = 0 → Q (-1) (sI S2 b8 0 x7)) ∧ (¬ ((hI (sI S2 b8 0 x7) a0 22) = 0) → ∃ b18 : Nat, (hR (sI S2 b8 0 x7) a0 27) = some b18 ∧ hK (sI S2 b8 0 x7) b18 = 15 ∧ vp_in a1 (hN (sI S2 b8 0 x7) b18) ∧ Q (hI (sI S2 b8 0 x7) b18 (a1 : Int32).toNatClampNeg) (sI S2 b8 0 x7))) ∧ (¬ (a2 = 1) → (a2 = 2 → ((hI (sI S2 b8 0 x7) a0 22) = 0 → Q (-1) (sI S2 b8 0 x7)) ∧ (¬ ((hI (sI S2 b8 0 x7) a0 22) = 0) → ∃ b23 : Nat, (hR (sI S2 b8 0 x7) a0 28) = some b23 ∧ hK (sI S2 b8 0 x7) b23 = 15 ∧ vp_in a1 (hN (sI S2 b8 0 x7) b23) ∧ Q (hI (sI S2 b8 0 x7) b23 (a1 : Int32).toNatClampNeg) (sI S2 b8 0 x7))) ∧ (¬ (a2 = 2) → (a2 = 3 → ((hI (sI S2 b8 0 x7) a0 22) = 0 → Q (-1) (sI S2 b8 0 x7)) ∧ (¬ ((hI (sI S2 b8 0 x7) a0 22) = 0) → ∃ b28 : Nat, (hR (sI S2 b8 0 x7) a0 29) = some b28 ∧ hK (sI S2 b8 0 x7) b28 = 15 ∧ vp_in a1 (hN (sI S2 b8 0 x7) b28) ∧ Q (hI (sI S2 b8 0 x7) b28 (a1 : Int32).toNatClampNeg) (sI S2 b8 0 x7))) ∧ (¬ (a2 = 3) → (a2 = 4 → ((hI (sI S2 b8 0 x7) a0 22) = 0 → Q 0 (sI S2 b8 0 x7)) ∧ (¬ ((hI (sI S2 b8 0 x7) a0 22) = 0) → wp_X12_farOf (sI S2 b8 0 x7) a0 a1 (fun r34 S33 => Q r34 S33))) ∧ (¬ (a2 = 4) → (a2 = 5 → ((hI (sI S2 b8 0 x7) a0 22) = 0 → Q 0 (sI S2 b8 0 x7)) ∧ (¬ ((hI (sI S2 b8 0 x7) a0 22) = 0) → ∃ b37 : Nat, (hR (sI S2 b8 0 x7) a0 30) = some b37 ∧ hK (sI S2 b8 0 x7) b37 = 15 ∧ vp_in a1 (hN (sI S2 b8 0 x7) b37) ∧ Q (hI (sI S2 b8 0 x7) b37 (a1 : Int32).toNatClampNeg) (sI S2 b8 0 x7))) ∧ (¬ (a2 = 5) → (a2 = 6 → ((hI (sI S2 b8 0 x7) a0 22) = 0 → Q 0 (sI S2 b8 0 x7)) ∧ (¬ ((hI (sI S2 b8 0 x7) a0 22) = 0) → ∃ b42 : Nat, (hR (sI S2 b8 0 x7) a0 26) = some b42 ∧ hK (sI S2 b8 0 x7) b42 = 15 ∧ vp_in a1 (hN (sI S2 b8 0 x7) b42) ∧ ((hI (sI S2 b8 0 x7) b42 (a1 : Int32).toNatClampNeg) = 2 → ∃ b46 : Nat, (hR (sI S2 b8 0 x7) a0 31) = some b46 ∧ hK (sI S2 b8 0 x7) b46 = 15 ∧ vp_in a1 (hN (sI S2 b8 0 x7) b46) ∧ Q (hI (sI S2 b8 0 x7) b46 (a1 : Int32).toNatClampNeg) (sI S2 b8 0 x7)) ∧ (¬ ((hI (sI S2 b8 0 x7) b42 (a1 : Int32).toNatClampNeg) = 2) → Q 0 (sI S2 b8 0 x7)))) ∧ (¬ (a2 = 6) → (a2 = 7 → ((hI (sI S2 b8 0 x7) a0 22) = 0 → Q (-1) (sI S2 b8 0 x7)) ∧ (¬ ((hI (sI S2 b8 0 x7) a0 22) = 0) → wp_X12_causeOf (sI S2 b8 0 x7) a0 a1 (fun r52 S51 => Q r52 S51))) ∧ (¬ (a2 = 7) → Q (-1) (sI S2 b8 0 x7)))))))))) ∧ (¬ ((hI (sI S2 b8 0 x7) a0 0) ≤ 0) → Q 0 (sI S2 b8 0 x7))) ∧ (r3 = 0 → J5 (some a0) 1) ∧ (¬ (r3 = 0) → J5 (some a0) 0))
set_option maxRecDepth 100000 in
set_option maxHeartbeats 4000000 in
theorem c_X12_state {l : Launch} {G : GX} {S : Hp} {a0 : Nat} {a1 : Int32} {a2 : Int32} {Q : Int32 → Hp → Prop} (hw : wp_X12_state S a0 a1 a2 Q) : Met l yX12_state (Cond.code yX12_state cX12_state 3 (some .int) :: TS) { frames := 1, cells := 0, slots := 0, locals := 22 } (Pk G S [va_rf (some a0), .int a1, .int a2]) (QI G Q) 0 0 G.2.2.1 := by
  refine m_met (by decide) ?_
  intro p e s m below meth c H locs C hW hS
  have C : Cx p s m ([va_rf (some a0), .int a1, .int a2] : List Value).toArray meth c cX12_state 3 RX12 (some .int) "state" G := C
  obtain ⟨ls, hent, hL, hla⟩ := m_entry m (vs := [va_rf (some a0), .int a1, .int a2]) (nn := 3) [1, 1, 1] rfl (by decide)
  rw [hent]
  have h0 : ls[0]? = some (.val (va_rf (some a0))) := hla (0, va_rf (some a0)) (List.mem_of_getElem? (i := 0) rfl)
  have h1 : ls[1]? = some (.val (.int a1)) := hla (1, .int a1) (List.mem_of_getElem? (i := 1) rfl)
  have h2 : ls[2]? = some (.val (.int a2)) := hla (2, .int a2) (List.mem_of_getElem? (i := 2) rfl)
  clear hla
  generalize ([va_rf (some a0), .int a1, .int a2] : List Value).toArray = args at C ⊢
  unfold wp_X12_state at hw
  refine m_aldN C dX12_state_0 rfl h0 ?_
  refine m_aldN C dX12_state_1 rfl h0 ?_
  refine lv_iload_n C.1 C.2.1 dX12_state_2 rfl h1 ?_
  obtain ⟨hk1, hw⟩ := hw
  refine m_rI (m_runV (As := [.int a1]) (rest := [va_rf (some a0)]) C hW hS hL (c_X12_isJob hw) v_X12_154 ⟨rfl, rfl⟩ ⟨Nat.le_of_ble_eq_true rfl, Nat.le_of_ble_eq_true rfl⟩ rfl hk1 rfl rfl (by simp only [List.map_cons, List.map_nil, va_rf_cat, List.sum_cons, List.sum_nil] <;> exact Nat.le_of_ble_eq_true rfl) dX12_state_3 ⟨Nat.le_of_ble_eq_true rfl, Nat.le_of_ble_eq_true rfl⟩) hS (fun r3 S2 H locs hw hW hS => ?_)
  obtain ⟨J5, eJ5, hw⟩ := hw
  have wJ5 : ∀ (o6 : Option Nat) (x7 : Int32) (ls : Array Slot), LV ls 3 → ls[0]? = some (.val (va_rf (some a0))) → ls[1]? = some (.val (.int a1)) → ls[2]? = some (.val (.int a2)) → J5 o6 x7 → W p l e ({ frames := 1, cells := 0, slots := 0, locals := 22 } : Room) s m args below meth c H locs 0 0 (MQ below (QI G Q) args s 0 0 G.2.2.1) (F0 m 14 ls [.int x7, va_rf o6]) := by
    intro o6 x7 ls hL h0 h1 h2 hw
    rw [eJ5] at hw
    obtain ⟨b8, ho8, hw⟩ := hw
    obtain ⟨hk9, hw⟩ := hw
    refine m_putI C hW hS ho8 hk9 p_X12_124 (fun z => by cases z) rfl dX12_state_14 (fun H locs hW hS => ?_)
    refine m_aldN C dX12_state_17 rfl h0 ?_
    obtain ⟨hk10, hw⟩ := hw
    refine m_getI C hW rfl hk10 f_X12_124 rfl dX12_state_18 ?_
    refine lv_if_le (tgt := 26) C.1 C.2.1 dX12_state_21 (by decide) (fun hc11 => ?_) (fun hc11 => ?_)
    · have hw := hw.1 hc11
      refine lv_iload_n C.1 C.2.1 dX12_state_26 rfl h2 ?_
      by_cases hc16 : a2 = 0
      · have hw := hw.1 hc16
        refine lv_tableIn (tgt := 72) (off := 45) C.1 C.2.1 dX12_state_27 (by rw [hc16]; decide) (by rw [hc16]; decide) (by rw [hc16]; rfl) (by decide) ?_
        refine m_aldN C dX12_state_72 rfl h0 ?_
        refine m_getI C hW rfl hk10 f_X12_131 rfl dX12_state_73 ?_
        refine lv_if_eq (tgt := 88) C.1 C.2.1 dX12_state_76 (by decide) (fun hc12 => ?_) (fun hc12 => ?_)
        · have hw := hw.1 hc12
          refine lv_iconst (v := 0) C.1 C.2.1 dX12_state_88 (by decide) ?_
          exact m_iret C hW hS hw dX12_state_89
        · have hw := hw.2 hc12
          refine m_aldN C dX12_state_79 rfl h0 ?_
          refine m_getR C hW rfl hk10 f_X12_63 rfl dX12_state_80 ?_
          refine lv_iload_n C.1 C.2.1 dX12_state_83 rfl h1 ?_
          obtain ⟨b13, ho13, hw⟩ := hw
          obtain ⟨hk14, hw⟩ := hw
          obtain ⟨hi15, hw⟩ := hw
          refine m_iald C hW ho13 hk14 hi15 dX12_state_84 ?_
          refine lv_goto (tgt := 89) C.1 C.2.1 dX12_state_85 (by decide) ?_
          exact m_iret C hW hS hw dX12_state_89
      · have hw := hw.2 hc16
        by_cases hc21 : a2 = 1
        · have hw := hw.1 hc21
          refine lv_tableIn (tgt := 90) (off := 63) C.1 C.2.1 dX12_state_27 (by rw [hc21]; decide) (by rw [hc21]; decide) (by rw [hc21]; rfl) (by decide) ?_
          refine m_aldN C dX12_state_90 rfl h0 ?_
          refine m_getI C hW rfl hk10 f_X12_131 rfl dX12_state_91 ?_
          refine lv_if_eq (tgt := 106) C.1 C.2.1 dX12_state_94 (by decide) (fun hc17 => ?_) (fun hc17 => ?_)
          · have hw := hw.1 hc17
            refine lv_iconst (v := (-1)) C.1 C.2.1 dX12_state_106 (by decide) ?_
            exact m_iret C hW hS hw dX12_state_107
          · have hw := hw.2 hc17
            refine m_aldN C dX12_state_97 rfl h0 ?_
            refine m_getR C hW rfl hk10 f_X12_66 rfl dX12_state_98 ?_
            refine lv_iload_n C.1 C.2.1 dX12_state_101 rfl h1 ?_
            obtain ⟨b18, ho18, hw⟩ := hw
            obtain ⟨hk19, hw⟩ := hw
            obtain ⟨hi20, hw⟩ := hw
            refine m_iald C hW ho18 hk19 hi20 dX12_state_102 ?_
            refine lv_goto (tgt := 107) C.1 C.2.1 dX12_state_103 (by decide) ?_
            exact m_iret C hW hS hw dX12_state_107
        · have hw := hw.2 hc21
          by_cases hc26 : a2 = 2
          · have hw := hw.1 hc26
            refine lv_tableIn (tgt := 108) (off := 81) C.1 C.2.1 dX12_state_27 (by rw [hc26]; decide) (by rw [hc26]; decide) (by rw [hc26]; rfl) (by decide) ?_
            refine m_aldN C dX12_state_108 rfl h0 ?_
            refine m_getI C hW rfl hk10 f_X12_131 rfl dX12_state_109 ?_
            refine lv_if_eq (tgt := 124) C.1 C.2.1 dX12_state_112 (by decide) (fun hc22 => ?_) (fun hc22 => ?_)
            · have hw := hw.1 hc22
              refine lv_iconst (v := (-1)) C.1 C.2.1 dX12_state_124 (by decide) ?_
              exact m_iret C hW hS hw dX12_state_125
            · have hw := hw.2 hc22
              refine m_aldN C dX12_state_115 rfl h0 ?_
              refine m_getR C hW rfl hk10 f_X12_69 rfl dX12_state_116 ?_
              refine lv_iload_n C.1 C.2.1 dX12_state_119 rfl h1 ?_
              obtain ⟨b23, ho23, hw⟩ := hw
              obtain ⟨hk24, hw⟩ := hw
              obtain ⟨hi25, hw⟩ := hw
              refine m_iald C hW ho23 hk24 hi25 dX12_state_120 ?_
              refine lv_goto (tgt := 125) C.1 C.2.1 dX12_state_121 (by decide) ?_
              exact m_iret C hW hS hw dX12_state_125
          · have hw := hw.2 hc26
            by_cases hc31 : a2 = 3
            · have hw := hw.1 hc31
              refine lv_tableIn (tgt := 126) (off := 99) C.1 C.2.1 dX12_state_27 (by rw [hc31]; decide) (by rw [hc31]; decide) (by rw [hc31]; rfl) (by decide) ?_
              refine m_aldN C dX12_state_126 rfl h0 ?_
              refine m_getI C hW rfl hk10 f_X12_131 rfl dX12_state_127 ?_
              refine lv_if_eq (tgt := 142) C.1 C.2.1 dX12_state_130 (by decide) (fun hc27 => ?_) (fun hc27 => ?_)
              · have hw := hw.1 hc27
                refine lv_iconst (v := (-1)) C.1 C.2.1 dX12_state_142 (by decide) ?_
                exact m_iret C hW hS hw dX12_state_143
              · have hw := hw.2 hc27
                refine m_aldN C dX12_state_133 rfl h0 ?_
                refine m_getR C hW rfl hk10 f_X12_72 rfl dX12_state_134 ?_
                refine lv_iload_n C.1 C.2.1 dX12_state_137 rfl h1 ?_
                obtain ⟨b28, ho28, hw⟩ := hw
                obtain ⟨hk29, hw⟩ := hw
                obtain ⟨hi30, hw⟩ := hw
                refine m_iald C hW ho28 hk29 hi30 dX12_state_138 ?_
                refine lv_goto (tgt := 143) C.1 C.2.1 dX12_state_139 (by decide) ?_
                exact m_iret C hW hS hw dX12_state_143
            · have hw := hw.2 hc31
              by_cases hc35 : a2 = 4
              · have hw := hw.1 hc35
                refine lv_tableIn (tgt := 144) (off := 117) C.1 C.2.1 dX12_state_27 (by rw [hc35]; decide) (by rw [hc35]; decide) (by rw [hc35]; rfl) (by decide) ?_
                refine m_aldN C dX12_state_144 rfl h0 ?_
                refine m_getI C hW rfl hk10 f_X12_131 rfl dX12_state_145 ?_
                refine lv_if_eq (tgt := 159) C.1 C.2.1 dX12_state_148 (by decide) (fun hc32 => ?_) (fun hc32 => ?_)
                · have hw := hw.1 hc32
                  refine lv_iconst (v := 0) C.1 C.2.1 dX12_state_159 (by decide) ?_
                  exact m_iret C hW hS hw dX12_state_160
                · have hw := hw.2 hc32
                  refine m_aldN C dX12_state_151 rfl h0 ?_
                  refine lv_iload_n C.1 C.2.1 dX12_state_152 rfl h1 ?_
                  refine m_rI (m_runV (As := [.int a1]) (rest := []) C hW hS hL (c_X12_farOf hw) v_X12_215 ⟨rfl, rfl⟩ ⟨Nat.le_of_ble_eq_true rfl, Nat.le_of_ble_eq_true rfl⟩ rfl hk10 rfl rfl (Nat.le_of_ble_eq_true rfl) dX12_state_153 ⟨Nat.le_of_ble_eq_true rfl, Nat.le_of_ble_eq_true rfl⟩) hS (fun r34 S33 H locs hw hW hS => ?_)
                  refine lv_goto (tgt := 160) C.1 C.2.1 dX12_state_156 (by decide) ?_
                  exact m_iret C hW hS hw dX12_state_160
              · have hw := hw.2 hc35
                by_cases hc40 : a2 = 5
                · have hw := hw.1 hc40
                  refine lv_tableIn (tgt := 161) (off := 134) C.1 C.2.1 dX12_state_27 (by rw [hc40]; decide) (by rw [hc40]; decide) (by rw [hc40]; rfl) (by decide) ?_
                  refine m_aldN C dX12_state_161 rfl h0 ?_
                  refine m_getI C hW rfl hk10 f_X12_131 rfl dX12_state_162 ?_
                  refine lv_if_eq (tgt := 177) C.1 C.2.1 dX12_state_165 (by decide) (fun hc36 => ?_) (fun hc36 => ?_)
                  · have hw := hw.1 hc36
                    refine lv_iconst (v := 0) C.1 C.2.1 dX12_state_177 (by decide) ?_
                    exact m_iret C hW hS hw dX12_state_178
                  · have hw := hw.2 hc36
                    refine m_aldN C dX12_state_168 rfl h0 ?_
                    refine m_getR C hW rfl hk10 f_X12_75 rfl dX12_state_169 ?_
                    refine lv_iload_n C.1 C.2.1 dX12_state_172 rfl h1 ?_
                    obtain ⟨b37, ho37, hw⟩ := hw
                    obtain ⟨hk38, hw⟩ := hw
                    obtain ⟨hi39, hw⟩ := hw
                    refine m_iald C hW ho37 hk38 hi39 dX12_state_173 ?_
                    refine lv_goto (tgt := 178) C.1 C.2.1 dX12_state_174 (by decide) ?_
                    exact m_iret C hW hS hw dX12_state_178
                · have hw := hw.2 hc40
                  by_cases hc49 : a2 = 6
                  · have hw := hw.1 hc49
                    refine lv_tableIn (tgt := 179) (off := 152) C.1 C.2.1 dX12_state_27 (by rw [hc49]; decide) (by rw [hc49]; decide) (by rw [hc49]; rfl) (by decide) ?_
                    refine m_aldN C dX12_state_179 rfl h0 ?_
                    refine m_getI C hW rfl hk10 f_X12_131 rfl dX12_state_180 ?_
                    refine lv_if_eq (tgt := 205) C.1 C.2.1 dX12_state_183 (by decide) (fun hc41 => ?_) (fun hc41 => ?_)
                    · have hw := hw.1 hc41
                      refine lv_iconst (v := 0) C.1 C.2.1 dX12_state_205 (by decide) ?_
                      exact m_iret C hW hS hw dX12_state_206
                    · have hw := hw.2 hc41
                      refine m_aldN C dX12_state_186 rfl h0 ?_
                      refine m_getR C hW rfl hk10 f_X12_63 rfl dX12_state_187 ?_
                      refine lv_iload_n C.1 C.2.1 dX12_state_190 rfl h1 ?_
                      obtain ⟨b42, ho42, hw⟩ := hw
                      obtain ⟨hk43, hw⟩ := hw
                      obtain ⟨hi44, hw⟩ := hw
                      refine m_iald C hW ho42 hk43 hi44 dX12_state_191 ?_
                      refine lv_iconst (v := 2) C.1 C.2.1 dX12_state_192 (by decide) ?_
                      refine lv_icmp_ne (tgt := 205) C.1 C.2.1 dX12_state_193 (by decide) (fun hc45 => ?_) (fun hc45 => ?_)
                      · have hw := hw.2 hc45
                        refine lv_iconst (v := 0) C.1 C.2.1 dX12_state_205 (by decide) ?_
                        exact m_iret C hW hS hw dX12_state_206
                      · have hw := hw.1 hc45
                        refine m_aldN C dX12_state_196 rfl h0 ?_
                        refine m_getR C hW rfl hk10 f_X12_78 rfl dX12_state_197 ?_
                        refine lv_iload_n C.1 C.2.1 dX12_state_200 rfl h1 ?_
                        obtain ⟨b46, ho46, hw⟩ := hw
                        obtain ⟨hk47, hw⟩ := hw
                        obtain ⟨hi48, hw⟩ := hw
                        refine m_iald C hW ho46 hk47 hi48 dX12_state_201 ?_
                        refine lv_goto (tgt := 206) C.1 C.2.1 dX12_state_202 (by decide) ?_
                        exact m_iret C hW hS hw dX12_state_206
                  · have hw := hw.2 hc49
                    by_cases hc53 : a2 = 7
                    · have hw := hw.1 hc53
                      refine lv_tableIn (tgt := 207) (off := 180) C.1 C.2.1 dX12_state_27 (by rw [hc53]; decide) (by rw [hc53]; decide) (by rw [hc53]; rfl) (by decide) ?_
                      refine m_aldN C dX12_state_207 rfl h0 ?_
                      refine m_getI C hW rfl hk10 f_X12_131 rfl dX12_state_208 ?_
                      refine lv_if_eq (tgt := 222) C.1 C.2.1 dX12_state_211 (by decide) (fun hc50 => ?_) (fun hc50 => ?_)
                      · have hw := hw.1 hc50
                        refine lv_iconst (v := (-1)) C.1 C.2.1 dX12_state_222 (by decide) ?_
                        exact m_iret C hW hS hw dX12_state_223
                      · have hw := hw.2 hc50
                        refine m_aldN C dX12_state_214 rfl h0 ?_
                        refine lv_iload_n C.1 C.2.1 dX12_state_215 rfl h1 ?_
                        refine m_rI (m_runV (As := [.int a1]) (rest := []) C hW hS hL (c_X12_causeOf hw) v_X12_288 ⟨rfl, rfl⟩ ⟨Nat.le_of_ble_eq_true rfl, Nat.le_of_ble_eq_true rfl⟩ rfl hk10 rfl rfl (Nat.le_of_ble_eq_true rfl) dX12_state_216 ⟨Nat.le_of_ble_eq_true rfl, Nat.le_of_ble_eq_true rfl⟩) hS (fun r52 S51 H locs hw hW hS => ?_)
                        refine lv_goto (tgt := 223) C.1 C.2.1 dX12_state_219 (by decide) ?_
                        exact m_iret C hW hS hw dX12_state_223
                    · have hw := hw.2 hc53
                      refine lv_tableOut (tgt := 224) C.1 C.2.1 dX12_state_27 (tsw_out 0 7 (fun v h1 h2 => ?_)) (by decide) ?_
                      · have : v = 0 ∨ v = 1 ∨ v = 2 ∨ v = 3 ∨ v = 4 ∨ v = 5 ∨ v = 6 ∨ v = 7 := by omega
                        rcases this with rfl | rfl | rfl | rfl | rfl | rfl | rfl | rfl
                        · exact lv_neT hc16 (by decide)
                        · exact lv_neT hc21 (by decide)
                        · exact lv_neT hc26 (by decide)
                        · exact lv_neT hc31 (by decide)
                        · exact lv_neT hc35 (by decide)
                        · exact lv_neT hc40 (by decide)
                        · exact lv_neT hc49 (by decide)
                        · exact lv_neT hc53 (by decide)
                      · refine lv_iconst (v := (-1)) C.1 C.2.1 dX12_state_224 (by decide) ?_
                        exact m_iret C hW hS hw dX12_state_225
    · have hw := hw.2 hc11
      refine lv_iconst (v := 0) C.1 C.2.1 dX12_state_24 (by decide) ?_
      exact m_iret C hW hS hw dX12_state_25
  refine lv_if_eq (tgt := 13) C.1 C.2.1 dX12_state_6 (by decide) (fun hc4 => ?_) (fun hc4 => ?_)
  · have hw := hw.1 hc4
    refine lv_iconst (v := 1) C.1 C.2.1 dX12_state_13 (by decide) ?_
    exact wJ5 (some a0) 1 ls hL h0 h1 h2 hw
  · have hw := hw.2 hc4
    refine lv_iconst (v := 0) C.1 C.2.1 dX12_state_9 (by decide) ?_
    refine lv_goto (tgt := 14) C.1 C.2.1 dX12_state_10 (by decide) ?_
    exact wJ5 (some a0) 0 ls hL h0 h1 h2 hw
def wp_X12_result (S : Hp) (a0 : Nat) (a1 : Int32) (Q : Int32 → Hp → Prop) : Prop := hK S a0 = 14 ∧ wp_X12_isJob S a0 a1 (fun r3 S2 => ∃ J5 : Option Nat → Int32 → Prop, J5 = (fun (o6 : Option Nat) (x7 : Int32) => ∃ b8 : Nat, o6 = some b8 ∧ hK S2 b8 = 14 ∧ hK (sI S2 b8 0 x7) a0 = 14 ∧ (0 < (hI (sI S2 b8 0 x7) a0 0) → Q 0 (sI S2 b8 0 x7)) ∧ (¬ (0 < (hI (sI S2 b8 0 x7) a0 0)) → ((hI (sI S2 b8 0 x7) a0 22) = 0 → Q 0 (sI S2 b8 0 x7)) ∧ (¬ ((hI (sI S2 b8 0 x7) a0 22) = 0) → ∃ b13 : Nat, (hR (sI S2 b8 0 x7) a0 26) = some b13 ∧ hK (sI S2 b8 0 x7) b13 = 15 ∧ vp_in a1 (hN (sI S2 b8 0 x7) b13) ∧ ((hI (sI S2 b8 0 x7) b13 (a1 : Int32).toNatClampNeg) = 1 → wp_X12_bodyOf (sI S2 b8 0 x7) a0 a1 (fun r18 S17 => hK S17 a0 = 14 ∧ Q (hI S17 a0 41) S17)) ∧ (¬ ((hI (sI S2 b8 0 x7) b13 (a1 : Int32).toNatClampNeg) = 1) → Q 0 (sI S2 b8 0 x7))))) ∧ (r3 = 0 → J5 (some a0) 1) ∧ (¬ (r3 = 0) → J5 (some a0) 0))
set_option maxRecDepth 100000 in
set_option maxHeartbeats 4000000 in
theorem c_X12_result {l : Launch} {G : GX} {S : Hp} {a0 : Nat} {a1 : Int32} {Q : Int32 → Hp → Prop} (hw : wp_X12_result S a0 a1 Q) : Met l yX12_result (Cond.code yX12_result cX12_result 2 (some .int) :: TS) { frames := 4, cells := 0, slots := 0, locals := 97 } (Pk G S [va_rf (some a0), .int a1]) (QI G Q) 0 0 G.2.2.1 := by
  refine m_met (by decide) ?_
  intro p e s m below meth c H locs C hW hS
  have C : Cx p s m ([va_rf (some a0), .int a1] : List Value).toArray meth c cX12_result 2 RX12 (some .int) "result" G := C
  obtain ⟨ls, hent, hL, hla⟩ := m_entry m (vs := [va_rf (some a0), .int a1]) (nn := 2) [1, 1] rfl (by decide)
  rw [hent]
  have h0 : ls[0]? = some (.val (va_rf (some a0))) := hla (0, va_rf (some a0)) (List.mem_of_getElem? (i := 0) rfl)
  have h1 : ls[1]? = some (.val (.int a1)) := hla (1, .int a1) (List.mem_of_getElem? (i := 1) rfl)
  clear hla
  generalize ([va_rf (some a0), .int a1] : List Value).toArray = args at C ⊢
  unfold wp_X12_result at hw
  refine m_aldN C dX12_result_0 rfl h0 ?_
  refine m_aldN C dX12_result_1 rfl h0 ?_
  refine lv_iload_n C.1 C.2.1 dX12_result_2 rfl h1 ?_
  obtain ⟨hk1, hw⟩ := hw
  refine m_rI (m_runV (As := [.int a1]) (rest := [va_rf (some a0)]) C hW hS hL (c_X12_isJob hw) v_X12_154 ⟨rfl, rfl⟩ ⟨Nat.le_of_ble_eq_true rfl, Nat.le_of_ble_eq_true rfl⟩ rfl hk1 rfl rfl (by simp only [List.map_cons, List.map_nil, va_rf_cat, List.sum_cons, List.sum_nil] <;> exact Nat.le_of_ble_eq_true rfl) dX12_result_3 ⟨Nat.le_of_ble_eq_true rfl, Nat.le_of_ble_eq_true rfl⟩) hS (fun r3 S2 H locs hw hW hS => ?_)
  obtain ⟨J5, eJ5, hw⟩ := hw
  have wJ5 : ∀ (o6 : Option Nat) (x7 : Int32) (ls : Array Slot), LV ls 2 → ls[0]? = some (.val (va_rf (some a0))) → ls[1]? = some (.val (.int a1)) → J5 o6 x7 → W p l e ({ frames := 4, cells := 0, slots := 0, locals := 97 } : Room) s m args below meth c H locs 0 0 (MQ below (QI G Q) args s 0 0 G.2.2.1) (F0 m 14 ls [.int x7, va_rf o6]) := by
    intro o6 x7 ls hL h0 h1 hw
    rw [eJ5] at hw
    obtain ⟨b8, ho8, hw⟩ := hw
    obtain ⟨hk9, hw⟩ := hw
    refine m_putI C hW hS ho8 hk9 p_X12_124 (fun z => by cases z) rfl dX12_result_14 (fun H locs hW hS => ?_)
    refine m_aldN C dX12_result_17 rfl h0 ?_
    obtain ⟨hk10, hw⟩ := hw
    refine m_getI C hW rfl hk10 f_X12_124 rfl dX12_result_18 ?_
    refine lv_if_gt (tgt := 41) C.1 C.2.1 dX12_result_21 (by decide) (fun hc11 => ?_) (fun hc11 => ?_)
    · have hw := hw.1 hc11
      refine lv_iconst (v := 0) C.1 C.2.1 dX12_result_41 (by decide) ?_
      exact m_iret C hW hS hw dX12_result_42
    · have hw := hw.2 hc11
      refine m_aldN C dX12_result_24 rfl h0 ?_
      refine m_getI C hW rfl hk10 f_X12_131 rfl dX12_result_25 ?_
      refine lv_if_eq (tgt := 41) C.1 C.2.1 dX12_result_28 (by decide) (fun hc12 => ?_) (fun hc12 => ?_)
      · have hw := hw.1 hc12
        refine lv_iconst (v := 0) C.1 C.2.1 dX12_result_41 (by decide) ?_
        exact m_iret C hW hS hw dX12_result_42
      · have hw := hw.2 hc12
        refine m_aldN C dX12_result_31 rfl h0 ?_
        refine m_getR C hW rfl hk10 f_X12_63 rfl dX12_result_32 ?_
        refine lv_iload_n C.1 C.2.1 dX12_result_35 rfl h1 ?_
        obtain ⟨b13, ho13, hw⟩ := hw
        obtain ⟨hk14, hw⟩ := hw
        obtain ⟨hi15, hw⟩ := hw
        refine m_iald C hW ho13 hk14 hi15 dX12_result_36 ?_
        refine lv_iconst (v := 1) C.1 C.2.1 dX12_result_37 (by decide) ?_
        refine lv_icmp_eq (tgt := 43) C.1 C.2.1 dX12_result_38 (by decide) (fun hc16 => ?_) (fun hc16 => ?_)
        · have hw := hw.1 hc16
          refine m_aldN C dX12_result_43 rfl h0 ?_
          refine lv_iload_n C.1 C.2.1 dX12_result_44 rfl h1 ?_
          refine m_rI (m_runV (As := [.int a1]) (rest := []) C hW hS hL (c_X12_bodyOf hw) v_X12_222 ⟨rfl, rfl⟩ ⟨Nat.le_of_ble_eq_true rfl, Nat.le_of_ble_eq_true rfl⟩ rfl hk10 rfl rfl (Nat.le_of_ble_eq_true rfl) dX12_result_45 ⟨Nat.le_of_ble_eq_true rfl, Nat.le_of_ble_eq_true rfl⟩) hS (fun r18 S17 H locs hw hW hS => ?_)
          refine lv_pop C.1 C.2.1 dX12_result_48 (rfl) ?_
          refine m_aldN C dX12_result_49 rfl h0 ?_
          obtain ⟨hk19, hw⟩ := hw
          refine m_getI C hW rfl hk19 f_X12_163 rfl dX12_result_50 ?_
          exact m_iret C hW hS hw dX12_result_53
        · have hw := hw.2 hc16
          refine lv_iconst (v := 0) C.1 C.2.1 dX12_result_41 (by decide) ?_
          exact m_iret C hW hS hw dX12_result_42
  refine lv_if_eq (tgt := 13) C.1 C.2.1 dX12_result_6 (by decide) (fun hc4 => ?_) (fun hc4 => ?_)
  · have hw := hw.1 hc4
    refine lv_iconst (v := 1) C.1 C.2.1 dX12_result_13 (by decide) ?_
    exact wJ5 (some a0) 1 ls hL h0 h1 hw
  · have hw := hw.2 hc4
    refine lv_iconst (v := 0) C.1 C.2.1 dX12_result_9 (by decide) ?_
    refine lv_goto (tgt := 14) C.1 C.2.1 dX12_result_10 (by decide) ?_
    exact wJ5 (some a0) 0 ls hL h0 h1 hw
def wp_X12_part (S : Hp) (a0 : Nat) (a1 : Int32) (a2 : Int32) (Q : Int64 → Hp → Prop) : Prop := hK S a0 = 14 ∧ wp_X12_isJob S a0 a1 (fun r3 S2 => ∃ J5 : Option Nat → Int32 → Prop, J5 = (fun (o6 : Option Nat) (x7 : Int32) => ∃ b8 : Nat, o6 = some b8 ∧ hK S2 b8 = 14 ∧ hK (sI S2 b8 0 x7) a0 = 14 ∧ (0 < (hI (sI S2 b8 0 x7) a0 0) → Q 0 (sI S2 b8 0 x7)) ∧ (¬ (0 < (hI (sI S2 b8 0 x7) a0 0)) → ((hI (sI S2 b8 0 x7) a0 22) = 0 → Q 0 (sI S2 b8 0 x7)) ∧ (¬ ((hI (sI S2 b8 0 x7) a0 22) = 0) → ∃ b13 : Nat, (hR (sI S2 b8 0 x7) a0 26) = some b13 ∧ hK (sI S2 b8 0 x7) b13 = 15 ∧ vp_in a1 (hN (sI S2 b8 0 x7) b13) ∧ ((hI (sI S2 b8 0 x7) b13 (a1 : Int32).toNatClampNeg) = 1 → (a2 < 0 → Q 0 (sI S2 b8 0 x7)) ∧ (¬ (a2 < 0) → (a2 < 30 → wp_X12_bodyOf (sI S2 b8 0 x7) a0 a1 (fun r20 S19 => hK S19 a0 = 14 ∧ ∃ b22 : Nat, (hR S19 a0 40) = some b22 ∧ hK S19 b22 = 16 ∧ vp_in a2 (hN S19 b22) ∧ Q (hJ S19 b22 (a2 : Int32).toNatClampNeg) S19)) ∧ (¬ (a2 < 30) → Q 0 (sI S2 b8 0 x7)))) ∧ (¬ ((hI (sI S2 b8 0 x7) b13 (a1 : Int32).toNatClampNeg) = 1) → Q 0 (sI S2 b8 0 x7))))) ∧ (r3 = 0 → J5 (some a0) 1) ∧ (¬ (r3 = 0) → J5 (some a0) 0))
set_option maxRecDepth 100000 in
set_option maxHeartbeats 4000000 in
theorem c_X12_part {l : Launch} {G : GX} {S : Hp} {a0 : Nat} {a1 : Int32} {a2 : Int32} {Q : Int64 → Hp → Prop} (hw : wp_X12_part S a0 a1 a2 Q) : Met l yX12_part (Cond.code yX12_part cX12_part 3 (some .long) :: TS) { frames := 4, cells := 0, slots := 0, locals := 97 } (Pk G S [va_rf (some a0), .int a1, .int a2]) (QL G Q) 0 0 G.2.2.1 := by
  refine m_met (by decide) ?_
  intro p e s m below meth c H locs C hW hS
  have C : Cx p s m ([va_rf (some a0), .int a1, .int a2] : List Value).toArray meth c cX12_part 3 RX12 (some .long) "part" G := C
  obtain ⟨ls, hent, hL, hla⟩ := m_entry m (vs := [va_rf (some a0), .int a1, .int a2]) (nn := 3) [1, 1, 1] rfl (by decide)
  rw [hent]
  have h0 : ls[0]? = some (.val (va_rf (some a0))) := hla (0, va_rf (some a0)) (List.mem_of_getElem? (i := 0) rfl)
  have h1 : ls[1]? = some (.val (.int a1)) := hla (1, .int a1) (List.mem_of_getElem? (i := 1) rfl)
  have h2 : ls[2]? = some (.val (.int a2)) := hla (2, .int a2) (List.mem_of_getElem? (i := 2) rfl)
  clear hla
  generalize ([va_rf (some a0), .int a1, .int a2] : List Value).toArray = args at C ⊢
  unfold wp_X12_part at hw
  refine m_aldN C dX12_part_0 rfl h0 ?_
  refine m_aldN C dX12_part_1 rfl h0 ?_
  refine lv_iload_n C.1 C.2.1 dX12_part_2 rfl h1 ?_
  obtain ⟨hk1, hw⟩ := hw
  refine m_rI (m_runV (As := [.int a1]) (rest := [va_rf (some a0)]) C hW hS hL (c_X12_isJob hw) v_X12_154 ⟨rfl, rfl⟩ ⟨Nat.le_of_ble_eq_true rfl, Nat.le_of_ble_eq_true rfl⟩ rfl hk1 rfl rfl (by simp only [List.map_cons, List.map_nil, va_rf_cat, List.sum_cons, List.sum_nil] <;> exact Nat.le_of_ble_eq_true rfl) dX12_part_3 ⟨Nat.le_of_ble_eq_true rfl, Nat.le_of_ble_eq_true rfl⟩) hS (fun r3 S2 H locs hw hW hS => ?_)
  obtain ⟨J5, eJ5, hw⟩ := hw
  have wJ5 : ∀ (o6 : Option Nat) (x7 : Int32) (ls : Array Slot), LV ls 3 → ls[0]? = some (.val (va_rf (some a0))) → ls[1]? = some (.val (.int a1)) → ls[2]? = some (.val (.int a2)) → J5 o6 x7 → W p l e ({ frames := 4, cells := 0, slots := 0, locals := 97 } : Room) s m args below meth c H locs 0 0 (MQ below (QL G Q) args s 0 0 G.2.2.1) (F0 m 14 ls [.int x7, va_rf o6]) := by
    intro o6 x7 ls hL h0 h1 h2 hw
    rw [eJ5] at hw
    obtain ⟨b8, ho8, hw⟩ := hw
    obtain ⟨hk9, hw⟩ := hw
    refine m_putI C hW hS ho8 hk9 p_X12_124 (fun z => by cases z) rfl dX12_part_14 (fun H locs hW hS => ?_)
    refine m_aldN C dX12_part_17 rfl h0 ?_
    obtain ⟨hk10, hw⟩ := hw
    refine m_getI C hW rfl hk10 f_X12_124 rfl dX12_part_18 ?_
    refine lv_if_gt (tgt := 51) C.1 C.2.1 dX12_part_21 (by decide) (fun hc11 => ?_) (fun hc11 => ?_)
    · have hw := hw.1 hc11
      refine lv_lconst (v := 0) C.1 C.2.1 dX12_part_51 (by decide) ?_
      exact m_lret C hW hS hw dX12_part_52
    · have hw := hw.2 hc11
      refine m_aldN C dX12_part_24 rfl h0 ?_
      refine m_getI C hW rfl hk10 f_X12_131 rfl dX12_part_25 ?_
      refine lv_if_eq (tgt := 51) C.1 C.2.1 dX12_part_28 (by decide) (fun hc12 => ?_) (fun hc12 => ?_)
      · have hw := hw.1 hc12
        refine lv_lconst (v := 0) C.1 C.2.1 dX12_part_51 (by decide) ?_
        exact m_lret C hW hS hw dX12_part_52
      · have hw := hw.2 hc12
        refine m_aldN C dX12_part_31 rfl h0 ?_
        refine m_getR C hW rfl hk10 f_X12_63 rfl dX12_part_32 ?_
        refine lv_iload_n C.1 C.2.1 dX12_part_35 rfl h1 ?_
        obtain ⟨b13, ho13, hw⟩ := hw
        obtain ⟨hk14, hw⟩ := hw
        obtain ⟨hi15, hw⟩ := hw
        refine m_iald C hW ho13 hk14 hi15 dX12_part_36 ?_
        refine lv_iconst (v := 1) C.1 C.2.1 dX12_part_37 (by decide) ?_
        refine lv_icmp_ne (tgt := 51) C.1 C.2.1 dX12_part_38 (by decide) (fun hc16 => ?_) (fun hc16 => ?_)
        · have hw := hw.2 hc16
          refine lv_lconst (v := 0) C.1 C.2.1 dX12_part_51 (by decide) ?_
          exact m_lret C hW hS hw dX12_part_52
        · have hw := hw.1 hc16
          refine lv_iload_n C.1 C.2.1 dX12_part_41 rfl h2 ?_
          refine lv_if_lt (tgt := 51) C.1 C.2.1 dX12_part_42 (by decide) (fun hc17 => ?_) (fun hc17 => ?_)
          · have hw := hw.1 hc17
            refine lv_lconst (v := 0) C.1 C.2.1 dX12_part_51 (by decide) ?_
            exact m_lret C hW hS hw dX12_part_52
          · have hw := hw.2 hc17
            refine lv_iload_n C.1 C.2.1 dX12_part_45 rfl h2 ?_
            refine lv_bipush (v := 30) C.1 C.2.1 dX12_part_46 (by decide) ?_
            refine lv_icmp_lt (tgt := 53) C.1 C.2.1 dX12_part_48 (by decide) (fun hc18 => ?_) (fun hc18 => ?_)
            · have hw := hw.1 hc18
              refine m_aldN C dX12_part_53 rfl h0 ?_
              refine lv_iload_n C.1 C.2.1 dX12_part_54 rfl h1 ?_
              refine m_rI (m_runV (As := [.int a1]) (rest := []) C hW hS hL (c_X12_bodyOf hw) v_X12_222 ⟨rfl, rfl⟩ ⟨Nat.le_of_ble_eq_true rfl, Nat.le_of_ble_eq_true rfl⟩ rfl hk10 rfl rfl (Nat.le_of_ble_eq_true rfl) dX12_part_55 ⟨Nat.le_of_ble_eq_true rfl, Nat.le_of_ble_eq_true rfl⟩) hS (fun r20 S19 H locs hw hW hS => ?_)
              refine lv_pop C.1 C.2.1 dX12_part_58 (rfl) ?_
              refine m_aldN C dX12_part_59 rfl h0 ?_
              obtain ⟨hk21, hw⟩ := hw
              refine m_getR C hW rfl hk21 f_X12_103 rfl dX12_part_60 ?_
              refine lv_iload_n C.1 C.2.1 dX12_part_63 rfl h2 ?_
              obtain ⟨b22, ho22, hw⟩ := hw
              obtain ⟨hk23, hw⟩ := hw
              obtain ⟨hi24, hw⟩ := hw
              refine m_lald C hW ho22 hk23 hi24 dX12_part_64 ?_
              exact m_lret C hW hS hw dX12_part_65
            · have hw := hw.2 hc18
              refine lv_lconst (v := 0) C.1 C.2.1 dX12_part_51 (by decide) ?_
              exact m_lret C hW hS hw dX12_part_52
  refine lv_if_eq (tgt := 13) C.1 C.2.1 dX12_part_6 (by decide) (fun hc4 => ?_) (fun hc4 => ?_)
  · have hw := hw.1 hc4
    refine lv_iconst (v := 1) C.1 C.2.1 dX12_part_13 (by decide) ?_
    exact wJ5 (some a0) 1 ls hL h0 h1 h2 hw
  · have hw := hw.2 hc4
    refine lv_iconst (v := 0) C.1 C.2.1 dX12_part_9 (by decide) ?_
    refine lv_goto (tgt := 14) C.1 C.2.1 dX12_part_10 (by decide) ?_
    exact wJ5 (some a0) 0 ls hL h0 h1 h2 hw
def wp_X12_check (S : Hp) (a0 : Nat) (a1 : Int32) (Q : Int32 → Hp → Prop) : Prop := hK S a0 = 14 ∧ wp_X12_isJob S a0 a1 (fun r3 S2 => ∃ J5 : Option Nat → Int32 → Prop, J5 = (fun (o6 : Option Nat) (x7 : Int32) => ∃ b8 : Nat, o6 = some b8 ∧ hK S2 b8 = 14 ∧ hK (sI S2 b8 0 x7) a0 = 14 ∧ ((hI (sI S2 b8 0 x7) a0 0) ≤ 0 → wp_X12_bodyOf (sI S2 b8 0 x7) a0 a1 (fun r13 S12 => Q r13 S12)) ∧ (¬ ((hI (sI S2 b8 0 x7) a0 0) ≤ 0) → Q 0 (sI S2 b8 0 x7))) ∧ (r3 = 0 → J5 (some a0) 1) ∧ (¬ (r3 = 0) → J5 (some a0) 0))
set_option maxRecDepth 100000 in
set_option maxHeartbeats 4000000 in
theorem c_X12_check {l : Launch} {G : GX} {S : Hp} {a0 : Nat} {a1 : Int32} {Q : Int32 → Hp → Prop} (hw : wp_X12_check S a0 a1 Q) : Met l yX12_check (Cond.code yX12_check cX12_check 2 (some .int) :: TS) { frames := 4, cells := 0, slots := 0, locals := 97 } (Pk G S [va_rf (some a0), .int a1]) (QI G Q) 0 0 G.2.2.1 := by
  refine m_met (by decide) ?_
  intro p e s m below meth c H locs C hW hS
  have C : Cx p s m ([va_rf (some a0), .int a1] : List Value).toArray meth c cX12_check 2 RX12 (some .int) "check" G := C
  obtain ⟨ls, hent, hL, hla⟩ := m_entry m (vs := [va_rf (some a0), .int a1]) (nn := 2) [1, 1] rfl (by decide)
  rw [hent]
  have h0 : ls[0]? = some (.val (va_rf (some a0))) := hla (0, va_rf (some a0)) (List.mem_of_getElem? (i := 0) rfl)
  have h1 : ls[1]? = some (.val (.int a1)) := hla (1, .int a1) (List.mem_of_getElem? (i := 1) rfl)
  clear hla
  generalize ([va_rf (some a0), .int a1] : List Value).toArray = args at C ⊢
  unfold wp_X12_check at hw
  refine m_aldN C dX12_check_0 rfl h0 ?_
  refine m_aldN C dX12_check_1 rfl h0 ?_
  refine lv_iload_n C.1 C.2.1 dX12_check_2 rfl h1 ?_
  obtain ⟨hk1, hw⟩ := hw
  refine m_rI (m_runV (As := [.int a1]) (rest := [va_rf (some a0)]) C hW hS hL (c_X12_isJob hw) v_X12_154 ⟨rfl, rfl⟩ ⟨Nat.le_of_ble_eq_true rfl, Nat.le_of_ble_eq_true rfl⟩ rfl hk1 rfl rfl (by simp only [List.map_cons, List.map_nil, va_rf_cat, List.sum_cons, List.sum_nil] <;> exact Nat.le_of_ble_eq_true rfl) dX12_check_3 ⟨Nat.le_of_ble_eq_true rfl, Nat.le_of_ble_eq_true rfl⟩) hS (fun r3 S2 H locs hw hW hS => ?_)
  obtain ⟨J5, eJ5, hw⟩ := hw
  have wJ5 : ∀ (o6 : Option Nat) (x7 : Int32) (ls : Array Slot), LV ls 2 → ls[0]? = some (.val (va_rf (some a0))) → ls[1]? = some (.val (.int a1)) → J5 o6 x7 → W p l e ({ frames := 4, cells := 0, slots := 0, locals := 97 } : Room) s m args below meth c H locs 0 0 (MQ below (QI G Q) args s 0 0 G.2.2.1) (F0 m 14 ls [.int x7, va_rf o6]) := by
    intro o6 x7 ls hL h0 h1 hw
    rw [eJ5] at hw
    obtain ⟨b8, ho8, hw⟩ := hw
    obtain ⟨hk9, hw⟩ := hw
    refine m_putI C hW hS ho8 hk9 p_X12_124 (fun z => by cases z) rfl dX12_check_14 (fun H locs hW hS => ?_)
    refine m_aldN C dX12_check_17 rfl h0 ?_
    obtain ⟨hk10, hw⟩ := hw
    refine m_getI C hW rfl hk10 f_X12_124 rfl dX12_check_18 ?_
    refine lv_if_le (tgt := 28) C.1 C.2.1 dX12_check_21 (by decide) (fun hc11 => ?_) (fun hc11 => ?_)
    · have hw := hw.1 hc11
      refine m_aldN C dX12_check_28 rfl h0 ?_
      refine lv_iload_n C.1 C.2.1 dX12_check_29 rfl h1 ?_
      refine m_rI (m_runV (As := [.int a1]) (rest := []) C hW hS hL (c_X12_bodyOf hw) v_X12_222 ⟨rfl, rfl⟩ ⟨Nat.le_of_ble_eq_true rfl, Nat.le_of_ble_eq_true rfl⟩ rfl hk10 rfl rfl (Nat.le_of_ble_eq_true rfl) dX12_check_30 ⟨Nat.le_of_ble_eq_true rfl, Nat.le_of_ble_eq_true rfl⟩) hS (fun r13 S12 H locs hw hW hS => ?_)
      exact m_iret C hW hS hw dX12_check_33
    · have hw := hw.2 hc11
      refine lv_iconst (v := 0) C.1 C.2.1 dX12_check_24 (by decide) ?_
      refine lv_goto (tgt := 33) C.1 C.2.1 dX12_check_25 (by decide) ?_
      exact m_iret C hW hS hw dX12_check_33
  refine lv_if_eq (tgt := 13) C.1 C.2.1 dX12_check_6 (by decide) (fun hc4 => ?_) (fun hc4 => ?_)
  · have hw := hw.1 hc4
    refine lv_iconst (v := 1) C.1 C.2.1 dX12_check_13 (by decide) ?_
    exact wJ5 (some a0) 1 ls hL h0 h1 hw
  · have hw := hw.2 hc4
    refine lv_iconst (v := 0) C.1 C.2.1 dX12_check_9 (by decide) ?_
    refine lv_goto (tgt := 14) C.1 C.2.1 dX12_check_10 (by decide) ?_
    exact wJ5 (some a0) 0 ls hL h0 h1 hw
def wp_X12_failures_L9 (S : Hp) (l0 : Nat) (Q : Int32 → Hp → Prop) : Nat → Int32 → Int32 → Prop
  | 0, _, _ => False
  | n + 1, l1, l2 => hK S l0 = 14 ∧ ((hI S l0 4) ≤ l2 → Q l1 S) ∧ (¬ ((hI S l0 4) ≤ l2) → ((hI S l0 22) = 0 → Q l1 S) ∧ (¬ ((hI S l0 22) = 0) → ∃ b5 : Nat, (hR S l0 26) = some b5 ∧ hK S b5 = 15 ∧ vp_in l2 (hN S b5) ∧ ((hI S b5 (l2 : Int32).toNatClampNeg) = 2 → ∀ x10 : Int32, x10 = (l1 + 1) → wp_X12_failures_L9 S l0 Q n x10 (l2 + 1)) ∧ (¬ ((hI S b5 (l2 : Int32).toNatClampNeg) = 2) → ∀ x9 : Int32, x9 = (l1 + 0) → wp_X12_failures_L9 S l0 Q n x9 (l2 + 1))))
def wp_X12_failures (S : Hp) (a0 : Nat) (Q : Int32 → Hp → Prop) : Prop := hK S a0 = 14 ∧ wp_X12_failures_L9 (sI S a0 0 0) a0 Q FU 0 0
set_option maxRecDepth 100000 in
set_option maxHeartbeats 4000000 in
theorem w_X12_failures_L9 {p : Program} {l : Launch} {e : Env} {s : State} {m : MethodId} {args : Array Value} {below : List Frame} {meth : Method} {c : Code} {G : GX} {Q : Int32 → Hp → Prop} {l0 : Nat} {S : Hp} {H : Heap} {locs : List Loc} (C : Cx p s m args meth c cX12_failures 3 RX12 (some .int) "failures" G) (hW : wd G S H) (hS : va_S G.2.2.1 s.heap H locs) :
    ∀ (n : Nat) (l1 : Int32) (l2 : Int32) (ls : Array Slot), LV ls 3 → ls[0]? = some (.val (va_rf (some l0))) → ls[1]? = some (.val (.int l1)) → ls[2]? = some (.val (.int l2)) → wp_X12_failures_L9 S l0 Q n l1 l2 → W p l e ({ frames := 0, cells := 0, slots := 0, locals := 0 } : Room) s m args below meth c H locs 0 0 (MQ below (QI G Q) args s 0 0 G.2.2.1) (F0 m 9 ls []) := by
  intro n
  induction n with
  | zero =>
    intro l1 l2 ls hL h0 h1 h2 hw
    exact False.elim hw
  | succ n ih =>
    intro l1 l2 ls hL h0 h1 h2 hw
    unfold wp_X12_failures_L9 at hw
    refine lv_iload_n C.1 C.2.1 dX12_failures_9 rfl h2 ?_
    refine m_aldN C dX12_failures_10 rfl h0 ?_
    obtain ⟨hk2, hw⟩ := hw
    refine m_getI C hW rfl hk2 f_X12_128 rfl dX12_failures_11 ?_
    refine lv_icmp_ge (tgt := 48) C.1 C.2.1 dX12_failures_14 (by decide) (fun hc3 => ?_) (fun hc3 => ?_)
    · have hw := hw.1 hc3
      refine lv_iload_n C.1 C.2.1 dX12_failures_48 rfl h1 ?_
      exact m_iret C hW hS hw dX12_failures_49
    · have hw := hw.2 hc3
      refine m_aldN C dX12_failures_17 rfl h0 ?_
      refine m_getI C hW rfl hk2 f_X12_131 rfl dX12_failures_18 ?_
      refine lv_if_eq (tgt := 48) C.1 C.2.1 dX12_failures_21 (by decide) (fun hc4 => ?_) (fun hc4 => ?_)
      · have hw := hw.1 hc4
        refine lv_iload_n C.1 C.2.1 dX12_failures_48 rfl h1 ?_
        exact m_iret C hW hS hw dX12_failures_49
      · have hw := hw.2 hc4
        refine lv_iload_n C.1 C.2.1 dX12_failures_24 rfl h1 ?_
        refine m_aldN C dX12_failures_25 rfl h0 ?_
        refine m_getR C hW rfl hk2 f_X12_63 rfl dX12_failures_26 ?_
        refine lv_iload_n C.1 C.2.1 dX12_failures_29 rfl h2 ?_
        obtain ⟨b5, ho5, hw⟩ := hw
        obtain ⟨hk6, hw⟩ := hw
        obtain ⟨hi7, hw⟩ := hw
        refine m_iald C hW ho5 hk6 hi7 dX12_failures_30 ?_
        refine lv_iconst (v := 2) C.1 C.2.1 dX12_failures_31 (by decide) ?_
        refine lv_icmp_ne (tgt := 39) C.1 C.2.1 dX12_failures_32 (by decide) (fun hc8 => ?_) (fun hc8 => ?_)
        · have hw := hw.2 hc8
          refine lv_iconst (v := 0) C.1 C.2.1 dX12_failures_39 (by decide) ?_
          refine lv_iadd C.1 C.2.1 dX12_failures_40 ?_
          refine lv_topi (fun x9 ex9 => ?_)
          have hw := hw x9 ex9
          refine m_istN C hL dX12_failures_41 rfl (by decide) (fun ls hL hn9 hk9 => ?_)
          have h0 := hk9 0 _ h0 (by decide) (Or.inr (va_rf_cat _))
          have h2 := hk9 2 _ h2 (by decide) (Or.inl (by decide))
          have h1 := hn9
          refine m_iinc (v := (l2 + 1)) C hL dX12_failures_42 h2 rfl (by decide) (fun ls hL hn9 hk9 => ?_)
          have h0 := hk9 0 _ h0 (by decide) (Or.inl (by decide))
          have h1 := hk9 1 _ h1 (by decide) (Or.inr (rfl))
          have h2 := hn9
          refine lv_goto (tgt := 9) C.1 C.2.1 dX12_failures_45 (by decide) ?_
          exact ih x9 (l2 + 1) ls hL h0 h1 h2 hw
        · have hw := hw.1 hc8
          refine lv_iconst (v := 1) C.1 C.2.1 dX12_failures_35 (by decide) ?_
          refine lv_goto (tgt := 40) C.1 C.2.1 dX12_failures_36 (by decide) ?_
          refine lv_iadd C.1 C.2.1 dX12_failures_40 ?_
          refine lv_topi (fun x10 ex10 => ?_)
          have hw := hw x10 ex10
          refine m_istN C hL dX12_failures_41 rfl (by decide) (fun ls hL hn9 hk9 => ?_)
          have h0 := hk9 0 _ h0 (by decide) (Or.inr (va_rf_cat _))
          have h2 := hk9 2 _ h2 (by decide) (Or.inl (by decide))
          have h1 := hn9
          refine m_iinc (v := (l2 + 1)) C hL dX12_failures_42 h2 rfl (by decide) (fun ls hL hn9 hk9 => ?_)
          have h0 := hk9 0 _ h0 (by decide) (Or.inl (by decide))
          have h1 := hk9 1 _ h1 (by decide) (Or.inr (rfl))
          have h2 := hn9
          refine lv_goto (tgt := 9) C.1 C.2.1 dX12_failures_45 (by decide) ?_
          exact ih x10 (l2 + 1) ls hL h0 h1 h2 hw
set_option maxRecDepth 100000 in
set_option maxHeartbeats 4000000 in
theorem c_X12_failures {l : Launch} {G : GX} {S : Hp} {a0 : Nat} {Q : Int32 → Hp → Prop} (hw : wp_X12_failures S a0 Q) : Met l yX12_failures (Cond.code yX12_failures cX12_failures 3 (some .int) :: TS) { frames := 0, cells := 0, slots := 0, locals := 0 } (Pk G S [va_rf (some a0)]) (QI G Q) 0 0 G.2.2.1 := by
  refine m_met (by decide) ?_
  intro p e s m below meth c H locs C hW hS
  have C : Cx p s m ([va_rf (some a0)] : List Value).toArray meth c cX12_failures 3 RX12 (some .int) "failures" G := C
  obtain ⟨ls, hent, hL, hla⟩ := m_entry m (vs := [va_rf (some a0)]) (nn := 3) [1] rfl (by decide)
  rw [hent]
  have h0 : ls[0]? = some (.val (va_rf (some a0))) := hla (0, va_rf (some a0)) (List.mem_of_getElem? (i := 0) rfl)
  clear hla
  generalize ([va_rf (some a0)] : List Value).toArray = args at C ⊢
  unfold wp_X12_failures at hw
  refine m_aldN C dX12_failures_0 rfl h0 ?_
  refine lv_iconst (v := 0) C.1 C.2.1 dX12_failures_1 (by decide) ?_
  obtain ⟨hk1, hw⟩ := hw
  refine m_putI C hW hS rfl hk1 p_X12_124 (fun z => by cases z) rfl dX12_failures_2 (fun H locs hW hS => ?_)
  refine lv_iconst (v := 0) C.1 C.2.1 dX12_failures_5 (by decide) ?_
  refine m_istN C hL dX12_failures_6 rfl (by decide) (fun ls hL hn9 hk9 => ?_)
  have h0 := hk9 0 _ h0 (by decide) (Or.inr (va_rf_cat _))
  have h1 := hn9
  refine lv_iconst (v := 0) C.1 C.2.1 dX12_failures_7 (by decide) ?_
  refine m_istN C hL dX12_failures_8 rfl (by decide) (fun ls hL hn9 hk9 => ?_)
  have h0 := hk9 0 _ h0 (by decide) (Or.inl (by decide))
  have h1 := hk9 1 _ h1 (by decide) (Or.inr (rfl))
  have h2 := hn9
  exact w_X12_failures_L9 C hW hS  FU 0 0 ls hL h0 h1 h2 hw
def wp_X12_failedAt_L4 (S : Hp) (l0 : Nat) (l1 : Int32) (Q : Int32 → Hp → Prop) : Nat → Int32 → Int32 → Prop
  | 0, _, _ => False
  | n + 1, l2, l3 => hK S l0 = 14 ∧ ((hI S l0 4) ≤ l3 → Q (-1) S) ∧ (¬ ((hI S l0 4) ≤ l3) → ((hI S l0 22) = 0 → Q (-1) S) ∧ (¬ ((hI S l0 22) = 0) → ∃ b4 : Nat, (hR S l0 26) = some b4 ∧ hK S b4 = 15 ∧ vp_in l3 (hN S b4) ∧ ((hI S b4 (l3 : Int32).toNatClampNeg) = 2 → (l2 = l1 → Q l3 S) ∧ (¬ (l2 = l1) → wp_X12_failedAt_L4 S l0 l1 Q n (l2 + 1) (l3 + 1))) ∧ (¬ ((hI S b4 (l3 : Int32).toNatClampNeg) = 2) → wp_X12_failedAt_L4 S l0 l1 Q n l2 (l3 + 1))))
def wp_X12_failedAt (S : Hp) (a0 : Nat) (a1 : Int32) (Q : Int32 → Hp → Prop) : Prop := wp_X12_failedAt_L4 S a0 a1 Q FU 0 0
set_option maxRecDepth 100000 in
set_option maxHeartbeats 4000000 in
theorem w_X12_failedAt_L4 {p : Program} {l : Launch} {e : Env} {s : State} {m : MethodId} {args : Array Value} {below : List Frame} {meth : Method} {c : Code} {G : GX} {Q : Int32 → Hp → Prop} {l0 : Nat} {l1 : Int32} {S : Hp} {H : Heap} {locs : List Loc} (C : Cx p s m args meth c cX12_failedAt 4 RX12 (some .int) "failedAt" G) (hW : wd G S H) (hS : va_S G.2.2.1 s.heap H locs) :
    ∀ (n : Nat) (l2 : Int32) (l3 : Int32) (ls : Array Slot), LV ls 4 → ls[0]? = some (.val (va_rf (some l0))) → ls[1]? = some (.val (.int l1)) → ls[2]? = some (.val (.int l2)) → ls[3]? = some (.val (.int l3)) → wp_X12_failedAt_L4 S l0 l1 Q n l2 l3 → W p l e ({ frames := 0, cells := 0, slots := 0, locals := 0 } : Room) s m args below meth c H locs 0 0 (MQ below (QI G Q) args s 0 0 G.2.2.1) (F0 m 4 ls []) := by
  intro n
  induction n with
  | zero =>
    intro l2 l3 ls hL h0 h1 h2 h3 hw
    exact False.elim hw
  | succ n ih =>
    intro l2 l3 ls hL h0 h1 h2 h3 hw
    unfold wp_X12_failedAt_L4 at hw
    refine lv_iload_n C.1 C.2.1 dX12_failedAt_4 rfl h3 ?_
    refine m_aldN C dX12_failedAt_5 rfl h0 ?_
    obtain ⟨hk1, hw⟩ := hw
    refine m_getI C hW rfl hk1 f_X12_128 rfl dX12_failedAt_6 ?_
    refine lv_icmp_ge (tgt := 48) C.1 C.2.1 dX12_failedAt_9 (by decide) (fun hc2 => ?_) (fun hc2 => ?_)
    · have hw := hw.1 hc2
      refine lv_iconst (v := (-1)) C.1 C.2.1 dX12_failedAt_48 (by decide) ?_
      exact m_iret C hW hS hw dX12_failedAt_49
    · have hw := hw.2 hc2
      refine m_aldN C dX12_failedAt_12 rfl h0 ?_
      refine m_getI C hW rfl hk1 f_X12_131 rfl dX12_failedAt_13 ?_
      refine lv_if_eq (tgt := 48) C.1 C.2.1 dX12_failedAt_16 (by decide) (fun hc3 => ?_) (fun hc3 => ?_)
      · have hw := hw.1 hc3
        refine lv_iconst (v := (-1)) C.1 C.2.1 dX12_failedAt_48 (by decide) ?_
        exact m_iret C hW hS hw dX12_failedAt_49
      · have hw := hw.2 hc3
        refine m_aldN C dX12_failedAt_19 rfl h0 ?_
        refine m_getR C hW rfl hk1 f_X12_63 rfl dX12_failedAt_20 ?_
        refine lv_iload_n C.1 C.2.1 dX12_failedAt_23 rfl h3 ?_
        obtain ⟨b4, ho4, hw⟩ := hw
        obtain ⟨hk5, hw⟩ := hw
        obtain ⟨hi6, hw⟩ := hw
        refine m_iald C hW ho4 hk5 hi6 dX12_failedAt_24 ?_
        refine lv_iconst (v := 2) C.1 C.2.1 dX12_failedAt_25 (by decide) ?_
        refine lv_icmp_eq (tgt := 32) C.1 C.2.1 dX12_failedAt_26 (by decide) (fun hc7 => ?_) (fun hc7 => ?_)
        · have hw := hw.1 hc7
          refine lv_iload_n C.1 C.2.1 dX12_failedAt_32 rfl h2 ?_
          refine lv_iload_n C.1 C.2.1 dX12_failedAt_33 rfl h1 ?_
          refine lv_icmp_ne (tgt := 39) C.1 C.2.1 dX12_failedAt_34 (by decide) (fun hc8 => ?_) (fun hc8 => ?_)
          · have hw := hw.2 hc8
            refine m_iinc (v := (l2 + 1)) C hL dX12_failedAt_39 h2 rfl (by decide) (fun ls hL hn9 hk9 => ?_)
            have h0 := hk9 0 _ h0 (by decide) (Or.inl (by decide))
            have h1 := hk9 1 _ h1 (by decide) (Or.inr (rfl))
            have h3 := hk9 3 _ h3 (by decide) (Or.inl (by decide))
            have h2 := hn9
            refine m_iinc (v := (l3 + 1)) C hL dX12_failedAt_42 h3 rfl (by decide) (fun ls hL hn9 hk9 => ?_)
            have h0 := hk9 0 _ h0 (by decide) (Or.inl (by decide))
            have h1 := hk9 1 _ h1 (by decide) (Or.inl (by decide))
            have h2 := hk9 2 _ h2 (by decide) (Or.inr (rfl))
            have h3 := hn9
            refine lv_goto (tgt := 4) C.1 C.2.1 dX12_failedAt_45 (by decide) ?_
            exact ih (l2 + 1) (l3 + 1) ls hL h0 h1 h2 h3 hw
          · have hw := hw.1 hc8
            refine lv_iload_n C.1 C.2.1 dX12_failedAt_37 rfl h3 ?_
            exact m_iret C hW hS hw dX12_failedAt_38
        · have hw := hw.2 hc7
          refine lv_goto (tgt := 42) C.1 C.2.1 dX12_failedAt_29 (by decide) ?_
          refine m_iinc (v := (l3 + 1)) C hL dX12_failedAt_42 h3 rfl (by decide) (fun ls hL hn9 hk9 => ?_)
          have h0 := hk9 0 _ h0 (by decide) (Or.inl (by decide))
          have h1 := hk9 1 _ h1 (by decide) (Or.inl (by decide))
          have h2 := hk9 2 _ h2 (by decide) (Or.inr (rfl))
          have h3 := hn9
          refine lv_goto (tgt := 4) C.1 C.2.1 dX12_failedAt_45 (by decide) ?_
          exact ih l2 (l3 + 1) ls hL h0 h1 h2 h3 hw
set_option maxRecDepth 100000 in
set_option maxHeartbeats 4000000 in
theorem c_X12_failedAt {l : Launch} {G : GX} {S : Hp} {a0 : Nat} {a1 : Int32} {Q : Int32 → Hp → Prop} (hw : wp_X12_failedAt S a0 a1 Q) : Met l yX12_failedAt (Cond.code yX12_failedAt cX12_failedAt 4 (some .int) :: TS) { frames := 0, cells := 0, slots := 0, locals := 0 } (Pk G S [va_rf (some a0), .int a1]) (QI G Q) 0 0 G.2.2.1 := by
  refine m_met (by decide) ?_
  intro p e s m below meth c H locs C hW hS
  have C : Cx p s m ([va_rf (some a0), .int a1] : List Value).toArray meth c cX12_failedAt 4 RX12 (some .int) "failedAt" G := C
  obtain ⟨ls, hent, hL, hla⟩ := m_entry m (vs := [va_rf (some a0), .int a1]) (nn := 4) [1, 1] rfl (by decide)
  rw [hent]
  have h0 : ls[0]? = some (.val (va_rf (some a0))) := hla (0, va_rf (some a0)) (List.mem_of_getElem? (i := 0) rfl)
  have h1 : ls[1]? = some (.val (.int a1)) := hla (1, .int a1) (List.mem_of_getElem? (i := 1) rfl)
  clear hla
  generalize ([va_rf (some a0), .int a1] : List Value).toArray = args at C ⊢
  unfold wp_X12_failedAt at hw
  refine lv_iconst (v := 0) C.1 C.2.1 dX12_failedAt_0 (by decide) ?_
  refine m_istN C hL dX12_failedAt_1 rfl (by decide) (fun ls hL hn9 hk9 => ?_)
  have h0 := hk9 0 _ h0 (by decide) (Or.inl (by decide))
  have h1 := hk9 1 _ h1 (by decide) (Or.inr (rfl))
  have h2 := hn9
  refine lv_iconst (v := 0) C.1 C.2.1 dX12_failedAt_2 (by decide) ?_
  refine m_istN C hL dX12_failedAt_3 rfl (by decide) (fun ls hL hn9 hk9 => ?_)
  have h0 := hk9 0 _ h0 (by decide) (Or.inl (by decide))
  have h1 := hk9 1 _ h1 (by decide) (Or.inl (by decide))
  have h2 := hk9 2 _ h2 (by decide) (Or.inr (rfl))
  have h3 := hn9
  exact w_X12_failedAt_L4 C hW hS  FU 0 0 ls hL h0 h1 h2 h3 hw
def wp_X12_failure (S : Hp) (a0 : Nat) (a1 : Int32) (a2 : Int32) (Q : Int32 → Hp → Prop) : Prop := hK S a0 = 14 ∧ wp_X12_failedAt S a0 a1 (fun r3 S2 => ∃ J5 : Option Nat → Int32 → Prop, J5 = (fun (o6 : Option Nat) (x7 : Int32) => ∃ b8 : Nat, o6 = some b8 ∧ hK S2 b8 = 14 ∧ hK (sI S2 b8 0 x7) a0 = 14 ∧ ((hI (sI S2 b8 0 x7) a0 0) ≤ 0 → (a2 = 0 → Q r3 (sI S2 b8 0 x7)) ∧ (¬ (a2 = 0) → (a2 = 1 → ∃ b13 : Nat, (hR (sI S2 b8 0 x7) a0 31) = some b13 ∧ hK (sI S2 b8 0 x7) b13 = 15 ∧ vp_in r3 (hN (sI S2 b8 0 x7) b13) ∧ Q (hI (sI S2 b8 0 x7) b13 (r3 : Int32).toNatClampNeg) (sI S2 b8 0 x7)) ∧ (¬ (a2 = 1) → (a2 = 2 → ∃ b17 : Nat, (hR (sI S2 b8 0 x7) a0 28) = some b17 ∧ hK (sI S2 b8 0 x7) b17 = 15 ∧ vp_in r3 (hN (sI S2 b8 0 x7) b17) ∧ Q (hI (sI S2 b8 0 x7) b17 (r3 : Int32).toNatClampNeg) (sI S2 b8 0 x7)) ∧ (¬ (a2 = 2) → (a2 = 3 → (a1 = 0 → Q (-1) (sI S2 b8 0 x7)) ∧ (¬ (a1 = 0) → wp_X12_failedAt (sI S2 b8 0 x7) a0 0 (fun r23 S22 => Q r23 S22))) ∧ (¬ (a2 = 3) → Q (-1) (sI S2 b8 0 x7)))))) ∧ (¬ ((hI (sI S2 b8 0 x7) a0 0) ≤ 0) → Q 0 (sI S2 b8 0 x7))) ∧ (r3 = (-1) → J5 (some a0) 1) ∧ (¬ (r3 = (-1)) → J5 (some a0) 0))
set_option maxRecDepth 100000 in
set_option maxHeartbeats 4000000 in
theorem c_X12_failure {l : Launch} {G : GX} {S : Hp} {a0 : Nat} {a1 : Int32} {a2 : Int32} {Q : Int32 → Hp → Prop} (hw : wp_X12_failure S a0 a1 a2 Q) : Met l yX12_failure (Cond.code yX12_failure cX12_failure 4 (some .int) :: TS) { frames := 1, cells := 0, slots := 0, locals := 23 } (Pk G S [va_rf (some a0), .int a1, .int a2]) (QI G Q) 0 0 G.2.2.1 := by
  refine m_met (by decide) ?_
  intro p e s m below meth c H locs C hW hS
  have C : Cx p s m ([va_rf (some a0), .int a1, .int a2] : List Value).toArray meth c cX12_failure 4 RX12 (some .int) "failure" G := C
  obtain ⟨ls, hent, hL, hla⟩ := m_entry m (vs := [va_rf (some a0), .int a1, .int a2]) (nn := 4) [1, 1, 1] rfl (by decide)
  rw [hent]
  have h0 : ls[0]? = some (.val (va_rf (some a0))) := hla (0, va_rf (some a0)) (List.mem_of_getElem? (i := 0) rfl)
  have h1 : ls[1]? = some (.val (.int a1)) := hla (1, .int a1) (List.mem_of_getElem? (i := 1) rfl)
  have h2 : ls[2]? = some (.val (.int a2)) := hla (2, .int a2) (List.mem_of_getElem? (i := 2) rfl)
  clear hla
  generalize ([va_rf (some a0), .int a1, .int a2] : List Value).toArray = args at C ⊢
  unfold wp_X12_failure at hw
  refine m_aldN C dX12_failure_0 rfl h0 ?_
  refine lv_iload_n C.1 C.2.1 dX12_failure_1 rfl h1 ?_
  obtain ⟨hk1, hw⟩ := hw
  refine m_rI (m_runV (As := [.int a1]) (rest := []) C hW hS hL (c_X12_failedAt hw) v_X12_291 ⟨rfl, rfl⟩ ⟨Nat.le_of_ble_eq_true rfl, Nat.le_of_ble_eq_true rfl⟩ rfl hk1 rfl rfl (Nat.le_of_ble_eq_true rfl) dX12_failure_2 ⟨Nat.le_of_ble_eq_true rfl, Nat.le_of_ble_eq_true rfl⟩) hS (fun r3 S2 H locs hw hW hS => ?_)
  refine m_istN C hL dX12_failure_5 rfl (by decide) (fun ls hL hn9 hk9 => ?_)
  have h0 := hk9 0 _ h0 (by decide) (Or.inl (by decide))
  have h1 := hk9 1 _ h1 (by decide) (Or.inl (by decide))
  have h2 := hk9 2 _ h2 (by decide) (Or.inr (rfl))
  have h3 := hn9
  refine m_aldN C dX12_failure_6 rfl h0 ?_
  refine lv_iload_n C.1 C.2.1 dX12_failure_7 rfl h3 ?_
  refine lv_iconst (v := (-1)) C.1 C.2.1 dX12_failure_8 (by decide) ?_
  obtain ⟨J5, eJ5, hw⟩ := hw
  have wJ5 : ∀ (o6 : Option Nat) (x7 : Int32) (ls : Array Slot), LV ls 4 → ls[0]? = some (.val (va_rf (some a0))) → ls[1]? = some (.val (.int a1)) → ls[2]? = some (.val (.int a2)) → ls[3]? = some (.val (.int r3)) → J5 o6 x7 → W p l e ({ frames := 1, cells := 0, slots := 0, locals := 23 } : Room) s m args below meth c H locs 0 0 (MQ below (QI G Q) args s 0 0 G.2.2.1) (F0 m 17 ls [.int x7, va_rf o6]) := by
    intro o6 x7 ls hL h0 h1 h2 h3 hw
    rw [eJ5] at hw
    obtain ⟨b8, ho8, hw⟩ := hw
    obtain ⟨hk9, hw⟩ := hw
    refine m_putI C hW hS ho8 hk9 p_X12_124 (fun z => by cases z) rfl dX12_failure_17 (fun H locs hW hS => ?_)
    refine m_aldN C dX12_failure_20 rfl h0 ?_
    obtain ⟨hk10, hw⟩ := hw
    refine m_getI C hW rfl hk10 f_X12_124 rfl dX12_failure_21 ?_
    refine lv_if_le (tgt := 29) C.1 C.2.1 dX12_failure_24 (by decide) (fun hc11 => ?_) (fun hc11 => ?_)
    · have hw := hw.1 hc11
      refine lv_iload_n C.1 C.2.1 dX12_failure_29 rfl h2 ?_
      by_cases hc12 : a2 = 0
      · have hw := hw.1 hc12
        refine lv_tableIn (tgt := 60) (off := 30) C.1 C.2.1 dX12_failure_30 (by rw [hc12]; decide) (by rw [hc12]; decide) (by rw [hc12]; rfl) (by decide) ?_
        refine lv_iload_n C.1 C.2.1 dX12_failure_60 rfl h3 ?_
        exact m_iret C hW hS hw dX12_failure_61
      · have hw := hw.2 hc12
        by_cases hc16 : a2 = 1
        · have hw := hw.1 hc16
          refine lv_tableIn (tgt := 62) (off := 32) C.1 C.2.1 dX12_failure_30 (by rw [hc16]; decide) (by rw [hc16]; decide) (by rw [hc16]; rfl) (by decide) ?_
          refine m_aldN C dX12_failure_62 rfl h0 ?_
          refine m_getR C hW rfl hk10 f_X12_78 rfl dX12_failure_63 ?_
          refine lv_iload_n C.1 C.2.1 dX12_failure_66 rfl h3 ?_
          obtain ⟨b13, ho13, hw⟩ := hw
          obtain ⟨hk14, hw⟩ := hw
          obtain ⟨hi15, hw⟩ := hw
          refine m_iald C hW ho13 hk14 hi15 dX12_failure_67 ?_
          exact m_iret C hW hS hw dX12_failure_68
        · have hw := hw.2 hc16
          by_cases hc20 : a2 = 2
          · have hw := hw.1 hc20
            refine lv_tableIn (tgt := 69) (off := 39) C.1 C.2.1 dX12_failure_30 (by rw [hc20]; decide) (by rw [hc20]; decide) (by rw [hc20]; rfl) (by decide) ?_
            refine m_aldN C dX12_failure_69 rfl h0 ?_
            refine m_getR C hW rfl hk10 f_X12_69 rfl dX12_failure_70 ?_
            refine lv_iload_n C.1 C.2.1 dX12_failure_73 rfl h3 ?_
            obtain ⟨b17, ho17, hw⟩ := hw
            obtain ⟨hk18, hw⟩ := hw
            obtain ⟨hi19, hw⟩ := hw
            refine m_iald C hW ho17 hk18 hi19 dX12_failure_74 ?_
            exact m_iret C hW hS hw dX12_failure_75
          · have hw := hw.2 hc20
            by_cases hc24 : a2 = 3
            · have hw := hw.1 hc24
              refine lv_tableIn (tgt := 76) (off := 46) C.1 C.2.1 dX12_failure_30 (by rw [hc24]; decide) (by rw [hc24]; decide) (by rw [hc24]; rfl) (by decide) ?_
              refine lv_iload_n C.1 C.2.1 dX12_failure_76 rfl h1 ?_
              refine lv_if_ne (tgt := 84) C.1 C.2.1 dX12_failure_77 (by decide) (fun hc21 => ?_) (fun hc21 => ?_)
              · have hw := hw.2 hc21
                refine m_aldN C dX12_failure_84 rfl h0 ?_
                refine lv_iconst (v := 0) C.1 C.2.1 dX12_failure_85 (by decide) ?_
                refine m_rI (m_runV (As := [.int 0]) (rest := []) C hW hS hL (c_X12_failedAt hw) v_X12_291 ⟨rfl, rfl⟩ ⟨Nat.le_of_ble_eq_true rfl, Nat.le_of_ble_eq_true rfl⟩ rfl hk10 rfl rfl (Nat.le_of_ble_eq_true rfl) dX12_failure_86 ⟨Nat.le_of_ble_eq_true rfl, Nat.le_of_ble_eq_true rfl⟩) hS (fun r23 S22 H locs hw hW hS => ?_)
                exact m_iret C hW hS hw dX12_failure_89
              · have hw := hw.1 hc21
                refine lv_iconst (v := (-1)) C.1 C.2.1 dX12_failure_80 (by decide) ?_
                refine lv_goto (tgt := 89) C.1 C.2.1 dX12_failure_81 (by decide) ?_
                exact m_iret C hW hS hw dX12_failure_89
            · have hw := hw.2 hc24
              refine lv_tableOut (tgt := 90) C.1 C.2.1 dX12_failure_30 (tsw_out 0 3 (fun v h1 h2 => ?_)) (by decide) ?_
              · have : v = 0 ∨ v = 1 ∨ v = 2 ∨ v = 3 := by omega
                rcases this with rfl | rfl | rfl | rfl
                · exact lv_neT hc12 (by decide)
                · exact lv_neT hc16 (by decide)
                · exact lv_neT hc20 (by decide)
                · exact lv_neT hc24 (by decide)
              · refine lv_iconst (v := (-1)) C.1 C.2.1 dX12_failure_90 (by decide) ?_
                exact m_iret C hW hS hw dX12_failure_91
    · have hw := hw.2 hc11
      refine lv_iconst (v := 0) C.1 C.2.1 dX12_failure_27 (by decide) ?_
      exact m_iret C hW hS hw dX12_failure_28
  refine lv_icmp_ne (tgt := 16) C.1 C.2.1 dX12_failure_9 (by decide) (fun hc4 => ?_) (fun hc4 => ?_)
  · have hw := hw.2 hc4
    refine lv_iconst (v := 0) C.1 C.2.1 dX12_failure_16 (by decide) ?_
    exact wJ5 (some a0) 0 ls hL h0 h1 h2 h3 hw
  · have hw := hw.1 hc4
    refine lv_iconst (v := 1) C.1 C.2.1 dX12_failure_12 (by decide) ?_
    refine lv_goto (tgt := 17) C.1 C.2.1 dX12_failure_13 (by decide) ?_
    exact wJ5 (some a0) 1 ls hL h0 h1 h2 h3 hw
def wp_X12_left (S : Hp) (a0 : Nat) (a1 : Int32) (Q : Int64 → Hp → Prop) : Prop := wp_X12_isStock S a1 (fun r2 S1 => ∃ J4 : Option Nat → Int32 → Prop, J4 = (fun (o5 : Option Nat) (x6 : Int32) => ∃ b7 : Nat, o5 = some b7 ∧ hK S1 b7 = 14 ∧ hK (sI S1 b7 0 x6) a0 = 14 ∧ ((hI (sI S1 b7 0 x6) a0 0) ≤ 0 → ((hI (sI S1 b7 0 x6) a0 22) = 0 → ∃ b12 : Nat, (hR (sI S1 b7 0 x6) a0 6) = some b12 ∧ hK (sI S1 b7 0 x6) b12 = 15 ∧ vp_in a1 (hN (sI S1 b7 0 x6) b12) ∧ Q (((hI (sI S1 b7 0 x6) b12 (a1 : Int32).toNatClampNeg) : Int32).toInt64) (sI S1 b7 0 x6)) ∧ (¬ ((hI (sI S1 b7 0 x6) a0 22) = 0) → ∃ b15 : Nat, (hR (sI S1 b7 0 x6) a0 35) = some b15 ∧ hK (sI S1 b7 0 x6) b15 = 16 ∧ vp_in a1 (hN (sI S1 b7 0 x6) b15) ∧ Q (hJ (sI S1 b7 0 x6) b15 (a1 : Int32).toNatClampNeg) (sI S1 b7 0 x6))) ∧ (¬ ((hI (sI S1 b7 0 x6) a0 0) ≤ 0) → Q 0 (sI S1 b7 0 x6))) ∧ (r2 = 0 → J4 (some a0) 1) ∧ (¬ (r2 = 0) → J4 (some a0) 0))
set_option maxRecDepth 100000 in
set_option maxHeartbeats 4000000 in
theorem c_X12_left {l : Launch} {G : GX} {S : Hp} {a0 : Nat} {a1 : Int32} {Q : Int64 → Hp → Prop} (hw : wp_X12_left S a0 a1 Q) : Met l yX12_left (Cond.code yX12_left cX12_left 2 (some .long) :: TS) { frames := 1, cells := 0, slots := 0, locals := 20 } (Pk G S [va_rf (some a0), .int a1]) (QL G Q) 0 0 G.2.2.1 := by
  refine m_met (by decide) ?_
  intro p e s m below meth c H locs C hW hS
  have C : Cx p s m ([va_rf (some a0), .int a1] : List Value).toArray meth c cX12_left 2 RX12 (some .long) "left" G := C
  obtain ⟨ls, hent, hL, hla⟩ := m_entry m (vs := [va_rf (some a0), .int a1]) (nn := 2) [1, 1] rfl (by decide)
  rw [hent]
  have h0 : ls[0]? = some (.val (va_rf (some a0))) := hla (0, va_rf (some a0)) (List.mem_of_getElem? (i := 0) rfl)
  have h1 : ls[1]? = some (.val (.int a1)) := hla (1, .int a1) (List.mem_of_getElem? (i := 1) rfl)
  clear hla
  generalize ([va_rf (some a0), .int a1] : List Value).toArray = args at C ⊢
  unfold wp_X12_left at hw
  refine m_aldN C dX12_left_0 rfl h0 ?_
  refine lv_iload_n C.1 C.2.1 dX12_left_1 rfl h1 ?_
  refine m_rI (m_runS (As := [.int a1]) (rest := [va_rf (some a0)]) C hW hS hL (c_X12_isStock hw) s_X12_148 ⟨rfl, rfl⟩ ⟨Nat.le_of_ble_eq_true rfl, Nat.le_of_ble_eq_true rfl⟩ rfl rfl (by simp only [List.map_cons, List.map_nil, va_rf_cat, List.sum_cons, List.sum_nil] <;> exact Nat.le_of_ble_eq_true rfl) dX12_left_2 ⟨Nat.le_of_ble_eq_true rfl, Nat.le_of_ble_eq_true rfl⟩) hS (fun r2 S1 H locs hw hW hS => ?_)
  obtain ⟨J4, eJ4, hw⟩ := hw
  have wJ4 : ∀ (o5 : Option Nat) (x6 : Int32) (ls : Array Slot), LV ls 2 → ls[0]? = some (.val (va_rf (some a0))) → ls[1]? = some (.val (.int a1)) → J4 o5 x6 → W p l e ({ frames := 1, cells := 0, slots := 0, locals := 20 } : Room) s m args below meth c H locs 0 0 (MQ below (QL G Q) args s 0 0 G.2.2.1) (F0 m 13 ls [.int x6, va_rf o5]) := by
    intro o5 x6 ls hL h0 h1 hw
    rw [eJ4] at hw
    obtain ⟨b7, ho7, hw⟩ := hw
    obtain ⟨hk8, hw⟩ := hw
    refine m_putI C hW hS ho7 hk8 p_X12_124 (fun z => by cases z) rfl dX12_left_13 (fun H locs hW hS => ?_)
    refine m_aldN C dX12_left_16 rfl h0 ?_
    obtain ⟨hk9, hw⟩ := hw
    refine m_getI C hW rfl hk9 f_X12_124 rfl dX12_left_17 ?_
    refine lv_if_le (tgt := 27) C.1 C.2.1 dX12_left_20 (by decide) (fun hc10 => ?_) (fun hc10 => ?_)
    · have hw := hw.1 hc10
      refine m_aldN C dX12_left_27 rfl h0 ?_
      refine m_getI C hW rfl hk9 f_X12_131 rfl dX12_left_28 ?_
      refine lv_if_eq (tgt := 43) C.1 C.2.1 dX12_left_31 (by decide) (fun hc11 => ?_) (fun hc11 => ?_)
      · have hw := hw.1 hc11
        refine m_aldN C dX12_left_43 rfl h0 ?_
        refine m_getR C hW rfl hk9 f_X12_13 rfl dX12_left_44 ?_
        refine lv_iload_n C.1 C.2.1 dX12_left_47 rfl h1 ?_
        obtain ⟨b12, ho12, hw⟩ := hw
        obtain ⟨hk13, hw⟩ := hw
        obtain ⟨hi14, hw⟩ := hw
        refine m_iald C hW ho12 hk13 hi14 dX12_left_48 ?_
        refine lv_i2l (v := (((hI (sI S1 b7 0 x6) b12 (a1 : Int32).toNatClampNeg) : Int32).toInt64)) C.1 C.2.1 dX12_left_49 rfl ?_
        exact m_lret C hW hS hw dX12_left_50
      · have hw := hw.2 hc11
        refine m_aldN C dX12_left_34 rfl h0 ?_
        refine m_getR C hW rfl hk9 f_X12_90 rfl dX12_left_35 ?_
        refine lv_iload_n C.1 C.2.1 dX12_left_38 rfl h1 ?_
        obtain ⟨b15, ho15, hw⟩ := hw
        obtain ⟨hk16, hw⟩ := hw
        obtain ⟨hi17, hw⟩ := hw
        refine m_lald C hW ho15 hk16 hi17 dX12_left_39 ?_
        refine lv_goto (tgt := 50) C.1 C.2.1 dX12_left_40 (by decide) ?_
        exact m_lret C hW hS hw dX12_left_50
    · have hw := hw.2 hc10
      refine lv_lconst (v := 0) C.1 C.2.1 dX12_left_23 (by decide) ?_
      refine lv_goto (tgt := 50) C.1 C.2.1 dX12_left_24 (by decide) ?_
      exact m_lret C hW hS hw dX12_left_50
  refine lv_if_eq (tgt := 12) C.1 C.2.1 dX12_left_5 (by decide) (fun hc3 => ?_) (fun hc3 => ?_)
  · have hw := hw.1 hc3
    refine lv_iconst (v := 1) C.1 C.2.1 dX12_left_12 (by decide) ?_
    exact wJ4 (some a0) 1 ls hL h0 h1 hw
  · have hw := hw.2 hc3
    refine lv_iconst (v := 0) C.1 C.2.1 dX12_left_8 (by decide) ?_
    refine lv_goto (tgt := 13) C.1 C.2.1 dX12_left_9 (by decide) ?_
    exact wJ4 (some a0) 0 ls hL h0 h1 hw
def wp_X12_had (S : Hp) (a0 : Nat) (a1 : Int32) (Q : Int32 → Hp → Prop) : Prop := ∃ J3 : Hp → Option Nat → Int32 → Prop, J3 = (fun (S7 : Hp) (o8 : Option Nat) (x9 : Int32) => ∃ b10 : Nat, o8 = some b10 ∧ hK S7 b10 = 14 ∧ hK (sI S7 b10 0 x9) a0 = 14 ∧ ((hI (sI S7 b10 0 x9) a0 0) ≤ 0 → ((hI (sI S7 b10 0 x9) a0 22) = 0 → Q (-1) (sI S7 b10 0 x9)) ∧ (¬ ((hI (sI S7 b10 0 x9) a0 22) = 0) → ∃ b15 : Nat, (hR (sI S7 b10 0 x9) a0 34) = some b15 ∧ hK (sI S7 b10 0 x9) b15 = 15 ∧ vp_in a1 (hN (sI S7 b10 0 x9) b15) ∧ Q (hI (sI S7 b10 0 x9) b15 (a1 : Int32).toNatClampNeg) (sI S7 b10 0 x9))) ∧ (¬ ((hI (sI S7 b10 0 x9) a0 0) ≤ 0) → Q 0 (sI S7 b10 0 x9))) ∧ ∃ J2 : Option Nat → Prop, J2 = (fun (o6 : Option Nat) => J3 S o6 1) ∧ (a1 < 0 → J2 (some a0)) ∧ (¬ (a1 < 0) → hK S a0 = 14 ∧ (a1 < (hI S a0 3) → J3 S (some a0) 0) ∧ (¬ (a1 < (hI S a0 3)) → J2 (some a0)))
set_option maxRecDepth 100000 in
set_option maxHeartbeats 4000000 in
theorem c_X12_had {l : Launch} {G : GX} {S : Hp} {a0 : Nat} {a1 : Int32} {Q : Int32 → Hp → Prop} (hw : wp_X12_had S a0 a1 Q) : Met l yX12_had (Cond.code yX12_had cX12_had 2 (some .int) :: TS) { frames := 0, cells := 0, slots := 0, locals := 0 } (Pk G S [va_rf (some a0), .int a1]) (QI G Q) 0 0 G.2.2.1 := by
  refine m_met (by decide) ?_
  intro p e s m below meth c H locs C hW hS
  have C : Cx p s m ([va_rf (some a0), .int a1] : List Value).toArray meth c cX12_had 2 RX12 (some .int) "had" G := C
  obtain ⟨ls, hent, hL, hla⟩ := m_entry m (vs := [va_rf (some a0), .int a1]) (nn := 2) [1, 1] rfl (by decide)
  rw [hent]
  have h0 : ls[0]? = some (.val (va_rf (some a0))) := hla (0, va_rf (some a0)) (List.mem_of_getElem? (i := 0) rfl)
  have h1 : ls[1]? = some (.val (.int a1)) := hla (1, .int a1) (List.mem_of_getElem? (i := 1) rfl)
  clear hla
  generalize ([va_rf (some a0), .int a1] : List Value).toArray = args at C ⊢
  unfold wp_X12_had at hw
  refine m_aldN C dX12_had_0 rfl h0 ?_
  refine lv_iload_n C.1 C.2.1 dX12_had_1 rfl h1 ?_
  obtain ⟨J3, eJ3, hw⟩ := hw
  have wJ3 : ∀ (S7 : Hp) (o8 : Option Nat) (x9 : Int32) (H : Heap) (locs : List Loc) (ls : Array Slot), wd G S7 H → va_S G.2.2.1 s.heap H locs → LV ls 2 → ls[0]? = some (.val (va_rf (some a0))) → ls[1]? = some (.val (.int a1)) → J3 S7 o8 x9 → W p l e ({ frames := 0, cells := 0, slots := 0, locals := 0 } : Room) s m args below meth c H locs 0 0 (MQ below (QI G Q) args s 0 0 G.2.2.1) (F0 m 18 ls [.int x9, va_rf o8]) := by
    intro S7 o8 x9 H locs ls hW hS hL h0 h1 hw
    rw [eJ3] at hw
    obtain ⟨b10, ho10, hw⟩ := hw
    obtain ⟨hk11, hw⟩ := hw
    refine m_putI C hW hS ho10 hk11 p_X12_124 (fun z => by cases z) rfl dX12_had_18 (fun H locs hW hS => ?_)
    refine m_aldN C dX12_had_21 rfl h0 ?_
    obtain ⟨hk12, hw⟩ := hw
    refine m_getI C hW rfl hk12 f_X12_124 rfl dX12_had_22 ?_
    refine lv_if_le (tgt := 32) C.1 C.2.1 dX12_had_25 (by decide) (fun hc13 => ?_) (fun hc13 => ?_)
    · have hw := hw.1 hc13
      refine m_aldN C dX12_had_32 rfl h0 ?_
      refine m_getI C hW rfl hk12 f_X12_131 rfl dX12_had_33 ?_
      refine lv_if_eq (tgt := 48) C.1 C.2.1 dX12_had_36 (by decide) (fun hc14 => ?_) (fun hc14 => ?_)
      · have hw := hw.1 hc14
        refine lv_iconst (v := (-1)) C.1 C.2.1 dX12_had_48 (by decide) ?_
        exact m_iret C hW hS hw dX12_had_49
      · have hw := hw.2 hc14
        refine m_aldN C dX12_had_39 rfl h0 ?_
        refine m_getR C hW rfl hk12 f_X12_87 rfl dX12_had_40 ?_
        refine lv_iload_n C.1 C.2.1 dX12_had_43 rfl h1 ?_
        obtain ⟨b15, ho15, hw⟩ := hw
        obtain ⟨hk16, hw⟩ := hw
        obtain ⟨hi17, hw⟩ := hw
        refine m_iald C hW ho15 hk16 hi17 dX12_had_44 ?_
        refine lv_goto (tgt := 49) C.1 C.2.1 dX12_had_45 (by decide) ?_
        exact m_iret C hW hS hw dX12_had_49
    · have hw := hw.2 hc13
      refine lv_iconst (v := 0) C.1 C.2.1 dX12_had_28 (by decide) ?_
      refine lv_goto (tgt := 49) C.1 C.2.1 dX12_had_29 (by decide) ?_
      exact m_iret C hW hS hw dX12_had_49
  obtain ⟨J2, eJ2, hw⟩ := hw
  have wJ2 : ∀ (o6 : Option Nat) (ls : Array Slot), LV ls 2 → ls[0]? = some (.val (va_rf (some a0))) → ls[1]? = some (.val (.int a1)) → J2 o6 → W p l e ({ frames := 0, cells := 0, slots := 0, locals := 0 } : Room) s m args below meth c H locs 0 0 (MQ below (QI G Q) args s 0 0 G.2.2.1) (F0 m 13 ls [va_rf o6]) := by
    intro o6 ls hL h0 h1 hw
    rw [eJ2] at hw
    refine lv_iconst (v := 1) C.1 C.2.1 dX12_had_13 (by decide) ?_
    refine lv_goto (tgt := 18) C.1 C.2.1 dX12_had_14 (by decide) ?_
    exact wJ3 S o6 1 H locs ls hW hS hL h0 h1 hw
  refine lv_if_lt (tgt := 13) C.1 C.2.1 dX12_had_2 (by decide) (fun hc1 => ?_) (fun hc1 => ?_)
  · have hw := hw.1 hc1
    exact wJ2 (some a0) ls hL h0 h1 hw
  · have hw := hw.2 hc1
    refine lv_iload_n C.1 C.2.1 dX12_had_5 rfl h1 ?_
    refine m_aldN C dX12_had_6 rfl h0 ?_
    obtain ⟨hk4, hw⟩ := hw
    refine m_getI C hW rfl hk4 f_X12_145 rfl dX12_had_7 ?_
    refine lv_icmp_lt (tgt := 17) C.1 C.2.1 dX12_had_10 (by decide) (fun hc5 => ?_) (fun hc5 => ?_)
    · have hw := hw.1 hc5
      refine lv_iconst (v := 0) C.1 C.2.1 dX12_had_17 (by decide) ?_
      exact wJ3 S (some a0) 0 H locs ls hW hS hL h0 h1 hw
    · have hw := hw.2 hc5
      exact wJ2 (some a0) ls hL h0 h1 hw
def wp_X12_idle_L44 (l0 : Nat) (l1 : Int32) (K96 : Hp → Int32 → Int64 → Prop) (Q : Int64 → Hp → Prop) : Nat → Hp → Int32 → Int64 → Int32 → Prop
  | 0, _, _, _, _ => False
  | n + 1, S, l2, l3, l5 => hK S l0 = 14 ∧ ((hI S l0 4) ≤ l5 → K96 S l2 l3) ∧ (¬ ((hI S l0 4) ≤ l5) → ∃ b17 : Nat, (hR S l0 28) = some b17 ∧ hK S b17 = 15 ∧ vp_in l5 (hN S b17) ∧ ∀ x20 : Int32, x20 = (if l2 < (hI S b17 (l5 : Int32).toNatClampNeg) then (hI S b17 (l5 : Int32).toNatClampNeg) else l2) → ∃ b21 : Nat, (hR S l0 7) = some b21 ∧ hK S b21 = 15 ∧ vp_in l5 (hN S b21) ∧ ((hI S b21 (l5 : Int32).toNatClampNeg) = l1 → wp_X12_farOf S l0 l5 (fun r27 S26 => ∀ z28 : Int64, z28 = (l3 + ((r27 : Int32).toInt64)) → wp_X12_idle_L44 l0 l1 K96 Q n S26 x20 z28 (l5 + 1))) ∧ (¬ ((hI S b21 (l5 : Int32).toNatClampNeg) = l1) → ∀ z25 : Int64, z25 = (l3 + 0) → wp_X12_idle_L44 l0 l1 K96 Q n S x20 z25 (l5 + 1)))
def wp_X12_idle (S : Hp) (a0 : Nat) (a1 : Int32) (Q : Int64 → Hp → Prop) : Prop := ∃ J3 : Hp → Option Nat → Int32 → Prop, J3 = (fun (S7 : Hp) (o8 : Option Nat) (x9 : Int32) => ∃ b10 : Nat, o8 = some b10 ∧ hK S7 b10 = 14 ∧ hK (sI S7 b10 0 x9) a0 = 14 ∧ (0 < (hI (sI S7 b10 0 x9) a0 0) → Q 0 (sI S7 b10 0 x9)) ∧ (¬ (0 < (hI (sI S7 b10 0 x9) a0 0)) → ((hI (sI S7 b10 0 x9) a0 22) = 0 → Q 0 (sI S7 b10 0 x9)) ∧ (¬ ((hI (sI S7 b10 0 x9) a0 22) = 0) → wp_X12_idle_L44 a0 a1 (fun (S29 : Hp) (x30 : Int32) (z31 : Int64) => hK S29 a0 = 14 ∧ ∃ b33 : Nat, (hR S29 a0 5) = some b33 ∧ hK S29 b33 = 15 ∧ vp_in a1 (hN S29 b33) ∧ Q (((((hI S29 b33 (a1 : Int32).toNatClampNeg) : Int32).toInt64) * ((x30 : Int32).toInt64)) - z31) S29) Q FU (sI S7 b10 0 x9) 0 0 0))) ∧ ∃ J2 : Option Nat → Prop, J2 = (fun (o6 : Option Nat) => J3 S o6 1) ∧ (a1 < 0 → J2 (some a0)) ∧ (¬ (a1 < 0) → hK S a0 = 14 ∧ (a1 < (hI S a0 1) → J3 S (some a0) 0) ∧ (¬ (a1 < (hI S a0 1)) → J2 (some a0)))
set_option maxRecDepth 100000 in
set_option maxHeartbeats 4000000 in
theorem w_X12_idle_L44 {p : Program} {l : Launch} {e : Env} {s : State} {m : MethodId} {args : Array Value} {below : List Frame} {meth : Method} {c : Code} {G : GX} {Q : Int64 → Hp → Prop} {K96 : Hp → Int32 → Int64 → Prop} {l0 : Nat} {l1 : Int32} (C : Cx p s m args meth c cX12_idle 6 RX12 (some .long) "idle" G)
    (k96 : ∀ (S : Hp) (l2 : Int32) (l3 : Int64) (H : Heap) (locs : List Loc) (ls : Array Slot), wd G S H → va_S G.2.2.1 s.heap H locs → LV ls 6 → ls[0]? = some (.val (va_rf (some l0))) → ls[1]? = some (.val (.int l1)) → ls[2]? = some (.val (.int l2)) → ls[3]? = some (.val (.long l3)) → K96 S l2 l3 → W p l e ({ frames := 1, cells := 0, slots := 0, locals := 21 } : Room) s m args below meth c H locs 0 0 (MQ below (QL G Q) args s 0 0 G.2.2.1) (F0 m 96 ls [])) :
    ∀ (n : Nat) (S : Hp) (l2 : Int32) (l3 : Int64) (l5 : Int32) (H : Heap) (locs : List Loc) (ls : Array Slot), wd G S H → va_S G.2.2.1 s.heap H locs → LV ls 6 → ls[0]? = some (.val (va_rf (some l0))) → ls[1]? = some (.val (.int l1)) → ls[2]? = some (.val (.int l2)) → ls[3]? = some (.val (.long l3)) → ls[5]? = some (.val (.int l5)) → wp_X12_idle_L44 l0 l1 K96 Q n S l2 l3 l5 → W p l e ({ frames := 1, cells := 0, slots := 0, locals := 21 } : Room) s m args below meth c H locs 0 0 (MQ below (QL G Q) args s 0 0 G.2.2.1) (F0 m 44 ls []) := by
  intro n
  induction n with
  | zero =>
    intro S l2 l3 l5 H locs ls hW hS hL h0 h1 h2 h3 h5 hw
    exact False.elim hw
  | succ n ih =>
    intro S l2 l3 l5 H locs ls hW hS hL h0 h1 h2 h3 h5 hw
    unfold wp_X12_idle_L44 at hw
    refine lv_iload C.1 C.2.1 dX12_idle_44 h5 ?_
    refine m_aldN C dX12_idle_46 rfl h0 ?_
    obtain ⟨hk15, hw⟩ := hw
    refine m_getI C hW rfl hk15 f_X12_128 rfl dX12_idle_47 ?_
    refine lv_icmp_ge (tgt := 96) C.1 C.2.1 dX12_idle_50 (by decide) (fun hc16 => ?_) (fun hc16 => ?_)
    · have hw := hw.1 hc16
      exact k96 S l2 l3 H locs ls hW hS hL h0 h1 h2 h3 hw
    · have hw := hw.2 hc16
      refine lv_iload_n C.1 C.2.1 dX12_idle_53 rfl h2 ?_
      refine m_aldN C dX12_idle_54 rfl h0 ?_
      refine m_getR C hW rfl hk15 f_X12_69 rfl dX12_idle_55 ?_
      refine lv_iload C.1 C.2.1 dX12_idle_58 h5 ?_
      obtain ⟨b17, ho17, hw⟩ := hw
      obtain ⟨hk18, hw⟩ := hw
      obtain ⟨hi19, hw⟩ := hw
      refine m_iald C hW ho17 hk18 hi19 dX12_idle_60 ?_
      refine va_mmax C.1 C.2.1 (C.2.2.1.trans hL.1.symm) C.2.2.2.1 (C.2.2.2.2.1 _ tw_1336) (C.2.2.2.2.1 _ tw_601) (C.2.2.2.2.1 _ tw_20) (C.2.2.2.2.1 _ tw_602) (Nat.le_of_ble_eq_true rfl) (Nat.le_of_ble_eq_true rfl) (Nat.le_of_ble_eq_true rfl) (Nat.le_of_ble_eq_true rfl) dX12_idle_61 ?_
      refine lv_topi (fun x20 ex20 => ?_)
      have hw := hw x20 ex20
      refine m_istN C hL dX12_idle_64 rfl (by decide) (fun ls hL hn9 hk9 => ?_)
      have h0 := hk9 0 _ h0 (by decide) (Or.inl (by decide))
      have h1 := hk9 1 _ h1 (by decide) (Or.inr (rfl))
      have h3 := hk9 3 _ h3 (by decide) (Or.inl (by decide))
      have h5 := hk9 5 _ h5 (by decide) (Or.inl (by decide))
      have h2 := hn9
      refine lv_lload_n C.1 C.2.1 dX12_idle_65 rfl h3 ?_
      refine m_aldN C dX12_idle_66 rfl h0 ?_
      refine m_getR C hW rfl hk15 f_X12_16 rfl dX12_idle_67 ?_
      refine lv_iload C.1 C.2.1 dX12_idle_70 h5 ?_
      obtain ⟨b21, ho21, hw⟩ := hw
      obtain ⟨hk22, hw⟩ := hw
      obtain ⟨hi23, hw⟩ := hw
      refine m_iald C hW ho21 hk22 hi23 dX12_idle_72 ?_
      refine lv_iload_n C.1 C.2.1 dX12_idle_73 rfl h1 ?_
      refine lv_icmp_ne (tgt := 87) C.1 C.2.1 dX12_idle_74 (by decide) (fun hc24 => ?_) (fun hc24 => ?_)
      · have hw := hw.2 hc24
        refine lv_lconst (v := 0) C.1 C.2.1 dX12_idle_87 (by decide) ?_
        refine lv_ladd C.1 C.2.1 dX12_idle_88 ?_
        refine lv_topl (fun z25 ez25 => ?_)
        have hw := hw z25 ez25
        refine m_lstN C hL dX12_idle_89 rfl (by decide) (fun ls hL hn9 hk9 => ?_)
        have h0 := hk9 0 _ h0 (by decide) (by decide) (Or.inl (by decide))
        have h1 := hk9 1 _ h1 (by decide) (by decide) (Or.inl (by decide))
        have h5 := hk9 5 _ h5 (by decide) (by decide) (Or.inl (by decide))
        have h2 := hk9 2 _ h2 (by decide) (by decide) (Or.inr (rfl))
        have h3 := hn9
        refine m_iinc (v := (l5 + 1)) C hL dX12_idle_90 h5 rfl (by decide) (fun ls hL hn9 hk9 => ?_)
        have h0 := hk9 0 _ h0 (by decide) (Or.inl (by decide))
        have h1 := hk9 1 _ h1 (by decide) (Or.inl (by decide))
        have h2 := hk9 2 _ h2 (by decide) (Or.inl (by decide))
        have h3 := hk9 3 _ h3 (by decide) (Or.inl (by decide))
        have h5 := hn9
        refine lv_goto (tgt := 44) C.1 C.2.1 dX12_idle_93 (by decide) ?_
        exact ih S x20 z25 (l5 + 1) H locs ls hW hS hL h0 h1 h2 h3 h5 hw
      · have hw := hw.1 hc24
        refine m_aldN C dX12_idle_77 rfl h0 ?_
        refine lv_iload C.1 C.2.1 dX12_idle_78 h5 ?_
        refine m_rI (m_runV (As := [.int l5]) (rest := [.long l3]) C hW hS hL (c_X12_farOf hw) v_X12_215 ⟨rfl, rfl⟩ ⟨Nat.le_of_ble_eq_true rfl, Nat.le_of_ble_eq_true rfl⟩ rfl hk15 rfl rfl (Nat.le_of_ble_eq_true rfl) dX12_idle_80 ⟨Nat.le_of_ble_eq_true rfl, Nat.le_of_ble_eq_true rfl⟩) hS (fun r27 S26 H locs hw hW hS => ?_)
        refine lv_i2l (v := ((r27 : Int32).toInt64)) C.1 C.2.1 dX12_idle_83 rfl ?_
        refine lv_goto (tgt := 88) C.1 C.2.1 dX12_idle_84 (by decide) ?_
        refine lv_ladd C.1 C.2.1 dX12_idle_88 ?_
        refine lv_topl (fun z28 ez28 => ?_)
        have hw := hw z28 ez28
        refine m_lstN C hL dX12_idle_89 rfl (by decide) (fun ls hL hn9 hk9 => ?_)
        have h0 := hk9 0 _ h0 (by decide) (by decide) (Or.inl (by decide))
        have h1 := hk9 1 _ h1 (by decide) (by decide) (Or.inl (by decide))
        have h5 := hk9 5 _ h5 (by decide) (by decide) (Or.inl (by decide))
        have h2 := hk9 2 _ h2 (by decide) (by decide) (Or.inr (rfl))
        have h3 := hn9
        refine m_iinc (v := (l5 + 1)) C hL dX12_idle_90 h5 rfl (by decide) (fun ls hL hn9 hk9 => ?_)
        have h0 := hk9 0 _ h0 (by decide) (Or.inl (by decide))
        have h1 := hk9 1 _ h1 (by decide) (Or.inl (by decide))
        have h2 := hk9 2 _ h2 (by decide) (Or.inl (by decide))
        have h3 := hk9 3 _ h3 (by decide) (Or.inl (by decide))
        have h5 := hn9
        refine lv_goto (tgt := 44) C.1 C.2.1 dX12_idle_93 (by decide) ?_
        exact ih S26 x20 z28 (l5 + 1) H locs ls hW hS hL h0 h1 h2 h3 h5 hw
set_option maxRecDepth 100000 in
set_option maxHeartbeats 4000000 in
theorem c_X12_idle {l : Launch} {G : GX} {S : Hp} {a0 : Nat} {a1 : Int32} {Q : Int64 → Hp → Prop} (hw : wp_X12_idle S a0 a1 Q) : Met l yX12_idle (Cond.code yX12_idle cX12_idle 6 (some .long) :: TS) { frames := 1, cells := 0, slots := 0, locals := 21 } (Pk G S [va_rf (some a0), .int a1]) (QL G Q) 0 0 G.2.2.1 := by
  refine m_met (by decide) ?_
  intro p e s m below meth c H locs C hW hS
  have C : Cx p s m ([va_rf (some a0), .int a1] : List Value).toArray meth c cX12_idle 6 RX12 (some .long) "idle" G := C
  obtain ⟨ls, hent, hL, hla⟩ := m_entry m (vs := [va_rf (some a0), .int a1]) (nn := 6) [1, 1] rfl (by decide)
  rw [hent]
  have h0 : ls[0]? = some (.val (va_rf (some a0))) := hla (0, va_rf (some a0)) (List.mem_of_getElem? (i := 0) rfl)
  have h1 : ls[1]? = some (.val (.int a1)) := hla (1, .int a1) (List.mem_of_getElem? (i := 1) rfl)
  clear hla
  generalize ([va_rf (some a0), .int a1] : List Value).toArray = args at C ⊢
  unfold wp_X12_idle at hw
  refine m_aldN C dX12_idle_0 rfl h0 ?_
  refine lv_iload_n C.1 C.2.1 dX12_idle_1 rfl h1 ?_
  obtain ⟨J3, eJ3, hw⟩ := hw
  have wJ3 : ∀ (S7 : Hp) (o8 : Option Nat) (x9 : Int32) (H : Heap) (locs : List Loc) (ls : Array Slot), wd G S7 H → va_S G.2.2.1 s.heap H locs → LV ls 6 → ls[0]? = some (.val (va_rf (some a0))) → ls[1]? = some (.val (.int a1)) → J3 S7 o8 x9 → W p l e ({ frames := 1, cells := 0, slots := 0, locals := 21 } : Room) s m args below meth c H locs 0 0 (MQ below (QL G Q) args s 0 0 G.2.2.1) (F0 m 18 ls [.int x9, va_rf o8]) := by
    intro S7 o8 x9 H locs ls hW hS hL h0 h1 hw
    rw [eJ3] at hw
    obtain ⟨b10, ho10, hw⟩ := hw
    obtain ⟨hk11, hw⟩ := hw
    refine m_putI C hW hS ho10 hk11 p_X12_124 (fun z => by cases z) rfl dX12_idle_18 (fun H locs hW hS => ?_)
    refine m_aldN C dX12_idle_21 rfl h0 ?_
    obtain ⟨hk12, hw⟩ := hw
    refine m_getI C hW rfl hk12 f_X12_124 rfl dX12_idle_22 ?_
    refine lv_if_gt (tgt := 35) C.1 C.2.1 dX12_idle_25 (by decide) (fun hc13 => ?_) (fun hc13 => ?_)
    · have hw := hw.1 hc13
      refine lv_lconst (v := 0) C.1 C.2.1 dX12_idle_35 (by decide) ?_
      exact m_lret C hW hS hw dX12_idle_36
    · have hw := hw.2 hc13
      refine m_aldN C dX12_idle_28 rfl h0 ?_
      refine m_getI C hW rfl hk12 f_X12_131 rfl dX12_idle_29 ?_
      refine lv_if_ne (tgt := 37) C.1 C.2.1 dX12_idle_32 (by decide) (fun hc14 => ?_) (fun hc14 => ?_)
      · have hw := hw.2 hc14
        refine lv_iconst (v := 0) C.1 C.2.1 dX12_idle_37 (by decide) ?_
        refine m_istN C hL dX12_idle_38 rfl (by decide) (fun ls hL hn9 hk9 => ?_)
        have h0 := hk9 0 _ h0 (by decide) (Or.inl (by decide))
        have h1 := hk9 1 _ h1 (by decide) (Or.inr (rfl))
        have h2 := hn9
        refine lv_lconst (v := 0) C.1 C.2.1 dX12_idle_39 (by decide) ?_
        refine m_lstN C hL dX12_idle_40 rfl (by decide) (fun ls hL hn9 hk9 => ?_)
        have h0 := hk9 0 _ h0 (by decide) (by decide) (Or.inl (by decide))
        have h1 := hk9 1 _ h1 (by decide) (by decide) (Or.inl (by decide))
        have h2 := hk9 2 _ h2 (by decide) (by decide) (Or.inr (rfl))
        have h3 := hn9
        refine lv_iconst (v := 0) C.1 C.2.1 dX12_idle_41 (by decide) ?_
        refine m_ist C hL dX12_idle_42 (by decide) (fun ls hL hn9 hk9 => ?_)
        have h0 := hk9 0 _ h0 (by decide) (Or.inl (by decide))
        have h1 := hk9 1 _ h1 (by decide) (Or.inl (by decide))
        have h2 := hk9 2 _ h2 (by decide) (Or.inl (by decide))
        have h3 := hk9 3 _ h3 (by decide) (Or.inl (by decide))
        have h5 := hn9
        refine w_X12_idle_L44 C ?_ FU (sI S7 b10 0 x9) 0 0 0 H locs ls hW hS hL h0 h1 h2 h3 h5 hw
        · intro S29 x30 z31 H locs ls hW hS hL h0 h1 h2 h3 hw
          refine m_aldN C dX12_idle_96 rfl h0 ?_
          obtain ⟨hk32, hw⟩ := hw
          refine m_getR C hW rfl hk32 f_X12_9 rfl dX12_idle_97 ?_
          refine lv_iload_n C.1 C.2.1 dX12_idle_100 rfl h1 ?_
          obtain ⟨b33, ho33, hw⟩ := hw
          obtain ⟨hk34, hw⟩ := hw
          obtain ⟨hi35, hw⟩ := hw
          refine m_iald C hW ho33 hk34 hi35 dX12_idle_101 ?_
          refine lv_i2l (v := (((hI S29 b33 (a1 : Int32).toNatClampNeg) : Int32).toInt64)) C.1 C.2.1 dX12_idle_102 rfl ?_
          refine lv_iload_n C.1 C.2.1 dX12_idle_103 rfl h2 ?_
          refine lv_i2l (v := ((x30 : Int32).toInt64)) C.1 C.2.1 dX12_idle_104 rfl ?_
          refine lv_lmul C.1 C.2.1 dX12_idle_105 ?_
          refine lv_lload_n C.1 C.2.1 dX12_idle_106 rfl h3 ?_
          refine lv_lsub C.1 C.2.1 dX12_idle_107 ?_
          exact m_lret C hW hS hw dX12_idle_108
      · have hw := hw.1 hc14
        refine lv_lconst (v := 0) C.1 C.2.1 dX12_idle_35 (by decide) ?_
        exact m_lret C hW hS hw dX12_idle_36
  obtain ⟨J2, eJ2, hw⟩ := hw
  have wJ2 : ∀ (o6 : Option Nat) (ls : Array Slot), LV ls 6 → ls[0]? = some (.val (va_rf (some a0))) → ls[1]? = some (.val (.int a1)) → J2 o6 → W p l e ({ frames := 1, cells := 0, slots := 0, locals := 21 } : Room) s m args below meth c H locs 0 0 (MQ below (QL G Q) args s 0 0 G.2.2.1) (F0 m 13 ls [va_rf o6]) := by
    intro o6 ls hL h0 h1 hw
    rw [eJ2] at hw
    refine lv_iconst (v := 1) C.1 C.2.1 dX12_idle_13 (by decide) ?_
    refine lv_goto (tgt := 18) C.1 C.2.1 dX12_idle_14 (by decide) ?_
    exact wJ3 S o6 1 H locs ls hW hS hL h0 h1 hw
  refine lv_if_lt (tgt := 13) C.1 C.2.1 dX12_idle_2 (by decide) (fun hc1 => ?_) (fun hc1 => ?_)
  · have hw := hw.1 hc1
    exact wJ2 (some a0) ls hL h0 h1 hw
  · have hw := hw.2 hc1
    refine lv_iload_n C.1 C.2.1 dX12_idle_5 rfl h1 ?_
    refine m_aldN C dX12_idle_6 rfl h0 ?_
    obtain ⟨hk4, hw⟩ := hw
    refine m_getI C hW rfl hk4 f_X12_135 rfl dX12_idle_7 ?_
    refine lv_icmp_lt (tgt := 17) C.1 C.2.1 dX12_idle_10 (by decide) (fun hc5 => ?_) (fun hc5 => ?_)
    · have hw := hw.1 hc5
      refine lv_iconst (v := 0) C.1 C.2.1 dX12_idle_17 (by decide) ?_
      exact wJ3 S (some a0) 0 H locs ls hW hS hL h0 h1 hw
    · have hw := hw.2 hc5
      exact wJ2 (some a0) ls hL h0 h1 hw
def wp_X12_log (S : Hp) (a0 : Nat) (a1 : Int32) (a2 : Int32) (Q : Int32 → Hp → Prop) : Prop := hK S a0 = 14 ∧ ((hI (sI S a0 0 0) a0 22) = 0 → Q (-1) (sI S a0 0 0)) ∧ (¬ ((hI (sI S a0 0 0) a0 22) = 0) → (a1 < 0 → Q (-1) (sI S a0 0 0)) ∧ (¬ (a1 < 0) → (a1 < (hI (sI S a0 0 0) a0 25) → (a2 = 0 → ∃ b14 : Nat, (hR (sI S a0 0 0) a0 36) = some b14 ∧ hK (sI S a0 0 0) b14 = 15 ∧ vp_in a1 (hN (sI S a0 0 0) b14) ∧ Q (hI (sI S a0 0 0) b14 (a1 : Int32).toNatClampNeg) (sI S a0 0 0)) ∧ (¬ (a2 = 0) → (a2 = 1 → ∃ b11 : Nat, (hR (sI S a0 0 0) a0 37) = some b11 ∧ hK (sI S a0 0 0) b11 = 15 ∧ vp_in a1 (hN (sI S a0 0 0) b11) ∧ Q (hI (sI S a0 0 0) b11 (a1 : Int32).toNatClampNeg) (sI S a0 0 0)) ∧ (¬ (a2 = 1) → (a2 = 2 → ∃ b8 : Nat, (hR (sI S a0 0 0) a0 38) = some b8 ∧ hK (sI S a0 0 0) b8 = 15 ∧ vp_in a1 (hN (sI S a0 0 0) b8) ∧ Q (hI (sI S a0 0 0) b8 (a1 : Int32).toNatClampNeg) (sI S a0 0 0)) ∧ (¬ (a2 = 2) → Q (-1) (sI S a0 0 0))))) ∧ (¬ (a1 < (hI (sI S a0 0 0) a0 25)) → Q (-1) (sI S a0 0 0))))
set_option maxRecDepth 100000 in
set_option maxHeartbeats 4000000 in
theorem c_X12_log {l : Launch} {G : GX} {S : Hp} {a0 : Nat} {a1 : Int32} {a2 : Int32} {Q : Int32 → Hp → Prop} (hw : wp_X12_log S a0 a1 a2 Q) : Met l yX12_log (Cond.code yX12_log cX12_log 3 (some .int) :: TS) { frames := 0, cells := 0, slots := 0, locals := 0 } (Pk G S [va_rf (some a0), .int a1, .int a2]) (QI G Q) 0 0 G.2.2.1 := by
  refine m_met (by decide) ?_
  intro p e s m below meth c H locs C hW hS
  have C : Cx p s m ([va_rf (some a0), .int a1, .int a2] : List Value).toArray meth c cX12_log 3 RX12 (some .int) "log" G := C
  obtain ⟨ls, hent, hL, hla⟩ := m_entry m (vs := [va_rf (some a0), .int a1, .int a2]) (nn := 3) [1, 1, 1] rfl (by decide)
  rw [hent]
  have h0 : ls[0]? = some (.val (va_rf (some a0))) := hla (0, va_rf (some a0)) (List.mem_of_getElem? (i := 0) rfl)
  have h1 : ls[1]? = some (.val (.int a1)) := hla (1, .int a1) (List.mem_of_getElem? (i := 1) rfl)
  have h2 : ls[2]? = some (.val (.int a2)) := hla (2, .int a2) (List.mem_of_getElem? (i := 2) rfl)
  clear hla
  generalize ([va_rf (some a0), .int a1, .int a2] : List Value).toArray = args at C ⊢
  unfold wp_X12_log at hw
  refine m_aldN C dX12_log_0 rfl h0 ?_
  refine lv_iconst (v := 0) C.1 C.2.1 dX12_log_1 (by decide) ?_
  obtain ⟨hk1, hw⟩ := hw
  refine m_putI C hW hS rfl hk1 p_X12_124 (fun z => by cases z) rfl dX12_log_2 (fun H locs hW hS => ?_)
  refine m_aldN C dX12_log_5 rfl h0 ?_
  refine m_getI C hW rfl hk1 f_X12_131 rfl dX12_log_6 ?_
  refine lv_if_eq (tgt := 24) C.1 C.2.1 dX12_log_9 (by decide) (fun hc2 => ?_) (fun hc2 => ?_)
  · have hw := hw.1 hc2
    refine lv_iconst (v := (-1)) C.1 C.2.1 dX12_log_24 (by decide) ?_
    exact m_iret C hW hS hw dX12_log_25
  · have hw := hw.2 hc2
    refine lv_iload_n C.1 C.2.1 dX12_log_12 rfl h1 ?_
    refine lv_if_lt (tgt := 24) C.1 C.2.1 dX12_log_13 (by decide) (fun hc3 => ?_) (fun hc3 => ?_)
    · have hw := hw.1 hc3
      refine lv_iconst (v := (-1)) C.1 C.2.1 dX12_log_24 (by decide) ?_
      exact m_iret C hW hS hw dX12_log_25
    · have hw := hw.2 hc3
      refine lv_iload_n C.1 C.2.1 dX12_log_16 rfl h1 ?_
      refine m_aldN C dX12_log_17 rfl h0 ?_
      refine m_getI C hW rfl hk1 f_X12_199 rfl dX12_log_18 ?_
      refine lv_icmp_lt (tgt := 26) C.1 C.2.1 dX12_log_21 (by decide) (fun hc4 => ?_) (fun hc4 => ?_)
      · have hw := hw.1 hc4
        refine lv_iload_n C.1 C.2.1 dX12_log_26 rfl h2 ?_
        refine lv_if_ne (tgt := 39) C.1 C.2.1 dX12_log_27 (by decide) (fun hc5 => ?_) (fun hc5 => ?_)
        · have hw := hw.2 hc5
          refine lv_iload_n C.1 C.2.1 dX12_log_39 rfl h2 ?_
          refine lv_iconst (v := 1) C.1 C.2.1 dX12_log_40 (by decide) ?_
          refine lv_icmp_ne (tgt := 53) C.1 C.2.1 dX12_log_41 (by decide) (fun hc6 => ?_) (fun hc6 => ?_)
          · have hw := hw.2 hc6
            refine lv_iload_n C.1 C.2.1 dX12_log_53 rfl h2 ?_
            refine lv_iconst (v := 2) C.1 C.2.1 dX12_log_54 (by decide) ?_
            refine lv_icmp_ne (tgt := 67) C.1 C.2.1 dX12_log_55 (by decide) (fun hc7 => ?_) (fun hc7 => ?_)
            · have hw := hw.2 hc7
              refine lv_iconst (v := (-1)) C.1 C.2.1 dX12_log_67 (by decide) ?_
              exact m_iret C hW hS hw dX12_log_68
            · have hw := hw.1 hc7
              refine m_aldN C dX12_log_58 rfl h0 ?_
              refine m_getR C hW rfl hk1 f_X12_100 rfl dX12_log_59 ?_
              refine lv_iload_n C.1 C.2.1 dX12_log_62 rfl h1 ?_
              obtain ⟨b8, ho8, hw⟩ := hw
              obtain ⟨hk9, hw⟩ := hw
              obtain ⟨hi10, hw⟩ := hw
              refine m_iald C hW ho8 hk9 hi10 dX12_log_63 ?_
              refine lv_goto (tgt := 68) C.1 C.2.1 dX12_log_64 (by decide) ?_
              exact m_iret C hW hS hw dX12_log_68
          · have hw := hw.1 hc6
            refine m_aldN C dX12_log_44 rfl h0 ?_
            refine m_getR C hW rfl hk1 f_X12_97 rfl dX12_log_45 ?_
            refine lv_iload_n C.1 C.2.1 dX12_log_48 rfl h1 ?_
            obtain ⟨b11, ho11, hw⟩ := hw
            obtain ⟨hk12, hw⟩ := hw
            obtain ⟨hi13, hw⟩ := hw
            refine m_iald C hW ho11 hk12 hi13 dX12_log_49 ?_
            refine lv_goto (tgt := 68) C.1 C.2.1 dX12_log_50 (by decide) ?_
            exact m_iret C hW hS hw dX12_log_68
        · have hw := hw.1 hc5
          refine m_aldN C dX12_log_30 rfl h0 ?_
          refine m_getR C hW rfl hk1 f_X12_94 rfl dX12_log_31 ?_
          refine lv_iload_n C.1 C.2.1 dX12_log_34 rfl h1 ?_
          obtain ⟨b14, ho14, hw⟩ := hw
          obtain ⟨hk15, hw⟩ := hw
          obtain ⟨hi16, hw⟩ := hw
          refine m_iald C hW ho14 hk15 hi16 dX12_log_35 ?_
          refine lv_goto (tgt := 68) C.1 C.2.1 dX12_log_36 (by decide) ?_
          exact m_iret C hW hS hw dX12_log_68
      · have hw := hw.2 hc4
        refine lv_iconst (v := (-1)) C.1 C.2.1 dX12_log_24 (by decide) ?_
        exact m_iret C hW hS hw dX12_log_25
def wp_X12_lengths_L2 (l0 : Nat) (K40 : Hp → Prop) (Q : Int32 → Hp → Prop) : Nat → Hp → Int32 → Prop
  | 0, _, _ => False
  | n + 1, S, l1 => hK S l0 = 14 ∧ ((hI S l0 4) ≤ l1 → K40 S) ∧ (¬ ((hI S l0 4) ≤ l1) → ∃ b3 : Nat, (hR S l0 8) = some b3 ∧ hK S b3 = 15 ∧ vp_in l1 (hN S b3) ∧ ∃ b6 : Nat, (hR S l0 46) = some b6 ∧ hK S b6 = 15 ∧ vp_in l1 (hN S b6) ∧ ∃ b9 : Nat, (hR (sI S b6 (l1 : Int32).toNatClampNeg (hI S b3 (l1 : Int32).toNatClampNeg)) l0 8) = some b9 ∧ hK (sI S b6 (l1 : Int32).toNatClampNeg (hI S b3 (l1 : Int32).toNatClampNeg)) b9 = 15 ∧ vp_in l1 (hN (sI S b6 (l1 : Int32).toNatClampNeg (hI S b3 (l1 : Int32).toNatClampNeg)) b9) ∧ ∃ b12 : Nat, (hR (sI S b6 (l1 : Int32).toNatClampNeg (hI S b3 (l1 : Int32).toNatClampNeg)) l0 47) = some b12 ∧ hK (sI S b6 (l1 : Int32).toNatClampNeg (hI S b3 (l1 : Int32).toNatClampNeg)) b12 = 15 ∧ vp_in l1 (hN (sI S b6 (l1 : Int32).toNatClampNeg (hI S b3 (l1 : Int32).toNatClampNeg)) b12) ∧ wp_X12_lengths_L2 l0 K40 Q n (sI (sI S b6 (l1 : Int32).toNatClampNeg (hI S b3 (l1 : Int32).toNatClampNeg)) b12 (l1 : Int32).toNatClampNeg (hI (sI S b6 (l1 : Int32).toNatClampNeg (hI S b3 (l1 : Int32).toNatClampNeg)) b9 (l1 : Int32).toNatClampNeg)) (l1 + 1))
def wp_X12_lengths_L60 (l0 : Nat) (l2 : Int32) (K178 : Hp → Int32 → Prop) (Q : Int32 → Hp → Prop) : Nat → Hp → Int32 → Int32 → Prop
  | 0, _, _, _ => False
  | n + 1, S, l1, l3 => hK S l0 = 14 ∧ ((hI S l0 4) ≤ l3 → K178 S l1) ∧ (¬ ((hI S l0 4) ≤ l3) → ∃ b21 : Nat, (hR S l0 10) = some b21 ∧ hK S b21 = 17 ∧ vp_in ((200 * l2) + l3) (hN S b21) ∧ ((hI S b21 (((200 * l2) + l3) : Int32).toNatClampNeg) = 0 → wp_X12_lengths_L60 l0 l2 K178 Q n S l1 (l3 + 1)) ∧ (¬ ((hI S b21 (((200 * l2) + l3) : Int32).toNatClampNeg) = 0) → ∃ b25 : Nat, (hR S l0 8) = some b25 ∧ hK S b25 = 15 ∧ vp_in l3 (hN S b25) ∧ ∃ b28 : Nat, (hR S l0 46) = some b28 ∧ hK S b28 = 15 ∧ vp_in l2 (hN S b28) ∧ vp_in l3 (hN S b28) ∧ ∃ J33 : Hp → Int32 → Prop, J33 = (fun (S37 : Hp) (x38 : Int32) => hK S37 l0 = 14 ∧ ∃ b40 : Nat, (hR S37 l0 8) = some b40 ∧ hK S37 b40 = 15 ∧ vp_in l2 (hN S37 b40) ∧ ∃ b43 : Nat, (hR S37 l0 47) = some b43 ∧ hK S37 b43 = 15 ∧ vp_in l3 (hN S37 b43) ∧ vp_in l2 (hN S37 b43) ∧ (((hI S37 b40 (l2 : Int32).toNatClampNeg) + (hI S37 b43 (l3 : Int32).toNatClampNeg)) ≤ (hI S37 b43 (l2 : Int32).toNatClampNeg) → wp_X12_lengths_L60 l0 l2 K178 Q n S37 x38 (l3 + 1)) ∧ (¬ (((hI S37 b40 (l2 : Int32).toNatClampNeg) + (hI S37 b43 (l3 : Int32).toNatClampNeg)) ≤ (hI S37 b43 (l2 : Int32).toNatClampNeg)) → vp_in l2 (hN S37 b40) ∧ vp_in l3 (hN S37 b43) ∧ vp_in l2 (hN S37 b43) ∧ wp_X12_lengths_L60 l0 l2 K178 Q n (sI S37 b43 (l2 : Int32).toNatClampNeg ((hI S37 b40 (l2 : Int32).toNatClampNeg) + (hI S37 b43 (l3 : Int32).toNatClampNeg))) 1 (l3 + 1))) ∧ (((hI S b25 (l3 : Int32).toNatClampNeg) + (hI S b28 (l2 : Int32).toNatClampNeg)) ≤ (hI S b28 (l3 : Int32).toNatClampNeg) → J33 S l1) ∧ (¬ (((hI S b25 (l3 : Int32).toNatClampNeg) + (hI S b28 (l2 : Int32).toNatClampNeg)) ≤ (hI S b28 (l3 : Int32).toNatClampNeg)) → vp_in l3 (hN S b25) ∧ vp_in l2 (hN S b28) ∧ vp_in l3 (hN S b28) ∧ J33 (sI S b28 (l3 : Int32).toNatClampNeg ((hI S b25 (l3 : Int32).toNatClampNeg) + (hI S b28 (l2 : Int32).toNatClampNeg))) 1)))
def wp_X12_lengths_L50 (l0 : Nat) (K184 : Hp → Int32 → Prop) (Q : Int32 → Hp → Prop) : Nat → Hp → Int32 → Int32 → Prop
  | 0, _, _, _ => False
  | n + 1, S, l1, l2 => hK S l0 = 14 ∧ ((hI S l0 4) ≤ l2 → K184 S l1) ∧ (¬ ((hI S l0 4) ≤ l2) → wp_X12_lengths_L60 l0 l2 (fun (S51 : Hp) (x52 : Int32) => wp_X12_lengths_L50 l0 K184 Q n S51 x52 (l2 + 1)) Q FU S l1 0)
def wp_X12_lengths_L42 (l0 : Nat) (K187 : Hp → Prop) (Q : Int32 → Hp → Prop) : Nat → Hp → Int32 → Prop
  | 0, _, _ => False
  | n + 1, S, l1 => (l1 = 0 → K187 S) ∧ (¬ (l1 = 0) → wp_X12_lengths_L50 l0 (fun (S53 : Hp) (x54 : Int32) => wp_X12_lengths_L42 l0 K187 Q n S53 x54) Q FU S 0 0)
def wp_X12_lengths_L191 (l0 : Nat) (Q : Int32 → Hp → Prop) : Nat → Hp → Int32 → Int32 → Prop
  | 0, _, _, _ => False
  | n + 1, S, l2, l3 => hK S l0 = 14 ∧ ((hI S l0 4) ≤ l3 → Q l2 S) ∧ (¬ ((hI S l0 4) ≤ l3) → ∃ b58 : Nat, (hR S l0 46) = some b58 ∧ hK S b58 = 15 ∧ vp_in l3 (hN S b58) ∧ ∀ x61 : Int32, x61 = (if l2 < (hI S b58 (l3 : Int32).toNatClampNeg) then (hI S b58 (l3 : Int32).toNatClampNeg) else l2) → wp_X12_lengths_L191 l0 Q n S x61 (l3 + 1))
def wp_X12_lengths (S : Hp) (a0 : Nat) (Q : Int32 → Hp → Prop) : Prop := wp_X12_lengths_L2 a0 (fun (S15 : Hp) => wp_X12_lengths_L42 a0 (fun (S55 : Hp) => wp_X12_lengths_L191 a0 Q FU S55 0 0) Q FU S15 1) Q FU S 0
set_option maxRecDepth 100000 in
set_option maxHeartbeats 4000000 in
theorem w_X12_lengths_L2 {p : Program} {l : Launch} {e : Env} {s : State} {m : MethodId} {args : Array Value} {below : List Frame} {meth : Method} {c : Code} {G : GX} {Q : Int32 → Hp → Prop} {K40 : Hp → Prop} {l0 : Nat} (C : Cx p s m args meth c cX12_lengths 4 RX12 (some .int) "lengths" G)
    (k40 : ∀ (S : Hp) (H : Heap) (locs : List Loc) (ls : Array Slot), wd G S H → va_S G.2.2.1 s.heap H locs → LV ls 4 → ls[0]? = some (.val (va_rf (some l0))) → K40 S → W p l e ({ frames := 1, cells := 0, slots := 0, locals := 21 } : Room) s m args below meth c H locs 0 0 (MQ below (QI G Q) args s 0 0 G.2.2.1) (F0 m 40 ls [])) :
    ∀ (n : Nat) (S : Hp) (l1 : Int32) (H : Heap) (locs : List Loc) (ls : Array Slot), wd G S H → va_S G.2.2.1 s.heap H locs → LV ls 4 → ls[0]? = some (.val (va_rf (some l0))) → ls[1]? = some (.val (.int l1)) → wp_X12_lengths_L2 l0 K40 Q n S l1 → W p l e ({ frames := 1, cells := 0, slots := 0, locals := 21 } : Room) s m args below meth c H locs 0 0 (MQ below (QI G Q) args s 0 0 G.2.2.1) (F0 m 2 ls []) := by
  intro n
  induction n with
  | zero =>
    intro S l1 H locs ls hW hS hL h0 h1 hw
    exact False.elim hw
  | succ n ih =>
    intro S l1 H locs ls hW hS hL h0 h1 hw
    unfold wp_X12_lengths_L2 at hw
    refine lv_iload_n C.1 C.2.1 dX12_lengths_2 rfl h1 ?_
    refine m_aldN C dX12_lengths_3 rfl h0 ?_
    obtain ⟨hk1, hw⟩ := hw
    refine m_getI C hW rfl hk1 f_X12_128 rfl dX12_lengths_4 ?_
    refine lv_icmp_ge (tgt := 40) C.1 C.2.1 dX12_lengths_7 (by decide) (fun hc2 => ?_) (fun hc2 => ?_)
    · have hw := hw.1 hc2
      exact k40 S H locs ls hW hS hL h0 hw
    · have hw := hw.2 hc2
      refine m_aldN C dX12_lengths_10 rfl h0 ?_
      refine m_getR C hW rfl hk1 f_X12_118 rfl dX12_lengths_11 ?_
      refine lv_iload_n C.1 C.2.1 dX12_lengths_14 rfl h1 ?_
      refine m_aldN C dX12_lengths_15 rfl h0 ?_
      refine m_getR C hW rfl hk1 f_X12_19 rfl dX12_lengths_16 ?_
      refine lv_iload_n C.1 C.2.1 dX12_lengths_19 rfl h1 ?_
      obtain ⟨b3, ho3, hw⟩ := hw
      obtain ⟨hk4, hw⟩ := hw
      obtain ⟨hi5, hw⟩ := hw
      refine m_iald C hW ho3 hk4 hi5 dX12_lengths_20 ?_
      obtain ⟨b6, ho6, hw⟩ := hw
      obtain ⟨hk7, hw⟩ := hw
      obtain ⟨hi8, hw⟩ := hw
      refine m_iast C hW hS ho6 hk7 hi8 dX12_lengths_21 (fun H locs hW hS => ?_)
      refine m_aldN C dX12_lengths_22 rfl h0 ?_
      refine m_getR C hW rfl hk1 f_X12_121 rfl dX12_lengths_23 ?_
      refine lv_iload_n C.1 C.2.1 dX12_lengths_26 rfl h1 ?_
      refine m_aldN C dX12_lengths_27 rfl h0 ?_
      refine m_getR C hW rfl hk1 f_X12_19 rfl dX12_lengths_28 ?_
      refine lv_iload_n C.1 C.2.1 dX12_lengths_31 rfl h1 ?_
      obtain ⟨b9, ho9, hw⟩ := hw
      obtain ⟨hk10, hw⟩ := hw
      obtain ⟨hi11, hw⟩ := hw
      refine m_iald C hW ho9 hk10 hi11 dX12_lengths_32 ?_
      obtain ⟨b12, ho12, hw⟩ := hw
      obtain ⟨hk13, hw⟩ := hw
      obtain ⟨hi14, hw⟩ := hw
      refine m_iast C hW hS ho12 hk13 hi14 dX12_lengths_33 (fun H locs hW hS => ?_)
      refine m_iinc (v := (l1 + 1)) C hL dX12_lengths_34 h1 rfl (by decide) (fun ls hL hn9 hk9 => ?_)
      have h0 := hk9 0 _ h0 (by decide) (Or.inr (va_rf_cat _))
      have h1 := hn9
      refine lv_goto (tgt := 2) C.1 C.2.1 dX12_lengths_37 (by decide) ?_
      exact ih (sI (sI S b6 (l1 : Int32).toNatClampNeg (hI S b3 (l1 : Int32).toNatClampNeg)) b12 (l1 : Int32).toNatClampNeg (hI (sI S b6 (l1 : Int32).toNatClampNeg (hI S b3 (l1 : Int32).toNatClampNeg)) b9 (l1 : Int32).toNatClampNeg)) (l1 + 1) H locs ls hW hS hL h0 h1 hw
set_option maxRecDepth 100000 in
set_option maxHeartbeats 4000000 in
theorem w_X12_lengths_L60 {p : Program} {l : Launch} {e : Env} {s : State} {m : MethodId} {args : Array Value} {below : List Frame} {meth : Method} {c : Code} {G : GX} {Q : Int32 → Hp → Prop} {K178 : Hp → Int32 → Prop} {l0 : Nat} {l2 : Int32} (C : Cx p s m args meth c cX12_lengths 4 RX12 (some .int) "lengths" G)
    (k178 : ∀ (S : Hp) (l1 : Int32) (H : Heap) (locs : List Loc) (ls : Array Slot), wd G S H → va_S G.2.2.1 s.heap H locs → LV ls 4 → ls[0]? = some (.val (va_rf (some l0))) → ls[1]? = some (.val (.int l1)) → ls[2]? = some (.val (.int l2)) → K178 S l1 → W p l e ({ frames := 1, cells := 0, slots := 0, locals := 21 } : Room) s m args below meth c H locs 0 0 (MQ below (QI G Q) args s 0 0 G.2.2.1) (F0 m 178 ls [])) :
    ∀ (n : Nat) (S : Hp) (l1 : Int32) (l3 : Int32) (H : Heap) (locs : List Loc) (ls : Array Slot), wd G S H → va_S G.2.2.1 s.heap H locs → LV ls 4 → ls[0]? = some (.val (va_rf (some l0))) → ls[1]? = some (.val (.int l1)) → ls[2]? = some (.val (.int l2)) → ls[3]? = some (.val (.int l3)) → wp_X12_lengths_L60 l0 l2 K178 Q n S l1 l3 → W p l e ({ frames := 1, cells := 0, slots := 0, locals := 21 } : Room) s m args below meth c H locs 0 0 (MQ below (QI G Q) args s 0 0 G.2.2.1) (F0 m 60 ls []) := by
  intro n
  induction n with
  | zero =>
    intro S l1 l3 H locs ls hW hS hL h0 h1 h2 h3 hw
    exact False.elim hw
  | succ n ih =>
    intro S l1 l3 H locs ls hW hS hL h0 h1 h2 h3 hw
    unfold wp_X12_lengths_L60 at hw
    refine lv_iload_n C.1 C.2.1 dX12_lengths_60 rfl h3 ?_
    refine m_aldN C dX12_lengths_61 rfl h0 ?_
    obtain ⟨hk19, hw⟩ := hw
    refine m_getI C hW rfl hk19 f_X12_128 rfl dX12_lengths_62 ?_
    refine lv_icmp_ge (tgt := 178) C.1 C.2.1 dX12_lengths_65 (by decide) (fun hc20 => ?_) (fun hc20 => ?_)
    · have hw := hw.1 hc20
      exact k178 S l1 H locs ls hW hS hL h0 h1 h2 hw
    · have hw := hw.2 hc20
      refine m_aldN C dX12_lengths_68 rfl h0 ?_
      refine m_getR C hW rfl hk19 f_X12_26 rfl dX12_lengths_69 ?_
      refine lv_sipush (v := 200) C.1 C.2.1 dX12_lengths_72 (by decide) ?_
      refine lv_iload_n C.1 C.2.1 dX12_lengths_75 rfl h2 ?_
      refine lv_imul C.1 C.2.1 dX12_lengths_76 ?_
      refine lv_iload_n C.1 C.2.1 dX12_lengths_77 rfl h3 ?_
      refine lv_iadd C.1 C.2.1 dX12_lengths_78 ?_
      obtain ⟨b21, ho21, hw⟩ := hw
      obtain ⟨hk22, hw⟩ := hw
      obtain ⟨hi23, hw⟩ := hw
      refine m_zald C hW ho21 hk22 hi23 dX12_lengths_79 ?_
      refine lv_if_ne (tgt := 86) C.1 C.2.1 dX12_lengths_80 (by decide) (fun hc24 => ?_) (fun hc24 => ?_)
      · have hw := hw.2 hc24
        refine m_aldN C dX12_lengths_86 rfl h0 ?_
        refine m_getR C hW rfl hk19 f_X12_19 rfl dX12_lengths_87 ?_
        refine lv_iload_n C.1 C.2.1 dX12_lengths_90 rfl h3 ?_
        obtain ⟨b25, ho25, hw⟩ := hw
        obtain ⟨hk26, hw⟩ := hw
        obtain ⟨hi27, hw⟩ := hw
        refine m_iald C hW ho25 hk26 hi27 dX12_lengths_91 ?_
        refine m_aldN C dX12_lengths_92 rfl h0 ?_
        refine m_getR C hW rfl hk19 f_X12_118 rfl dX12_lengths_93 ?_
        refine lv_iload_n C.1 C.2.1 dX12_lengths_96 rfl h2 ?_
        obtain ⟨b28, ho28, hw⟩ := hw
        obtain ⟨hk29, hw⟩ := hw
        obtain ⟨hi30, hw⟩ := hw
        refine m_iald C hW ho28 hk29 hi30 dX12_lengths_97 ?_
        refine lv_iadd C.1 C.2.1 dX12_lengths_98 ?_
        refine m_aldN C dX12_lengths_99 rfl h0 ?_
        refine m_getR C hW rfl hk19 f_X12_118 rfl dX12_lengths_100 ?_
        refine lv_iload_n C.1 C.2.1 dX12_lengths_103 rfl h3 ?_
        obtain ⟨hi31, hw⟩ := hw
        refine m_iald C hW ho28 hk29 hi31 dX12_lengths_104 ?_
        obtain ⟨J33, eJ33, hw⟩ := hw
        have wJ33 : ∀ (S37 : Hp) (x38 : Int32) (H : Heap) (locs : List Loc) (ls : Array Slot), wd G S37 H → va_S G.2.2.1 s.heap H locs → LV ls 4 → ls[0]? = some (.val (va_rf (some l0))) → ls[1]? = some (.val (.int x38)) → ls[2]? = some (.val (.int l2)) → ls[3]? = some (.val (.int l3)) → J33 S37 x38 → W p l e ({ frames := 1, cells := 0, slots := 0, locals := 21 } : Room) s m args below meth c H locs 0 0 (MQ below (QI G Q) args s 0 0 G.2.2.1) (F0 m 129 ls []) := by
          intro S37 x38 H locs ls hW hS hL h0 h1 h2 h3 hw
          rw [eJ33] at hw
          refine m_aldN C dX12_lengths_129 rfl h0 ?_
          obtain ⟨hk39, hw⟩ := hw
          refine m_getR C hW rfl hk39 f_X12_19 rfl dX12_lengths_130 ?_
          refine lv_iload_n C.1 C.2.1 dX12_lengths_133 rfl h2 ?_
          obtain ⟨b40, ho40, hw⟩ := hw
          obtain ⟨hk41, hw⟩ := hw
          obtain ⟨hi42, hw⟩ := hw
          refine m_iald C hW ho40 hk41 hi42 dX12_lengths_134 ?_
          refine m_aldN C dX12_lengths_135 rfl h0 ?_
          refine m_getR C hW rfl hk39 f_X12_121 rfl dX12_lengths_136 ?_
          refine lv_iload_n C.1 C.2.1 dX12_lengths_139 rfl h3 ?_
          obtain ⟨b43, ho43, hw⟩ := hw
          obtain ⟨hk44, hw⟩ := hw
          obtain ⟨hi45, hw⟩ := hw
          refine m_iald C hW ho43 hk44 hi45 dX12_lengths_140 ?_
          refine lv_iadd C.1 C.2.1 dX12_lengths_141 ?_
          refine m_aldN C dX12_lengths_142 rfl h0 ?_
          refine m_getR C hW rfl hk39 f_X12_121 rfl dX12_lengths_143 ?_
          refine lv_iload_n C.1 C.2.1 dX12_lengths_146 rfl h2 ?_
          obtain ⟨hi46, hw⟩ := hw
          refine m_iald C hW ho43 hk44 hi46 dX12_lengths_147 ?_
          refine lv_icmp_le (tgt := 172) C.1 C.2.1 dX12_lengths_148 (by decide) (fun hc47 => ?_) (fun hc47 => ?_)
          · have hw := hw.1 hc47
            refine m_iinc (v := (l3 + 1)) C hL dX12_lengths_172 h3 rfl (by decide) (fun ls hL hn9 hk9 => ?_)
            have h0 := hk9 0 _ h0 (by decide) (Or.inl (by decide))
            have h2 := hk9 2 _ h2 (by decide) (Or.inr (rfl))
            have h1 := hk9 1 _ h1 (by decide) (Or.inl (by decide))
            have h3 := hn9
            refine lv_goto (tgt := 60) C.1 C.2.1 dX12_lengths_175 (by decide) ?_
            exact ih S37 x38 (l3 + 1) H locs ls hW hS hL h0 h1 h2 h3 hw
          · have hw := hw.2 hc47
            refine m_aldN C dX12_lengths_151 rfl h0 ?_
            refine m_getR C hW rfl hk39 f_X12_121 rfl dX12_lengths_152 ?_
            refine lv_iload_n C.1 C.2.1 dX12_lengths_155 rfl h2 ?_
            refine m_aldN C dX12_lengths_156 rfl h0 ?_
            refine m_getR C hW rfl hk39 f_X12_19 rfl dX12_lengths_157 ?_
            refine lv_iload_n C.1 C.2.1 dX12_lengths_160 rfl h2 ?_
            obtain ⟨hi48, hw⟩ := hw
            refine m_iald C hW ho40 hk41 hi48 dX12_lengths_161 ?_
            refine m_aldN C dX12_lengths_162 rfl h0 ?_
            refine m_getR C hW rfl hk39 f_X12_121 rfl dX12_lengths_163 ?_
            refine lv_iload_n C.1 C.2.1 dX12_lengths_166 rfl h3 ?_
            obtain ⟨hi49, hw⟩ := hw
            refine m_iald C hW ho43 hk44 hi49 dX12_lengths_167 ?_
            refine lv_iadd C.1 C.2.1 dX12_lengths_168 ?_
            obtain ⟨hi50, hw⟩ := hw
            refine m_iast C hW hS ho43 hk44 hi50 dX12_lengths_169 (fun H locs hW hS => ?_)
            refine lv_iconst (v := 1) C.1 C.2.1 dX12_lengths_170 (by decide) ?_
            refine m_istN C hL dX12_lengths_171 rfl (by decide) (fun ls hL hn9 hk9 => ?_)
            have h0 := hk9 0 _ h0 (by decide) (Or.inr (va_rf_cat _))
            have h2 := hk9 2 _ h2 (by decide) (Or.inl (by decide))
            have h3 := hk9 3 _ h3 (by decide) (Or.inl (by decide))
            have h1 := hn9
            refine m_iinc (v := (l3 + 1)) C hL dX12_lengths_172 h3 rfl (by decide) (fun ls hL hn9 hk9 => ?_)
            have h0 := hk9 0 _ h0 (by decide) (Or.inl (by decide))
            have h2 := hk9 2 _ h2 (by decide) (Or.inr (rfl))
            have h1 := hk9 1 _ h1 (by decide) (Or.inl (by decide))
            have h3 := hn9
            refine lv_goto (tgt := 60) C.1 C.2.1 dX12_lengths_175 (by decide) ?_
            exact ih (sI S37 b43 (l2 : Int32).toNatClampNeg ((hI S37 b40 (l2 : Int32).toNatClampNeg) + (hI S37 b43 (l3 : Int32).toNatClampNeg))) 1 (l3 + 1) H locs ls hW hS hL h0 h1 h2 h3 hw
        refine lv_icmp_le (tgt := 129) C.1 C.2.1 dX12_lengths_105 (by decide) (fun hc32 => ?_) (fun hc32 => ?_)
        · have hw := hw.1 hc32
          exact wJ33 S l1 H locs ls hW hS hL h0 h1 h2 h3 hw
        · have hw := hw.2 hc32
          refine m_aldN C dX12_lengths_108 rfl h0 ?_
          refine m_getR C hW rfl hk19 f_X12_118 rfl dX12_lengths_109 ?_
          refine lv_iload_n C.1 C.2.1 dX12_lengths_112 rfl h3 ?_
          refine m_aldN C dX12_lengths_113 rfl h0 ?_
          refine m_getR C hW rfl hk19 f_X12_19 rfl dX12_lengths_114 ?_
          refine lv_iload_n C.1 C.2.1 dX12_lengths_117 rfl h3 ?_
          obtain ⟨hi34, hw⟩ := hw
          refine m_iald C hW ho25 hk26 hi34 dX12_lengths_118 ?_
          refine m_aldN C dX12_lengths_119 rfl h0 ?_
          refine m_getR C hW rfl hk19 f_X12_118 rfl dX12_lengths_120 ?_
          refine lv_iload_n C.1 C.2.1 dX12_lengths_123 rfl h2 ?_
          obtain ⟨hi35, hw⟩ := hw
          refine m_iald C hW ho28 hk29 hi35 dX12_lengths_124 ?_
          refine lv_iadd C.1 C.2.1 dX12_lengths_125 ?_
          obtain ⟨hi36, hw⟩ := hw
          refine m_iast C hW hS ho28 hk29 hi36 dX12_lengths_126 (fun H locs hW hS => ?_)
          refine lv_iconst (v := 1) C.1 C.2.1 dX12_lengths_127 (by decide) ?_
          refine m_istN C hL dX12_lengths_128 rfl (by decide) (fun ls hL hn9 hk9 => ?_)
          have h0 := hk9 0 _ h0 (by decide) (Or.inr (va_rf_cat _))
          have h2 := hk9 2 _ h2 (by decide) (Or.inl (by decide))
          have h3 := hk9 3 _ h3 (by decide) (Or.inl (by decide))
          have h1 := hn9
          exact wJ33 (sI S b28 (l3 : Int32).toNatClampNeg ((hI S b25 (l3 : Int32).toNatClampNeg) + (hI S b28 (l2 : Int32).toNatClampNeg))) 1 H locs ls hW hS hL h0 h1 h2 h3 hw
      · have hw := hw.1 hc24
        refine lv_goto (tgt := 172) C.1 C.2.1 dX12_lengths_83 (by decide) ?_
        refine m_iinc (v := (l3 + 1)) C hL dX12_lengths_172 h3 rfl (by decide) (fun ls hL hn9 hk9 => ?_)
        have h0 := hk9 0 _ h0 (by decide) (Or.inl (by decide))
        have h2 := hk9 2 _ h2 (by decide) (Or.inr (rfl))
        have h1 := hk9 1 _ h1 (by decide) (Or.inl (by decide))
        have h3 := hn9
        refine lv_goto (tgt := 60) C.1 C.2.1 dX12_lengths_175 (by decide) ?_
        exact ih S l1 (l3 + 1) H locs ls hW hS hL h0 h1 h2 h3 hw
set_option maxRecDepth 100000 in
set_option maxHeartbeats 4000000 in
theorem w_X12_lengths_L50 {p : Program} {l : Launch} {e : Env} {s : State} {m : MethodId} {args : Array Value} {below : List Frame} {meth : Method} {c : Code} {G : GX} {Q : Int32 → Hp → Prop} {K184 : Hp → Int32 → Prop} {l0 : Nat} (C : Cx p s m args meth c cX12_lengths 4 RX12 (some .int) "lengths" G)
    (k184 : ∀ (S : Hp) (l1 : Int32) (H : Heap) (locs : List Loc) (ls : Array Slot), wd G S H → va_S G.2.2.1 s.heap H locs → LV ls 4 → ls[0]? = some (.val (va_rf (some l0))) → ls[1]? = some (.val (.int l1)) → K184 S l1 → W p l e ({ frames := 1, cells := 0, slots := 0, locals := 21 } : Room) s m args below meth c H locs 0 0 (MQ below (QI G Q) args s 0 0 G.2.2.1) (F0 m 184 ls [])) :
    ∀ (n : Nat) (S : Hp) (l1 : Int32) (l2 : Int32) (H : Heap) (locs : List Loc) (ls : Array Slot), wd G S H → va_S G.2.2.1 s.heap H locs → LV ls 4 → ls[0]? = some (.val (va_rf (some l0))) → ls[1]? = some (.val (.int l1)) → ls[2]? = some (.val (.int l2)) → wp_X12_lengths_L50 l0 K184 Q n S l1 l2 → W p l e ({ frames := 1, cells := 0, slots := 0, locals := 21 } : Room) s m args below meth c H locs 0 0 (MQ below (QI G Q) args s 0 0 G.2.2.1) (F0 m 50 ls []) := by
  intro n
  induction n with
  | zero =>
    intro S l1 l2 H locs ls hW hS hL h0 h1 h2 hw
    exact False.elim hw
  | succ n ih =>
    intro S l1 l2 H locs ls hW hS hL h0 h1 h2 hw
    unfold wp_X12_lengths_L50 at hw
    refine lv_iload_n C.1 C.2.1 dX12_lengths_50 rfl h2 ?_
    refine m_aldN C dX12_lengths_51 rfl h0 ?_
    obtain ⟨hk17, hw⟩ := hw
    refine m_getI C hW rfl hk17 f_X12_128 rfl dX12_lengths_52 ?_
    refine lv_icmp_ge (tgt := 184) C.1 C.2.1 dX12_lengths_55 (by decide) (fun hc18 => ?_) (fun hc18 => ?_)
    · have hw := hw.1 hc18
      exact k184 S l1 H locs ls hW hS hL h0 h1 hw
    · have hw := hw.2 hc18
      refine lv_iconst (v := 0) C.1 C.2.1 dX12_lengths_58 (by decide) ?_
      refine m_istN C hL dX12_lengths_59 rfl (by decide) (fun ls hL hn9 hk9 => ?_)
      have h0 := hk9 0 _ h0 (by decide) (Or.inl (by decide))
      have h1 := hk9 1 _ h1 (by decide) (Or.inl (by decide))
      have h2 := hk9 2 _ h2 (by decide) (Or.inr (rfl))
      have h3 := hn9
      refine w_X12_lengths_L60 C ?_ FU S l1 0 H locs ls hW hS hL h0 h1 h2 h3 hw
      · intro S51 x52 H locs ls hW hS hL h0 h1 h2 hw
        refine m_iinc (v := (l2 + 1)) C hL dX12_lengths_178 h2 rfl (by decide) (fun ls hL hn9 hk9 => ?_)
        have h0 := hk9 0 _ h0 (by decide) (Or.inl (by decide))
        have h1 := hk9 1 _ h1 (by decide) (Or.inr (rfl))
        have h2 := hn9
        refine lv_goto (tgt := 50) C.1 C.2.1 dX12_lengths_181 (by decide) ?_
        exact ih S51 x52 (l2 + 1) H locs ls hW hS hL h0 h1 h2 hw
set_option maxRecDepth 100000 in
set_option maxHeartbeats 4000000 in
theorem w_X12_lengths_L42 {p : Program} {l : Launch} {e : Env} {s : State} {m : MethodId} {args : Array Value} {below : List Frame} {meth : Method} {c : Code} {G : GX} {Q : Int32 → Hp → Prop} {K187 : Hp → Prop} {l0 : Nat} (C : Cx p s m args meth c cX12_lengths 4 RX12 (some .int) "lengths" G)
    (k187 : ∀ (S : Hp) (H : Heap) (locs : List Loc) (ls : Array Slot), wd G S H → va_S G.2.2.1 s.heap H locs → LV ls 4 → ls[0]? = some (.val (va_rf (some l0))) → K187 S → W p l e ({ frames := 1, cells := 0, slots := 0, locals := 21 } : Room) s m args below meth c H locs 0 0 (MQ below (QI G Q) args s 0 0 G.2.2.1) (F0 m 187 ls [])) :
    ∀ (n : Nat) (S : Hp) (l1 : Int32) (H : Heap) (locs : List Loc) (ls : Array Slot), wd G S H → va_S G.2.2.1 s.heap H locs → LV ls 4 → ls[0]? = some (.val (va_rf (some l0))) → ls[1]? = some (.val (.int l1)) → wp_X12_lengths_L42 l0 K187 Q n S l1 → W p l e ({ frames := 1, cells := 0, slots := 0, locals := 21 } : Room) s m args below meth c H locs 0 0 (MQ below (QI G Q) args s 0 0 G.2.2.1) (F0 m 42 ls []) := by
  intro n
  induction n with
  | zero =>
    intro S l1 H locs ls hW hS hL h0 h1 hw
    exact False.elim hw
  | succ n ih =>
    intro S l1 H locs ls hW hS hL h0 h1 hw
    unfold wp_X12_lengths_L42 at hw
    refine lv_iload_n C.1 C.2.1 dX12_lengths_42 rfl h1 ?_
    refine lv_if_eq (tgt := 187) C.1 C.2.1 dX12_lengths_43 (by decide) (fun hc16 => ?_) (fun hc16 => ?_)
    · have hw := hw.1 hc16
      exact k187 S H locs ls hW hS hL h0 hw
    · have hw := hw.2 hc16
      refine lv_iconst (v := 0) C.1 C.2.1 dX12_lengths_46 (by decide) ?_
      refine m_istN C hL dX12_lengths_47 rfl (by decide) (fun ls hL hn9 hk9 => ?_)
      have h0 := hk9 0 _ h0 (by decide) (Or.inr (va_rf_cat _))
      have h1 := hn9
      refine lv_iconst (v := 0) C.1 C.2.1 dX12_lengths_48 (by decide) ?_
      refine m_istN C hL dX12_lengths_49 rfl (by decide) (fun ls hL hn9 hk9 => ?_)
      have h0 := hk9 0 _ h0 (by decide) (Or.inl (by decide))
      have h1 := hk9 1 _ h1 (by decide) (Or.inr (rfl))
      have h2 := hn9
      refine w_X12_lengths_L50 C ?_ FU S 0 0 H locs ls hW hS hL h0 h1 h2 hw
      · intro S53 x54 H locs ls hW hS hL h0 h1 hw
        refine lv_goto (tgt := 42) C.1 C.2.1 dX12_lengths_184 (by decide) ?_
        exact ih S53 x54 H locs ls hW hS hL h0 h1 hw
set_option maxRecDepth 100000 in
set_option maxHeartbeats 4000000 in
theorem w_X12_lengths_L191 {p : Program} {l : Launch} {e : Env} {s : State} {m : MethodId} {args : Array Value} {below : List Frame} {meth : Method} {c : Code} {G : GX} {Q : Int32 → Hp → Prop} {l0 : Nat} (C : Cx p s m args meth c cX12_lengths 4 RX12 (some .int) "lengths" G) :
    ∀ (n : Nat) (S : Hp) (l2 : Int32) (l3 : Int32) (H : Heap) (locs : List Loc) (ls : Array Slot), wd G S H → va_S G.2.2.1 s.heap H locs → LV ls 4 → ls[0]? = some (.val (va_rf (some l0))) → ls[2]? = some (.val (.int l2)) → ls[3]? = some (.val (.int l3)) → wp_X12_lengths_L191 l0 Q n S l2 l3 → W p l e ({ frames := 1, cells := 0, slots := 0, locals := 21 } : Room) s m args below meth c H locs 0 0 (MQ below (QI G Q) args s 0 0 G.2.2.1) (F0 m 191 ls []) := by
  intro n
  induction n with
  | zero =>
    intro S l2 l3 H locs ls hW hS hL h0 h2 h3 hw
    exact False.elim hw
  | succ n ih =>
    intro S l2 l3 H locs ls hW hS hL h0 h2 h3 hw
    unfold wp_X12_lengths_L191 at hw
    refine lv_iload_n C.1 C.2.1 dX12_lengths_191 rfl h3 ?_
    refine m_aldN C dX12_lengths_192 rfl h0 ?_
    obtain ⟨hk56, hw⟩ := hw
    refine m_getI C hW rfl hk56 f_X12_128 rfl dX12_lengths_193 ?_
    refine lv_icmp_ge (tgt := 216) C.1 C.2.1 dX12_lengths_196 (by decide) (fun hc57 => ?_) (fun hc57 => ?_)
    · have hw := hw.1 hc57
      refine lv_iload_n C.1 C.2.1 dX12_lengths_216 rfl h2 ?_
      exact m_iret C hW hS hw dX12_lengths_217
    · have hw := hw.2 hc57
      refine lv_iload_n C.1 C.2.1 dX12_lengths_199 rfl h2 ?_
      refine m_aldN C dX12_lengths_200 rfl h0 ?_
      refine m_getR C hW rfl hk56 f_X12_118 rfl dX12_lengths_201 ?_
      refine lv_iload_n C.1 C.2.1 dX12_lengths_204 rfl h3 ?_
      obtain ⟨b58, ho58, hw⟩ := hw
      obtain ⟨hk59, hw⟩ := hw
      obtain ⟨hi60, hw⟩ := hw
      refine m_iald C hW ho58 hk59 hi60 dX12_lengths_205 ?_
      refine va_mmax C.1 C.2.1 (C.2.2.1.trans hL.1.symm) C.2.2.2.1 (C.2.2.2.2.1 _ tw_1336) (C.2.2.2.2.1 _ tw_601) (C.2.2.2.2.1 _ tw_20) (C.2.2.2.2.1 _ tw_602) (Nat.le_of_ble_eq_true rfl) (Nat.le_of_ble_eq_true rfl) (Nat.le_of_ble_eq_true rfl) (Nat.le_of_ble_eq_true rfl) dX12_lengths_206 ?_
      refine lv_topi (fun x61 ex61 => ?_)
      have hw := hw x61 ex61
      refine m_istN C hL dX12_lengths_209 rfl (by decide) (fun ls hL hn9 hk9 => ?_)
      have h0 := hk9 0 _ h0 (by decide) (Or.inl (by decide))
      have h3 := hk9 3 _ h3 (by decide) (Or.inl (by decide))
      have h2 := hn9
      refine m_iinc (v := (l3 + 1)) C hL dX12_lengths_210 h3 rfl (by decide) (fun ls hL hn9 hk9 => ?_)
      have h0 := hk9 0 _ h0 (by decide) (Or.inl (by decide))
      have h2 := hk9 2 _ h2 (by decide) (Or.inr (rfl))
      have h3 := hn9
      refine lv_goto (tgt := 191) C.1 C.2.1 dX12_lengths_213 (by decide) ?_
      exact ih S x61 (l3 + 1) H locs ls hW hS hL h0 h2 h3 hw
set_option maxRecDepth 100000 in
set_option maxHeartbeats 4000000 in
theorem c_X12_lengths {l : Launch} {G : GX} {S : Hp} {a0 : Nat} {Q : Int32 → Hp → Prop} (hw : wp_X12_lengths S a0 Q) : Met l yX12_lengths (Cond.code yX12_lengths cX12_lengths 4 (some .int) :: TS) { frames := 1, cells := 0, slots := 0, locals := 21 } (Pk G S [va_rf (some a0)]) (QI G Q) 0 0 G.2.2.1 := by
  refine m_met (by decide) ?_
  intro p e s m below meth c H locs C hW hS
  have C : Cx p s m ([va_rf (some a0)] : List Value).toArray meth c cX12_lengths 4 RX12 (some .int) "lengths" G := C
  obtain ⟨ls, hent, hL, hla⟩ := m_entry m (vs := [va_rf (some a0)]) (nn := 4) [1] rfl (by decide)
  rw [hent]
  have h0 : ls[0]? = some (.val (va_rf (some a0))) := hla (0, va_rf (some a0)) (List.mem_of_getElem? (i := 0) rfl)
  clear hla
  generalize ([va_rf (some a0)] : List Value).toArray = args at C ⊢
  unfold wp_X12_lengths at hw
  refine lv_iconst (v := 0) C.1 C.2.1 dX12_lengths_0 (by decide) ?_
  refine m_istN C hL dX12_lengths_1 rfl (by decide) (fun ls hL hn9 hk9 => ?_)
  have h0 := hk9 0 _ h0 (by decide) (Or.inr (va_rf_cat _))
  have h1 := hn9
  refine w_X12_lengths_L2 C ?_ FU S 0 H locs ls hW hS hL h0 h1 hw
  · intro S15 H locs ls hW hS hL h0 hw
    refine lv_iconst (v := 1) C.1 C.2.1 dX12_lengths_40 (by decide) ?_
    refine m_istN C hL dX12_lengths_41 rfl (by decide) (fun ls hL hn9 hk9 => ?_)
    have h0 := hk9 0 _ h0 (by decide) (Or.inr (va_rf_cat _))
    have h1 := hn9
    refine w_X12_lengths_L42 C ?_ FU S15 1 H locs ls hW hS hL h0 h1 hw
    · intro S55 H locs ls hW hS hL h0 hw
      refine lv_iconst (v := 0) C.1 C.2.1 dX12_lengths_187 (by decide) ?_
      refine m_istN C hL dX12_lengths_188 rfl (by decide) (fun ls hL hn9 hk9 => ?_)
      have h0 := hk9 0 _ h0 (by decide) (Or.inl (by decide))
      have h2 := hn9
      refine lv_iconst (v := 0) C.1 C.2.1 dX12_lengths_189 (by decide) ?_
      refine m_istN C hL dX12_lengths_190 rfl (by decide) (fun ls hL hn9 hk9 => ?_)
      have h0 := hk9 0 _ h0 (by decide) (Or.inl (by decide))
      have h2 := hk9 2 _ h2 (by decide) (Or.inr (rfl))
      have h3 := hn9
      exact w_X12_lengths_L191 C  FU S55 0 0 H locs ls hW hS hL h0 h2 h3 hw
