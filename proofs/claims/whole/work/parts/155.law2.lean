def wp_law_init (S : Hp) (K : Hp → Nat → Nat → Nat → Prop) : Prop := ∀ q363 : Nat, hK S q363 = 0 → wp_X11_init (sN S q363 13 0) q363 (fun S364 => ∀ q365 : Nat, hK S364 q365 = 0 → wp_X12_init (sN S364 q365 14 0) q365 (fun S366 => ∀ q367 : Nat, hK S366 q367 = 0 → K (sN S366 q367 16 1) q363 q365 q367))
set_option maxRecDepth 100000 in
set_option maxHeartbeats 4000000 in
theorem w_law_init {p : Program} {l : Launch} (hl : l.stackTraces = false) {e : Env} {s : State} {m : MethodId} {args : Array Value} {below : List Frame} {meth : Method} {c : Code} {G : GX} {Qz : State → Prop} {b L : Nat} {xs : Nat → Int32} (C : Cx p s m args meth c cL_law 8 RL (some .boolean) "law" G) {K : Hp → Nat → Nat → Nat → Prop} (kk : ∀ (S : Hp) (x mm out : Nat) (H : Heap) (locs : List Loc) (ls : Array Slot), wd G S H → va_S G.2.2.1 s.heap H locs → LV ls 8 → ls[0]? = some (.val (va_rf (some b))) → ls[1]? = some (.val (va_rf (some x))) → ls[2]? = some (.val (va_rf (some mm))) → ls[3]? = some (.val (va_rf (some out))) → ls[4]? = some (.val (.int 0)) → K S x mm out → W p l e room_1 s m args below meth c H locs 62 125947 Qz (F0 m 23 ls []))
    {S : Hp} {H : Heap} {locs : List Loc} {ls : Array Slot} (hW : wd G S H) (hS : va_S G.2.2.1 s.heap H locs) (hL : LV ls 8) (h0 : ls[0]? = some (.val (va_rf (some b)))) (hw : wp_law_init S K) : W p l e room_1 s m args below meth c H locs 0 0 Qz (F0 m 0 ls []) := by
  unfold wp_law_init at hw
  refine m_new C hW hS n_L_8 (Nat.le_of_ble_eq_true rfl) (Nat.le_of_ble_eq_true rfl) dL_law_0 (fun q363 H hq363 hW hS => ?_)
  have hw := hw q363 hq363
  refine lv_dup C.1 C.2.1 dL_law_3 (va_rf_cat _) ?_
  refine m_rV (m_runI (As := []) (rest := [va_rf (some q363)]) C hW hS hL (c_X11_init hw) i_L_46 ⟨rfl, rfl⟩ ⟨Nat.le_of_ble_eq_true rfl, Nat.le_of_ble_eq_true rfl⟩ rfl rfl rfl (by simp only [List.map_cons, List.map_nil, va_rf_cat, List.sum_cons, List.sum_nil] <;> exact Nat.le_of_ble_eq_true rfl) dL_law_4 ⟨Nat.le_of_ble_eq_true rfl, Nat.le_of_ble_eq_true rfl⟩) hS (fun S364 H locs hw hW hS => ?_)
  refine m_astN C hL dL_law_7 rfl (by decide) (fun ls hL hn9 hk9 => ?_)
  have h0 := hk9 0 _ h0 (by decide) (Or.inr (va_rf_cat _))
  have h1 := hn9
  refine m_new C hW hS n_L_47 (Nat.le_of_ble_eq_true rfl) (Nat.le_of_ble_eq_true rfl) dL_law_8 (fun q365 H hq365 hW hS => ?_)
  have hw := hw q365 hq365
  refine lv_dup C.1 C.2.1 dL_law_11 (va_rf_cat _) ?_
  refine m_rV (m_runI (As := []) (rest := [va_rf (some q365)]) C hW hS hL (c_X12_init hw) i_L_49 ⟨rfl, rfl⟩ ⟨Nat.le_of_ble_eq_true rfl, Nat.le_of_ble_eq_true rfl⟩ rfl rfl rfl (by simp only [List.map_cons, List.map_nil, va_rf_cat, List.sum_cons, List.sum_nil] <;> exact Nat.le_of_ble_eq_true rfl) dL_law_12 ⟨Nat.le_of_ble_eq_true rfl, Nat.le_of_ble_eq_true rfl⟩) hS (fun S366 H locs hw hW hS => ?_)
  refine m_astN C hL dL_law_15 rfl (by decide) (fun ls hL hn9 hk9 => ?_)
  have h0 := hk9 0 _ h0 (by decide) (Or.inl (by decide))
  have h1 := hk9 1 _ h1 (by decide) (Or.inr (va_rf_cat _))
  have h2 := hn9
  refine lv_iconst (v := 1) C.1 C.2.1 dL_law_16 (by decide) ?_
  refine m_newa (N := 1) C hW hS (Or.inr (Or.inl ⟨rfl, rfl⟩)) tw_87 (by decide) (by decide) (by decide) (Nat.le_of_ble_eq_true rfl) (Nat.le_of_ble_eq_true rfl) dL_law_17 (fun q367 H hq367 hW hS => ?_)
  have hw := hw q367 hq367
  refine m_astN C hL dL_law_19 rfl (by decide) (fun ls hL hn9 hk9 => ?_)
  have h0 := hk9 0 _ h0 (by decide) (Or.inl (by decide))
  have h1 := hk9 1 _ h1 (by decide) (Or.inl (by decide))
  have h2 := hk9 2 _ h2 (by decide) (Or.inr (va_rf_cat _))
  have h3 := hn9
  refine lv_iconst (v := 0) C.1 C.2.1 dL_law_20 (by decide) ?_
  refine m_ist C hL dL_law_21 (by decide) (fun ls hL hn9 hk9 => ?_)
  have h0 := hk9 0 _ h0 (by decide) (Or.inl (by decide))
  have h1 := hk9 1 _ h1 (by decide) (Or.inl (by decide))
  have h2 := hk9 2 _ h2 (by decide) (Or.inl (by decide))
  have h3 := hk9 3 _ h3 (by decide) (Or.inr (va_rf_cat _))
  have h4 := hn9
  exact kk _ _ _ _ _ _ _ hW hS hL h0 h1 h2 h3 h4 hw
def wp_law_step (S : Hp) (x mm out : Nat) (xs : Nat → Int32) (L : Nat) (l4 : Int32) (K : Hp → Prop) : Prop := vp_in l4 L ∧ ((xs (l4 : Int32).toNatClampNeg &&& 31) = 0 → wp_law_c0 S x mm out xs L l4 K) ∧ (¬ ((xs (l4 : Int32).toNatClampNeg &&& 31) = 0) → ((xs (l4 : Int32).toNatClampNeg &&& 31) = 1 → wp_law_c1 S x mm out xs L l4 K) ∧ (¬ ((xs (l4 : Int32).toNatClampNeg &&& 31) = 1) → ((xs (l4 : Int32).toNatClampNeg &&& 31) = 2 → wp_law_c2 S x mm out xs L l4 K) ∧ (¬ ((xs (l4 : Int32).toNatClampNeg &&& 31) = 2) → ((xs (l4 : Int32).toNatClampNeg &&& 31) = 3 → wp_law_c3 S x mm out xs L l4 K) ∧ (¬ ((xs (l4 : Int32).toNatClampNeg &&& 31) = 3) → ((xs (l4 : Int32).toNatClampNeg &&& 31) = 4 → wp_law_c4 S x mm out xs L l4 K) ∧ (¬ ((xs (l4 : Int32).toNatClampNeg &&& 31) = 4) → ((xs (l4 : Int32).toNatClampNeg &&& 31) = 5 → wp_law_c5 S x mm out xs L l4 K) ∧ (¬ ((xs (l4 : Int32).toNatClampNeg &&& 31) = 5) → ((xs (l4 : Int32).toNatClampNeg &&& 31) = 6 → wp_law_c6 S x mm out xs L l4 K) ∧ (¬ ((xs (l4 : Int32).toNatClampNeg &&& 31) = 6) → ((xs (l4 : Int32).toNatClampNeg &&& 31) = 7 → wp_law_c7 S x mm out xs L l4 K) ∧ (¬ ((xs (l4 : Int32).toNatClampNeg &&& 31) = 7) → ((xs (l4 : Int32).toNatClampNeg &&& 31) = 8 → wp_law_c8 S x mm out xs L l4 K) ∧ (¬ ((xs (l4 : Int32).toNatClampNeg &&& 31) = 8) → ((xs (l4 : Int32).toNatClampNeg &&& 31) = 9 → wp_law_c9 S x mm out xs L l4 K) ∧ (¬ ((xs (l4 : Int32).toNatClampNeg &&& 31) = 9) → ((xs (l4 : Int32).toNatClampNeg &&& 31) = 10 → wp_law_c10 S x mm out xs L l4 K) ∧ (¬ ((xs (l4 : Int32).toNatClampNeg &&& 31) = 10) → ((xs (l4 : Int32).toNatClampNeg &&& 31) = 11 → wp_law_c11 S x mm out xs L l4 K) ∧ (¬ ((xs (l4 : Int32).toNatClampNeg &&& 31) = 11) → ((xs (l4 : Int32).toNatClampNeg &&& 31) = 12 → wp_law_c12 S x mm out xs L l4 K) ∧ (¬ ((xs (l4 : Int32).toNatClampNeg &&& 31) = 12) → ((xs (l4 : Int32).toNatClampNeg &&& 31) = 13 → wp_law_c13 S x mm out xs L l4 K) ∧ (¬ ((xs (l4 : Int32).toNatClampNeg &&& 31) = 13) → ((xs (l4 : Int32).toNatClampNeg &&& 31) = 14 → wp_law_c14 S x mm out xs L l4 K) ∧ (¬ ((xs (l4 : Int32).toNatClampNeg &&& 31) = 14) → ((xs (l4 : Int32).toNatClampNeg &&& 31) = 15 → wp_law_c15 S x mm out xs L l4 K) ∧ (¬ ((xs (l4 : Int32).toNatClampNeg &&& 31) = 15) → ((xs (l4 : Int32).toNatClampNeg &&& 31) = 16 → wp_law_c16 S x mm out xs L l4 K) ∧ (¬ ((xs (l4 : Int32).toNatClampNeg &&& 31) = 16) → ((xs (l4 : Int32).toNatClampNeg &&& 31) = 17 → wp_law_c17 S x mm out xs L l4 K) ∧ (¬ ((xs (l4 : Int32).toNatClampNeg &&& 31) = 17) → ((xs (l4 : Int32).toNatClampNeg &&& 31) = 18 → wp_law_c18 S x mm out xs L l4 K) ∧ (¬ ((xs (l4 : Int32).toNatClampNeg &&& 31) = 18) → ((xs (l4 : Int32).toNatClampNeg &&& 31) = 19 → wp_law_c19 S x mm out xs L l4 K) ∧ (¬ ((xs (l4 : Int32).toNatClampNeg &&& 31) = 19) → ((xs (l4 : Int32).toNatClampNeg &&& 31) = 20 → wp_law_c20 S x mm out xs L l4 K) ∧ (¬ ((xs (l4 : Int32).toNatClampNeg &&& 31) = 20) → ((xs (l4 : Int32).toNatClampNeg &&& 31) = 21 → wp_law_c21 S x mm out xs L l4 K) ∧ (¬ ((xs (l4 : Int32).toNatClampNeg &&& 31) = 21) → ((xs (l4 : Int32).toNatClampNeg &&& 31) = 22 → wp_law_c22 S x mm out xs L l4 K) ∧ (¬ ((xs (l4 : Int32).toNatClampNeg &&& 31) = 22) → ((xs (l4 : Int32).toNatClampNeg &&& 31) = 23 → wp_law_c23 S x mm out xs L l4 K) ∧ (¬ ((xs (l4 : Int32).toNatClampNeg &&& 31) = 23) → ((xs (l4 : Int32).toNatClampNeg &&& 31) = 24 → wp_law_c24 S x mm out xs L l4 K) ∧ (¬ ((xs (l4 : Int32).toNatClampNeg &&& 31) = 24) → ((xs (l4 : Int32).toNatClampNeg &&& 31) = 25 → wp_law_c25 S x mm out xs L l4 K) ∧ (¬ ((xs (l4 : Int32).toNatClampNeg &&& 31) = 25) → ((xs (l4 : Int32).toNatClampNeg &&& 31) = 26 → wp_law_c26 S x mm out xs L l4 K) ∧ (¬ ((xs (l4 : Int32).toNatClampNeg &&& 31) = 26) → ((xs (l4 : Int32).toNatClampNeg &&& 31) = 27 → wp_law_c27 S x mm out xs L l4 K) ∧ (¬ ((xs (l4 : Int32).toNatClampNeg &&& 31) = 27) → ((xs (l4 : Int32).toNatClampNeg &&& 31) = 28 → wp_law_c28 S x mm out xs L l4 K) ∧ (¬ ((xs (l4 : Int32).toNatClampNeg &&& 31) = 28) → ((xs (l4 : Int32).toNatClampNeg &&& 31) = 29 → wp_law_c29 S x mm out xs L l4 K) ∧ (¬ ((xs (l4 : Int32).toNatClampNeg &&& 31) = 29) → K S))))))))))))))))))))))))))))))
set_option maxRecDepth 100000 in
set_option maxHeartbeats 4000000 in
theorem w_law_step {p : Program} {l : Launch} (hl : l.stackTraces = false) {e : Env} {s : State} {m : MethodId} {args : Array Value} {below : List Frame} {meth : Method} {c : Code} {G : GX} {Qz : State → Prop} {b L : Nat} {xs : Nat → Int32} {x mm out : Nat} (C : Cx p s m args meth c cL_law 8 RL (some .boolean) "law" G) (hX : va_X b L xs s s.heap) (hbl : b < s.heap.size) (hbA : ¬ G.2.2.1 b) {cells slots : Nat} (hcc : cells + 40 ≤ 601024) (hss : slots + 2000 ≤ 7293034) {K : Hp → Prop} {l4 : Int32} (kk : ∀ (S : Hp) (H : Heap) (locs : List Loc) (ls : Array Slot), wd G S H → va_S G.2.2.1 s.heap H locs → LV ls 8 → ls[0]? = some (.val (va_rf (some b))) → ls[1]? = some (.val (va_rf (some x))) → ls[2]? = some (.val (va_rf (some mm))) → ls[3]? = some (.val (va_rf (some out))) → ls[4]? = some (.val (.int l4)) → K S → W p l e room_1 s m args below meth c H locs (cells + 40) (slots + 2000) Qz (F0 m 1416 ls []))
    {S : Hp} {H : Heap} {locs : List Loc} {ls : Array Slot} (hW : wd G S H) (hS : va_S G.2.2.1 s.heap H locs) (hL : LV ls 8) (h0 : ls[0]? = some (.val (va_rf (some b)))) (h1 : ls[1]? = some (.val (va_rf (some x)))) (h2 : ls[2]? = some (.val (va_rf (some mm)))) (h3 : ls[3]? = some (.val (va_rf (some out)))) (h4 : ls[4]? = some (.val (.int l4))) (hw : wp_law_step S x mm out xs L l4 K) : W p l e room_1 s m args below meth c H locs cells slots Qz (F0 m 32 ls []) := by
  unfold wp_law_step at hw
  obtain ⟨hi, hw⟩ := hw
  refine m_aldN C dL_law_32 rfl h0 ?_
  refine lv_iload C.1 C.2.1 dL_law_33 h4 ?_
  refine va_sld C.1 C.2.1 hX hbl hbA hS hi dL_law_35 ?_
  refine lv_bipush (v := 31) C.1 C.2.1 dL_law_36 (by decide) ?_
  refine lv_iand C.1 C.2.1 dL_law_38 ?_
  by_cases hc0 : (xs (l4 : Int32).toNatClampNeg &&& 31) = 0
  · have hw := hw.1 hc0
    refine lv_tableIn (tgt := 172) (off := 133) C.1 C.2.1 dL_law_39 (by rw [hc0]; decide) (by rw [hc0]; decide) (by rw [hc0]; rfl) (by decide) ?_
    exact w_law_c0 hl C hX hbl hbA hcc hss kk hW hS hL h0 h1 h2 h3 h4 hw
  have hw := hw.2 hc0
  by_cases hc1 : (xs (l4 : Int32).toNatClampNeg &&& 31) = 1
  · have hw := hw.1 hc1
    refine lv_tableIn (tgt := 197) (off := 158) C.1 C.2.1 dL_law_39 (by rw [hc1]; decide) (by rw [hc1]; decide) (by rw [hc1]; rfl) (by decide) ?_
    exact w_law_c1 hl C hX hbl hbA hcc hss kk hW hS hL h0 h1 h2 h3 h4 hw
  have hw := hw.2 hc1
  by_cases hc2 : (xs (l4 : Int32).toNatClampNeg &&& 31) = 2
  · have hw := hw.1 hc2
    refine lv_tableIn (tgt := 210) (off := 171) C.1 C.2.1 dL_law_39 (by rw [hc2]; decide) (by rw [hc2]; decide) (by rw [hc2]; rfl) (by decide) ?_
    exact w_law_c2 hl C hX hbl hbA hcc hss kk hW hS hL h0 h1 h2 h3 h4 hw
  have hw := hw.2 hc2
  by_cases hc3 : (xs (l4 : Int32).toNatClampNeg &&& 31) = 3
  · have hw := hw.1 hc3
    refine lv_tableIn (tgt := 247) (off := 208) C.1 C.2.1 dL_law_39 (by rw [hc3]; decide) (by rw [hc3]; decide) (by rw [hc3]; rfl) (by decide) ?_
    exact w_law_c3 hl C hX hbl hbA hcc hss kk hW hS hL h0 h1 h2 h3 h4 hw
  have hw := hw.2 hc3
  by_cases hc4 : (xs (l4 : Int32).toNatClampNeg &&& 31) = 4
  · have hw := hw.1 hc4
    refine lv_tableIn (tgt := 296) (off := 257) C.1 C.2.1 dL_law_39 (by rw [hc4]; decide) (by rw [hc4]; decide) (by rw [hc4]; rfl) (by decide) ?_
    exact w_law_c4 hl C hX hbl hbA hcc hss kk hW hS hL h0 h1 h2 h3 h4 hw
  have hw := hw.2 hc4
  by_cases hc5 : (xs (l4 : Int32).toNatClampNeg &&& 31) = 5
  · have hw := hw.1 hc5
    refine lv_tableIn (tgt := 333) (off := 294) C.1 C.2.1 dL_law_39 (by rw [hc5]; decide) (by rw [hc5]; decide) (by rw [hc5]; rfl) (by decide) ?_
    exact w_law_c5 hl C hX hbl hbA hcc hss kk hW hS hL h0 h1 h2 h3 h4 hw
  have hw := hw.2 hc5
  by_cases hc6 : (xs (l4 : Int32).toNatClampNeg &&& 31) = 6
  · have hw := hw.1 hc6
    refine lv_tableIn (tgt := 370) (off := 331) C.1 C.2.1 dL_law_39 (by rw [hc6]; decide) (by rw [hc6]; decide) (by rw [hc6]; rfl) (by decide) ?_
    exact w_law_c6 hl C hX hbl hbA hcc hss kk hW hS hL h0 h1 h2 h3 h4 hw
  have hw := hw.2 hc6
  by_cases hc7 : (xs (l4 : Int32).toNatClampNeg &&& 31) = 7
  · have hw := hw.1 hc7
    refine lv_tableIn (tgt := 419) (off := 380) C.1 C.2.1 dL_law_39 (by rw [hc7]; decide) (by rw [hc7]; decide) (by rw [hc7]; rfl) (by decide) ?_
    exact w_law_c7 hl C hX hbl hbA hcc hss kk hW hS hL h0 h1 h2 h3 h4 hw
  have hw := hw.2 hc7
  by_cases hc8 : (xs (l4 : Int32).toNatClampNeg &&& 31) = 8
  · have hw := hw.1 hc8
    refine lv_tableIn (tgt := 468) (off := 429) C.1 C.2.1 dL_law_39 (by rw [hc8]; decide) (by rw [hc8]; decide) (by rw [hc8]; rfl) (by decide) ?_
    exact w_law_c8 hl C hX hbl hbA hcc hss kk hW hS hL h0 h1 h2 h3 h4 hw
  have hw := hw.2 hc8
  by_cases hc9 : (xs (l4 : Int32).toNatClampNeg &&& 31) = 9
  · have hw := hw.1 hc9
    refine lv_tableIn (tgt := 529) (off := 490) C.1 C.2.1 dL_law_39 (by rw [hc9]; decide) (by rw [hc9]; decide) (by rw [hc9]; rfl) (by decide) ?_
    exact w_law_c9 hl C hX hbl hbA hcc hss kk hW hS hL h0 h1 h2 h3 h4 hw
  have hw := hw.2 hc9
  by_cases hc10 : (xs (l4 : Int32).toNatClampNeg &&& 31) = 10
  · have hw := hw.1 hc10
    refine lv_tableIn (tgt := 566) (off := 527) C.1 C.2.1 dL_law_39 (by rw [hc10]; decide) (by rw [hc10]; decide) (by rw [hc10]; rfl) (by decide) ?_
    exact w_law_c10 hl C hX hbl hbA hcc hss kk hW hS hL h0 h1 h2 h3 h4 hw
  have hw := hw.2 hc10
  by_cases hc11 : (xs (l4 : Int32).toNatClampNeg &&& 31) = 11
  · have hw := hw.1 hc11
    refine lv_tableIn (tgt := 591) (off := 552) C.1 C.2.1 dL_law_39 (by rw [hc11]; decide) (by rw [hc11]; decide) (by rw [hc11]; rfl) (by decide) ?_
    exact w_law_c11 hl C hX hbl hbA hcc hss kk hW hS hL h0 h1 h2 h3 h4 hw
  have hw := hw.2 hc11
  by_cases hc12 : (xs (l4 : Int32).toNatClampNeg &&& 31) = 12
  · have hw := hw.1 hc12
    refine lv_tableIn (tgt := 640) (off := 601) C.1 C.2.1 dL_law_39 (by rw [hc12]; decide) (by rw [hc12]; decide) (by rw [hc12]; rfl) (by decide) ?_
    exact w_law_c12 hl C hX hbl hbA hcc hss kk hW hS hL h0 h1 h2 h3 h4 hw
  have hw := hw.2 hc12
  by_cases hc13 : (xs (l4 : Int32).toNatClampNeg &&& 31) = 13
  · have hw := hw.1 hc13
    refine lv_tableIn (tgt := 653) (off := 614) C.1 C.2.1 dL_law_39 (by rw [hc13]; decide) (by rw [hc13]; decide) (by rw [hc13]; rfl) (by decide) ?_
    exact w_law_c13 hl C hX hbl hbA hcc hss kk hW hS hL h0 h1 h2 h3 h4 hw
  have hw := hw.2 hc13
  by_cases hc14 : (xs (l4 : Int32).toNatClampNeg &&& 31) = 14
  · have hw := hw.1 hc14
    refine lv_tableIn (tgt := 678) (off := 639) C.1 C.2.1 dL_law_39 (by rw [hc14]; decide) (by rw [hc14]; decide) (by rw [hc14]; rfl) (by decide) ?_
    exact w_law_c14 hl C hX hbl hbA hcc hss kk hW hS hL h0 h1 h2 h3 h4 hw
  have hw := hw.2 hc14
  by_cases hc15 : (xs (l4 : Int32).toNatClampNeg &&& 31) = 15
  · have hw := hw.1 hc15
    refine lv_tableIn (tgt := 691) (off := 652) C.1 C.2.1 dL_law_39 (by rw [hc15]; decide) (by rw [hc15]; decide) (by rw [hc15]; rfl) (by decide) ?_
    exact w_law_c15 hl C hX hbl hbA hcc hss kk hW hS hL h0 h1 h2 h3 h4 hw
  have hw := hw.2 hc15
  by_cases hc16 : (xs (l4 : Int32).toNatClampNeg &&& 31) = 16
  · have hw := hw.1 hc16
    refine lv_tableIn (tgt := 759) (off := 720) C.1 C.2.1 dL_law_39 (by rw [hc16]; decide) (by rw [hc16]; decide) (by rw [hc16]; rfl) (by decide) ?_
    exact w_law_c16 hl C hX hbl hbA hcc hss kk hW hS hL h0 h1 h2 h3 h4 hw
  have hw := hw.2 hc16
  by_cases hc17 : (xs (l4 : Int32).toNatClampNeg &&& 31) = 17
  · have hw := hw.1 hc17
    refine lv_tableIn (tgt := 815) (off := 776) C.1 C.2.1 dL_law_39 (by rw [hc17]; decide) (by rw [hc17]; decide) (by rw [hc17]; rfl) (by decide) ?_
    exact w_law_c17 hl C hX hbl hbA hcc hss kk hW hS hL h0 h1 h2 h3 h4 hw
  have hw := hw.2 hc17
  by_cases hc18 : (xs (l4 : Int32).toNatClampNeg &&& 31) = 18
  · have hw := hw.1 hc18
    refine lv_tableIn (tgt := 882) (off := 843) C.1 C.2.1 dL_law_39 (by rw [hc18]; decide) (by rw [hc18]; decide) (by rw [hc18]; rfl) (by decide) ?_
    exact w_law_c18 hl C hX hbl hbA hcc hss kk hW hS hL h0 h1 h2 h3 h4 hw
  have hw := hw.2 hc18
  by_cases hc19 : (xs (l4 : Int32).toNatClampNeg &&& 31) = 19
  · have hw := hw.1 hc19
    refine lv_tableIn (tgt := 938) (off := 899) C.1 C.2.1 dL_law_39 (by rw [hc19]; decide) (by rw [hc19]; decide) (by rw [hc19]; rfl) (by decide) ?_
    exact w_law_c19 hl C hX hbl hbA hcc hss kk hW hS hL h0 h1 h2 h3 h4 hw
  have hw := hw.2 hc19
  by_cases hc20 : (xs (l4 : Int32).toNatClampNeg &&& 31) = 20
  · have hw := hw.1 hc20
    refine lv_tableIn (tgt := 951) (off := 912) C.1 C.2.1 dL_law_39 (by rw [hc20]; decide) (by rw [hc20]; decide) (by rw [hc20]; rfl) (by decide) ?_
    exact w_law_c20 hl C hX hbl hbA hcc hss kk hW hS hL h0 h1 h2 h3 h4 hw
  have hw := hw.2 hc20
  by_cases hc21 : (xs (l4 : Int32).toNatClampNeg &&& 31) = 21
  · have hw := hw.1 hc21
    refine lv_tableIn (tgt := 1019) (off := 980) C.1 C.2.1 dL_law_39 (by rw [hc21]; decide) (by rw [hc21]; decide) (by rw [hc21]; rfl) (by decide) ?_
    exact w_law_c21 hl C hX hbl hbA hcc hss kk hW hS hL h0 h1 h2 h3 h4 hw
  have hw := hw.2 hc21
  by_cases hc22 : (xs (l4 : Int32).toNatClampNeg &&& 31) = 22
  · have hw := hw.1 hc22
    refine lv_tableIn (tgt := 1074) (off := 1035) C.1 C.2.1 dL_law_39 (by rw [hc22]; decide) (by rw [hc22]; decide) (by rw [hc22]; rfl) (by decide) ?_
    exact w_law_c22 hl C hX hbl hbA hcc hss kk hW hS hL h0 h1 h2 h3 h4 hw
  have hw := hw.2 hc22
  by_cases hc23 : (xs (l4 : Int32).toNatClampNeg &&& 31) = 23
  · have hw := hw.1 hc23
    refine lv_tableIn (tgt := 1130) (off := 1091) C.1 C.2.1 dL_law_39 (by rw [hc23]; decide) (by rw [hc23]; decide) (by rw [hc23]; rfl) (by decide) ?_
    exact w_law_c23 hl C hX hbl hbA hcc hss kk hW hS hL h0 h1 h2 h3 h4 hw
  have hw := hw.2 hc23
  by_cases hc24 : (xs (l4 : Int32).toNatClampNeg &&& 31) = 24
  · have hw := hw.1 hc24
    refine lv_tableIn (tgt := 1185) (off := 1146) C.1 C.2.1 dL_law_39 (by rw [hc24]; decide) (by rw [hc24]; decide) (by rw [hc24]; rfl) (by decide) ?_
    exact w_law_c24 hl C hX hbl hbA hcc hss kk hW hS hL h0 h1 h2 h3 h4 hw
  have hw := hw.2 hc24
  by_cases hc25 : (xs (l4 : Int32).toNatClampNeg &&& 31) = 25
  · have hw := hw.1 hc25
    refine lv_tableIn (tgt := 1222) (off := 1183) C.1 C.2.1 dL_law_39 (by rw [hc25]; decide) (by rw [hc25]; decide) (by rw [hc25]; rfl) (by decide) ?_
    exact w_law_c25 hl C hX hbl hbA hcc hss kk hW hS hL h0 h1 h2 h3 h4 hw
  have hw := hw.2 hc25
  by_cases hc26 : (xs (l4 : Int32).toNatClampNeg &&& 31) = 26
  · have hw := hw.1 hc26
    refine lv_tableIn (tgt := 1247) (off := 1208) C.1 C.2.1 dL_law_39 (by rw [hc26]; decide) (by rw [hc26]; decide) (by rw [hc26]; rfl) (by decide) ?_
    exact w_law_c26 hl C hX hbl hbA hcc hss kk hW hS hL h0 h1 h2 h3 h4 hw
  have hw := hw.2 hc26
  by_cases hc27 : (xs (l4 : Int32).toNatClampNeg &&& 31) = 27
  · have hw := hw.1 hc27
    refine lv_tableIn (tgt := 1303) (off := 1264) C.1 C.2.1 dL_law_39 (by rw [hc27]; decide) (by rw [hc27]; decide) (by rw [hc27]; rfl) (by decide) ?_
    exact w_law_c27 hl C hX hbl hbA hcc hss kk hW hS hL h0 h1 h2 h3 h4 hw
  have hw := hw.2 hc27
  by_cases hc28 : (xs (l4 : Int32).toNatClampNeg &&& 31) = 28
  · have hw := hw.1 hc28
    refine lv_tableIn (tgt := 1378) (off := 1339) C.1 C.2.1 dL_law_39 (by rw [hc28]; decide) (by rw [hc28]; decide) (by rw [hc28]; rfl) (by decide) ?_
    exact w_law_c28 hl C hX hbl hbA hcc hss kk hW hS hL h0 h1 h2 h3 h4 hw
  have hw := hw.2 hc28
  by_cases hc29 : (xs (l4 : Int32).toNatClampNeg &&& 31) = 29
  · have hw := hw.1 hc29
    refine lv_tableIn (tgt := 1391) (off := 1352) C.1 C.2.1 dL_law_39 (by rw [hc29]; decide) (by rw [hc29]; decide) (by rw [hc29]; rfl) (by decide) ?_
    exact w_law_c29 hl C hX hbl hbA hcc hss kk hW hS hL h0 h1 h2 h3 h4 hw
  have hw := hw.2 hc29
  refine lv_tableOut (tgt := 1416) C.1 C.2.1 dL_law_39 (tsw_out 0 29 (fun v h1 h2 => ?_)) (by decide) ?_
  · have : v = 0 ∨ v = 1 ∨ v = 2 ∨ v = 3 ∨ v = 4 ∨ v = 5 ∨ v = 6 ∨ v = 7 ∨ v = 8 ∨ v = 9 ∨ v = 10 ∨ v = 11 ∨ v = 12 ∨ v = 13 ∨ v = 14 ∨ v = 15 ∨ v = 16 ∨ v = 17 ∨ v = 18 ∨ v = 19 ∨ v = 20 ∨ v = 21 ∨ v = 22 ∨ v = 23 ∨ v = 24 ∨ v = 25 ∨ v = 26 ∨ v = 27 ∨ v = 28 ∨ v = 29 := by omega
    rcases this with rfl | rfl | rfl | rfl | rfl | rfl | rfl | rfl | rfl | rfl | rfl | rfl | rfl | rfl | rfl | rfl | rfl | rfl | rfl | rfl | rfl | rfl | rfl | rfl | rfl | rfl | rfl | rfl | rfl | rfl
    · exact lv_neT hc0 (by decide)
    · exact lv_neT hc1 (by decide)
    · exact lv_neT hc2 (by decide)
    · exact lv_neT hc3 (by decide)
    · exact lv_neT hc4 (by decide)
    · exact lv_neT hc5 (by decide)
    · exact lv_neT hc6 (by decide)
    · exact lv_neT hc7 (by decide)
    · exact lv_neT hc8 (by decide)
    · exact lv_neT hc9 (by decide)
    · exact lv_neT hc10 (by decide)
    · exact lv_neT hc11 (by decide)
    · exact lv_neT hc12 (by decide)
    · exact lv_neT hc13 (by decide)
    · exact lv_neT hc14 (by decide)
    · exact lv_neT hc15 (by decide)
    · exact lv_neT hc16 (by decide)
    · exact lv_neT hc17 (by decide)
    · exact lv_neT hc18 (by decide)
    · exact lv_neT hc19 (by decide)
    · exact lv_neT hc20 (by decide)
    · exact lv_neT hc21 (by decide)
    · exact lv_neT hc22 (by decide)
    · exact lv_neT hc23 (by decide)
    · exact lv_neT hc24 (by decide)
    · exact lv_neT hc25 (by decide)
    · exact lv_neT hc26 (by decide)
    · exact lv_neT hc27 (by decide)
    · exact lv_neT hc28 (by decide)
    · exact lv_neT hc29 (by decide)
  · refine W.widen (k := cells + 40) (n := slots + 2000) (by omega) (by omega) ?_
    exact kk _ _ _ _ hW hS hL h0 h1 h2 h3 h4 hw
