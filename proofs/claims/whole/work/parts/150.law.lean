def wp_law_c0 (S : Hp) (x mm out : Nat) (xs : Nat → Int32) (L : Nat) (l4 : Int32) (K : Hp → Prop) : Prop := vp_in (l4 + 1) L ∧ hK S x = 13 ∧ wp_X11_craft S x (xs ((l4 + 1) : Int32).toNatClampNeg) (fun r4 S3 => vp_in (l4 + 1) L ∧ hK S3 mm = 14 ∧ wp_X12_craft S3 mm (xs ((l4 + 1) : Int32).toNatClampNeg) (fun r8 S7 => (r4 = r8 → K S7) ∧ (¬ (r4 = r8) → False)))
set_option maxRecDepth 100000 in
set_option maxHeartbeats 4000000 in
theorem w_law_c0 {p : Program} {l : Launch} (hl : l.stackTraces = false) {e : Env} {s : State} {m : MethodId} {args : Array Value} {below : List Frame} {meth : Method} {c : Code} {G : GX} {Qz : State → Prop} {b L : Nat} {xs : Nat → Int32} {x mm out : Nat} (C : Cx p s m args meth c cL_law 8 RL (some .boolean) "law" G) (hX : va_X b L xs s s.heap) (hbl : b < s.heap.size) (hbA : ¬ G.2.2.1 b) {cells slots : Nat} (hcc : cells + 40 ≤ 601024) (hss : slots + 2000 ≤ 7293034) {K : Hp → Prop} {l4 : Int32} (kk : ∀ (S : Hp) (H : Heap) (locs : List Loc) (ls : Array Slot), wd G S H → va_S G.2.2.1 s.heap H locs → LV ls 8 → ls[0]? = some (.val (va_rf (some b))) → ls[1]? = some (.val (va_rf (some x))) → ls[2]? = some (.val (va_rf (some mm))) → ls[3]? = some (.val (va_rf (some out))) → ls[4]? = some (.val (.int l4)) → K S → W p l e room_1 s m args below meth c H locs (cells + 40) (slots + 2000) Qz (F0 m 1416 ls []))
    {S : Hp} {H : Heap} {locs : List Loc} {ls : Array Slot} (hW : wd G S H) (hS : va_S G.2.2.1 s.heap H locs) (hL : LV ls 8) (h0 : ls[0]? = some (.val (va_rf (some b)))) (h1 : ls[1]? = some (.val (va_rf (some x)))) (h2 : ls[2]? = some (.val (va_rf (some mm)))) (h3 : ls[3]? = some (.val (va_rf (some out)))) (h4 : ls[4]? = some (.val (.int l4))) (hw : wp_law_c0 S x mm out xs L l4 K) : W p l e room_1 s m args below meth c H locs cells slots Qz (F0 m 172 ls []) := by
  unfold wp_law_c0 at hw
  refine m_aldN C dL_law_172 rfl h1 ?_
  refine m_aldN C dL_law_173 rfl h0 ?_
  refine lv_iload C.1 C.2.1 dL_law_174 h4 ?_
  refine lv_iconst (v := 1) C.1 C.2.1 dL_law_176 (by decide) ?_
  refine lv_iadd C.1 C.2.1 dL_law_177 ?_
  obtain ⟨hi1, hw⟩ := hw
  refine va_sld C.1 C.2.1 hX hbl hbA hS hi1 dL_law_178 ?_
  obtain ⟨hk2, hw⟩ := hw
  refine m_rI (m_runV (As := [.int (xs ((l4 + 1) : Int32).toNatClampNeg)]) (rest := []) C hW hS hL (c_X11_craft hw) v_L_50 ⟨rfl, rfl⟩ ⟨Nat.le_of_ble_eq_true rfl, Nat.le_of_ble_eq_true rfl⟩ rfl hk2 rfl rfl (Nat.le_of_ble_eq_true rfl) dL_law_179 ⟨by show _ ≤ 601024; omega, by show _ ≤ 7293034; omega⟩) hS (fun r4 S3 H locs hw hW hS => ?_)
  refine m_aldN C dL_law_182 rfl h2 ?_
  refine m_aldN C dL_law_183 rfl h0 ?_
  refine lv_iload C.1 C.2.1 dL_law_184 h4 ?_
  refine lv_iconst (v := 1) C.1 C.2.1 dL_law_186 (by decide) ?_
  refine lv_iadd C.1 C.2.1 dL_law_187 ?_
  obtain ⟨hi5, hw⟩ := hw
  refine va_sld C.1 C.2.1 hX hbl hbA hS hi5 dL_law_188 ?_
  obtain ⟨hk6, hw⟩ := hw
  refine m_rI (m_runV (As := [.int (xs ((l4 + 1) : Int32).toNatClampNeg)]) (rest := [.int r4]) C hW hS hL (c_X12_craft hw) v_L_53 ⟨rfl, rfl⟩ ⟨Nat.le_of_ble_eq_true rfl, Nat.le_of_ble_eq_true rfl⟩ rfl hk6 rfl rfl (Nat.le_of_ble_eq_true rfl) dL_law_189 ⟨by show _ ≤ 601024; omega, by show _ ≤ 7293034; omega⟩) hS (fun r8 S7 H locs hw hW hS => ?_)
  refine lv_icmp_eq (tgt := 1416) C.1 C.2.1 dL_law_192 (by decide) (fun hc9 => ?_) (fun hc9 => ?_)
  · have hw := hw.1 hc9
    refine W.widen (k := cells + 40) (n := slots + 2000) (by omega) (by omega) ?_
    exact kk _ _ _ _ hW hS hL h0 h1 h2 h3 h4 hw
  · have hw := hw.2 hc9
    refine lv_iconst (v := 0) C.1 C.2.1 dL_law_195 (by decide) ?_
    exact False.elim hw
def wp_law_c1 (S : Hp) (x mm out : Nat) (xs : Nat → Int32) (L : Nat) (l4 : Int32) (K : Hp → Prop) : Prop := hK S x = 13 ∧ wp_X11_machine S x (fun r12 S11 => hK S11 mm = 14 ∧ wp_X12_machine S11 mm (fun r15 S14 => (r12 = r15 → K S14) ∧ (¬ (r12 = r15) → False)))
set_option maxRecDepth 100000 in
set_option maxHeartbeats 4000000 in
theorem w_law_c1 {p : Program} {l : Launch} (hl : l.stackTraces = false) {e : Env} {s : State} {m : MethodId} {args : Array Value} {below : List Frame} {meth : Method} {c : Code} {G : GX} {Qz : State → Prop} {b L : Nat} {xs : Nat → Int32} {x mm out : Nat} (C : Cx p s m args meth c cL_law 8 RL (some .boolean) "law" G) (hX : va_X b L xs s s.heap) (hbl : b < s.heap.size) (hbA : ¬ G.2.2.1 b) {cells slots : Nat} (hcc : cells + 40 ≤ 601024) (hss : slots + 2000 ≤ 7293034) {K : Hp → Prop} {l4 : Int32} (kk : ∀ (S : Hp) (H : Heap) (locs : List Loc) (ls : Array Slot), wd G S H → va_S G.2.2.1 s.heap H locs → LV ls 8 → ls[0]? = some (.val (va_rf (some b))) → ls[1]? = some (.val (va_rf (some x))) → ls[2]? = some (.val (va_rf (some mm))) → ls[3]? = some (.val (va_rf (some out))) → ls[4]? = some (.val (.int l4)) → K S → W p l e room_1 s m args below meth c H locs (cells + 40) (slots + 2000) Qz (F0 m 1416 ls []))
    {S : Hp} {H : Heap} {locs : List Loc} {ls : Array Slot} (hW : wd G S H) (hS : va_S G.2.2.1 s.heap H locs) (hL : LV ls 8) (h0 : ls[0]? = some (.val (va_rf (some b)))) (h1 : ls[1]? = some (.val (va_rf (some x)))) (h2 : ls[2]? = some (.val (va_rf (some mm)))) (h3 : ls[3]? = some (.val (va_rf (some out)))) (h4 : ls[4]? = some (.val (.int l4))) (hw : wp_law_c1 S x mm out xs L l4 K) : W p l e room_1 s m args below meth c H locs cells slots Qz (F0 m 197 ls []) := by
  unfold wp_law_c1 at hw
  refine m_aldN C dL_law_197 rfl h1 ?_
  obtain ⟨hk10, hw⟩ := hw
  refine m_rI (m_runV (As := []) (rest := []) C hW hS hL (c_X11_machine hw) v_L_54 ⟨rfl, rfl⟩ ⟨Nat.le_of_ble_eq_true rfl, Nat.le_of_ble_eq_true rfl⟩ rfl hk10 rfl rfl (Nat.le_of_ble_eq_true rfl) dL_law_198 ⟨by show _ ≤ 601024; omega, by show _ ≤ 7293034; omega⟩) hS (fun r12 S11 H locs hw hW hS => ?_)
  refine m_aldN C dL_law_201 rfl h2 ?_
  obtain ⟨hk13, hw⟩ := hw
  refine m_rI (m_runV (As := []) (rest := [.int r12]) C hW hS hL (c_X12_machine hw) v_L_58 ⟨rfl, rfl⟩ ⟨Nat.le_of_ble_eq_true rfl, Nat.le_of_ble_eq_true rfl⟩ rfl hk13 rfl rfl (Nat.le_of_ble_eq_true rfl) dL_law_202 ⟨by show _ ≤ 601024; omega, by show _ ≤ 7293034; omega⟩) hS (fun r15 S14 H locs hw hW hS => ?_)
  refine lv_icmp_eq (tgt := 1416) C.1 C.2.1 dL_law_205 (by decide) (fun hc16 => ?_) (fun hc16 => ?_)
  · have hw := hw.1 hc16
    refine W.widen (k := cells + 40) (n := slots + 2000) (by omega) (by omega) ?_
    exact kk _ _ _ _ hW hS hL h0 h1 h2 h3 h4 hw
  · have hw := hw.2 hc16
    refine lv_iconst (v := 0) C.1 C.2.1 dL_law_208 (by decide) ?_
    exact False.elim hw
def wp_law_c2 (S : Hp) (x mm out : Nat) (xs : Nat → Int32) (L : Nat) (l4 : Int32) (K : Hp → Prop) : Prop := vp_in (l4 + 1) L ∧ vp_in (l4 + 2) L ∧ hK S x = 13 ∧ wp_X11_stock S x (xs ((l4 + 1) : Int32).toNatClampNeg) (xs ((l4 + 2) : Int32).toNatClampNeg) (fun r21 S20 => vp_in (l4 + 1) L ∧ vp_in (l4 + 2) L ∧ hK S20 mm = 14 ∧ wp_X12_stock S20 mm (xs ((l4 + 1) : Int32).toNatClampNeg) (xs ((l4 + 2) : Int32).toNatClampNeg) (fun r26 S25 => (r21 = r26 → K S25) ∧ (¬ (r21 = r26) → False)))
set_option maxRecDepth 100000 in
set_option maxHeartbeats 4000000 in
theorem w_law_c2 {p : Program} {l : Launch} (hl : l.stackTraces = false) {e : Env} {s : State} {m : MethodId} {args : Array Value} {below : List Frame} {meth : Method} {c : Code} {G : GX} {Qz : State → Prop} {b L : Nat} {xs : Nat → Int32} {x mm out : Nat} (C : Cx p s m args meth c cL_law 8 RL (some .boolean) "law" G) (hX : va_X b L xs s s.heap) (hbl : b < s.heap.size) (hbA : ¬ G.2.2.1 b) {cells slots : Nat} (hcc : cells + 40 ≤ 601024) (hss : slots + 2000 ≤ 7293034) {K : Hp → Prop} {l4 : Int32} (kk : ∀ (S : Hp) (H : Heap) (locs : List Loc) (ls : Array Slot), wd G S H → va_S G.2.2.1 s.heap H locs → LV ls 8 → ls[0]? = some (.val (va_rf (some b))) → ls[1]? = some (.val (va_rf (some x))) → ls[2]? = some (.val (va_rf (some mm))) → ls[3]? = some (.val (va_rf (some out))) → ls[4]? = some (.val (.int l4)) → K S → W p l e room_1 s m args below meth c H locs (cells + 40) (slots + 2000) Qz (F0 m 1416 ls []))
    {S : Hp} {H : Heap} {locs : List Loc} {ls : Array Slot} (hW : wd G S H) (hS : va_S G.2.2.1 s.heap H locs) (hL : LV ls 8) (h0 : ls[0]? = some (.val (va_rf (some b)))) (h1 : ls[1]? = some (.val (va_rf (some x)))) (h2 : ls[2]? = some (.val (va_rf (some mm)))) (h3 : ls[3]? = some (.val (va_rf (some out)))) (h4 : ls[4]? = some (.val (.int l4))) (hw : wp_law_c2 S x mm out xs L l4 K) : W p l e room_1 s m args below meth c H locs cells slots Qz (F0 m 210 ls []) := by
  unfold wp_law_c2 at hw
  refine m_aldN C dL_law_210 rfl h1 ?_
  refine m_aldN C dL_law_211 rfl h0 ?_
  refine lv_iload C.1 C.2.1 dL_law_212 h4 ?_
  refine lv_iconst (v := 1) C.1 C.2.1 dL_law_214 (by decide) ?_
  refine lv_iadd C.1 C.2.1 dL_law_215 ?_
  obtain ⟨hi17, hw⟩ := hw
  refine va_sld C.1 C.2.1 hX hbl hbA hS hi17 dL_law_216 ?_
  refine m_aldN C dL_law_217 rfl h0 ?_
  refine lv_iload C.1 C.2.1 dL_law_218 h4 ?_
  refine lv_iconst (v := 2) C.1 C.2.1 dL_law_220 (by decide) ?_
  refine lv_iadd C.1 C.2.1 dL_law_221 ?_
  obtain ⟨hi18, hw⟩ := hw
  refine va_sld C.1 C.2.1 hX hbl hbA hS hi18 dL_law_222 ?_
  obtain ⟨hk19, hw⟩ := hw
  refine m_rI (m_runV (As := [.int (xs ((l4 + 1) : Int32).toNatClampNeg), .int (xs ((l4 + 2) : Int32).toNatClampNeg)]) (rest := []) C hW hS hL (c_X11_stock hw) v_L_59 ⟨rfl, rfl⟩ ⟨Nat.le_of_ble_eq_true rfl, Nat.le_of_ble_eq_true rfl⟩ rfl hk19 rfl rfl (Nat.le_of_ble_eq_true rfl) dL_law_223 ⟨by show _ ≤ 601024; omega, by show _ ≤ 7293034; omega⟩) hS (fun r21 S20 H locs hw hW hS => ?_)
  refine m_aldN C dL_law_226 rfl h2 ?_
  refine m_aldN C dL_law_227 rfl h0 ?_
  refine lv_iload C.1 C.2.1 dL_law_228 h4 ?_
  refine lv_iconst (v := 1) C.1 C.2.1 dL_law_230 (by decide) ?_
  refine lv_iadd C.1 C.2.1 dL_law_231 ?_
  obtain ⟨hi22, hw⟩ := hw
  refine va_sld C.1 C.2.1 hX hbl hbA hS hi22 dL_law_232 ?_
  refine m_aldN C dL_law_233 rfl h0 ?_
  refine lv_iload C.1 C.2.1 dL_law_234 h4 ?_
  refine lv_iconst (v := 2) C.1 C.2.1 dL_law_236 (by decide) ?_
  refine lv_iadd C.1 C.2.1 dL_law_237 ?_
  obtain ⟨hi23, hw⟩ := hw
  refine va_sld C.1 C.2.1 hX hbl hbA hS hi23 dL_law_238 ?_
  obtain ⟨hk24, hw⟩ := hw
  refine m_rI (m_runV (As := [.int (xs ((l4 + 1) : Int32).toNatClampNeg), .int (xs ((l4 + 2) : Int32).toNatClampNeg)]) (rest := [.int r21]) C hW hS hL (c_X12_stock hw) v_L_62 ⟨rfl, rfl⟩ ⟨Nat.le_of_ble_eq_true rfl, Nat.le_of_ble_eq_true rfl⟩ rfl hk24 rfl rfl (Nat.le_of_ble_eq_true rfl) dL_law_239 ⟨by show _ ≤ 601024; omega, by show _ ≤ 7293034; omega⟩) hS (fun r26 S25 H locs hw hW hS => ?_)
  refine lv_icmp_eq (tgt := 1416) C.1 C.2.1 dL_law_242 (by decide) (fun hc27 => ?_) (fun hc27 => ?_)
  · have hw := hw.1 hc27
    refine W.widen (k := cells + 40) (n := slots + 2000) (by omega) (by omega) ?_
    exact kk _ _ _ _ hW hS hL h0 h1 h2 h3 h4 hw
  · have hw := hw.2 hc27
    refine lv_iconst (v := 0) C.1 C.2.1 dL_law_245 (by decide) ?_
    exact False.elim hw
def wp_law_c3 (S : Hp) (x mm out : Nat) (xs : Nat → Int32) (L : Nat) (l4 : Int32) (K : Hp → Prop) : Prop := vp_in (l4 + 1) L ∧ vp_in (l4 + 2) L ∧ vp_in (l4 + 3) L ∧ hK S x = 13 ∧ wp_X11_job S x (xs ((l4 + 1) : Int32).toNatClampNeg) (xs ((l4 + 2) : Int32).toNatClampNeg) (xs ((l4 + 3) : Int32).toNatClampNeg) (fun r33 S32 => vp_in (l4 + 1) L ∧ vp_in (l4 + 2) L ∧ vp_in (l4 + 3) L ∧ hK S32 mm = 14 ∧ wp_X12_job S32 mm (xs ((l4 + 1) : Int32).toNatClampNeg) (xs ((l4 + 2) : Int32).toNatClampNeg) (xs ((l4 + 3) : Int32).toNatClampNeg) (fun r39 S38 => (r33 = r39 → K S38) ∧ (¬ (r33 = r39) → False)))
set_option maxRecDepth 100000 in
set_option maxHeartbeats 4000000 in
theorem w_law_c3 {p : Program} {l : Launch} (hl : l.stackTraces = false) {e : Env} {s : State} {m : MethodId} {args : Array Value} {below : List Frame} {meth : Method} {c : Code} {G : GX} {Qz : State → Prop} {b L : Nat} {xs : Nat → Int32} {x mm out : Nat} (C : Cx p s m args meth c cL_law 8 RL (some .boolean) "law" G) (hX : va_X b L xs s s.heap) (hbl : b < s.heap.size) (hbA : ¬ G.2.2.1 b) {cells slots : Nat} (hcc : cells + 40 ≤ 601024) (hss : slots + 2000 ≤ 7293034) {K : Hp → Prop} {l4 : Int32} (kk : ∀ (S : Hp) (H : Heap) (locs : List Loc) (ls : Array Slot), wd G S H → va_S G.2.2.1 s.heap H locs → LV ls 8 → ls[0]? = some (.val (va_rf (some b))) → ls[1]? = some (.val (va_rf (some x))) → ls[2]? = some (.val (va_rf (some mm))) → ls[3]? = some (.val (va_rf (some out))) → ls[4]? = some (.val (.int l4)) → K S → W p l e room_1 s m args below meth c H locs (cells + 40) (slots + 2000) Qz (F0 m 1416 ls []))
    {S : Hp} {H : Heap} {locs : List Loc} {ls : Array Slot} (hW : wd G S H) (hS : va_S G.2.2.1 s.heap H locs) (hL : LV ls 8) (h0 : ls[0]? = some (.val (va_rf (some b)))) (h1 : ls[1]? = some (.val (va_rf (some x)))) (h2 : ls[2]? = some (.val (va_rf (some mm)))) (h3 : ls[3]? = some (.val (va_rf (some out)))) (h4 : ls[4]? = some (.val (.int l4))) (hw : wp_law_c3 S x mm out xs L l4 K) : W p l e room_1 s m args below meth c H locs cells slots Qz (F0 m 247 ls []) := by
  unfold wp_law_c3 at hw
  refine m_aldN C dL_law_247 rfl h1 ?_
  refine m_aldN C dL_law_248 rfl h0 ?_
  refine lv_iload C.1 C.2.1 dL_law_249 h4 ?_
  refine lv_iconst (v := 1) C.1 C.2.1 dL_law_251 (by decide) ?_
  refine lv_iadd C.1 C.2.1 dL_law_252 ?_
  obtain ⟨hi28, hw⟩ := hw
  refine va_sld C.1 C.2.1 hX hbl hbA hS hi28 dL_law_253 ?_
  refine m_aldN C dL_law_254 rfl h0 ?_
  refine lv_iload C.1 C.2.1 dL_law_255 h4 ?_
  refine lv_iconst (v := 2) C.1 C.2.1 dL_law_257 (by decide) ?_
  refine lv_iadd C.1 C.2.1 dL_law_258 ?_
  obtain ⟨hi29, hw⟩ := hw
  refine va_sld C.1 C.2.1 hX hbl hbA hS hi29 dL_law_259 ?_
  refine m_aldN C dL_law_260 rfl h0 ?_
  refine lv_iload C.1 C.2.1 dL_law_261 h4 ?_
  refine lv_iconst (v := 3) C.1 C.2.1 dL_law_263 (by decide) ?_
  refine lv_iadd C.1 C.2.1 dL_law_264 ?_
  obtain ⟨hi30, hw⟩ := hw
  refine va_sld C.1 C.2.1 hX hbl hbA hS hi30 dL_law_265 ?_
  obtain ⟨hk31, hw⟩ := hw
  refine m_rI (m_runV (As := [.int (xs ((l4 + 1) : Int32).toNatClampNeg), .int (xs ((l4 + 2) : Int32).toNatClampNeg), .int (xs ((l4 + 3) : Int32).toNatClampNeg)]) (rest := []) C hW hS hL (c_X11_job hw) v_L_63 ⟨rfl, rfl⟩ ⟨Nat.le_of_ble_eq_true rfl, Nat.le_of_ble_eq_true rfl⟩ rfl hk31 rfl rfl (Nat.le_of_ble_eq_true rfl) dL_law_266 ⟨by show _ ≤ 601024; omega, by show _ ≤ 7293034; omega⟩) hS (fun r33 S32 H locs hw hW hS => ?_)
  refine m_aldN C dL_law_269 rfl h2 ?_
  refine m_aldN C dL_law_270 rfl h0 ?_
  refine lv_iload C.1 C.2.1 dL_law_271 h4 ?_
  refine lv_iconst (v := 1) C.1 C.2.1 dL_law_273 (by decide) ?_
  refine lv_iadd C.1 C.2.1 dL_law_274 ?_
  obtain ⟨hi34, hw⟩ := hw
  refine va_sld C.1 C.2.1 hX hbl hbA hS hi34 dL_law_275 ?_
  refine m_aldN C dL_law_276 rfl h0 ?_
  refine lv_iload C.1 C.2.1 dL_law_277 h4 ?_
  refine lv_iconst (v := 2) C.1 C.2.1 dL_law_279 (by decide) ?_
  refine lv_iadd C.1 C.2.1 dL_law_280 ?_
  obtain ⟨hi35, hw⟩ := hw
  refine va_sld C.1 C.2.1 hX hbl hbA hS hi35 dL_law_281 ?_
  refine m_aldN C dL_law_282 rfl h0 ?_
  refine lv_iload C.1 C.2.1 dL_law_283 h4 ?_
  refine lv_iconst (v := 3) C.1 C.2.1 dL_law_285 (by decide) ?_
  refine lv_iadd C.1 C.2.1 dL_law_286 ?_
  obtain ⟨hi36, hw⟩ := hw
  refine va_sld C.1 C.2.1 hX hbl hbA hS hi36 dL_law_287 ?_
  obtain ⟨hk37, hw⟩ := hw
  refine m_rI (m_runV (As := [.int (xs ((l4 + 1) : Int32).toNatClampNeg), .int (xs ((l4 + 2) : Int32).toNatClampNeg), .int (xs ((l4 + 3) : Int32).toNatClampNeg)]) (rest := [.int r33]) C hW hS hL (c_X12_job hw) v_L_67 ⟨rfl, rfl⟩ ⟨Nat.le_of_ble_eq_true rfl, Nat.le_of_ble_eq_true rfl⟩ rfl hk37 rfl rfl (Nat.le_of_ble_eq_true rfl) dL_law_288 ⟨by show _ ≤ 601024; omega, by show _ ≤ 7293034; omega⟩) hS (fun r39 S38 H locs hw hW hS => ?_)
  refine lv_icmp_eq (tgt := 1416) C.1 C.2.1 dL_law_291 (by decide) (fun hc40 => ?_) (fun hc40 => ?_)
  · have hw := hw.1 hc40
    refine W.widen (k := cells + 40) (n := slots + 2000) (by omega) (by omega) ?_
    exact kk _ _ _ _ hW hS hL h0 h1 h2 h3 h4 hw
  · have hw := hw.2 hc40
    refine lv_iconst (v := 0) C.1 C.2.1 dL_law_294 (by decide) ?_
    exact False.elim hw
def wp_law_c4 (S : Hp) (x mm out : Nat) (xs : Nat → Int32) (L : Nat) (l4 : Int32) (K : Hp → Prop) : Prop := vp_in (l4 + 1) L ∧ vp_in (l4 + 2) L ∧ hK S x = 13 ∧ wp_X11_after S x (xs ((l4 + 1) : Int32).toNatClampNeg) (xs ((l4 + 2) : Int32).toNatClampNeg) (fun r45 S44 => vp_in (l4 + 1) L ∧ vp_in (l4 + 2) L ∧ hK S44 mm = 14 ∧ wp_X12_after S44 mm (xs ((l4 + 1) : Int32).toNatClampNeg) (xs ((l4 + 2) : Int32).toNatClampNeg) (fun r50 S49 => (r45 = r50 → K S49) ∧ (¬ (r45 = r50) → False)))
set_option maxRecDepth 100000 in
set_option maxHeartbeats 4000000 in
theorem w_law_c4 {p : Program} {l : Launch} (hl : l.stackTraces = false) {e : Env} {s : State} {m : MethodId} {args : Array Value} {below : List Frame} {meth : Method} {c : Code} {G : GX} {Qz : State → Prop} {b L : Nat} {xs : Nat → Int32} {x mm out : Nat} (C : Cx p s m args meth c cL_law 8 RL (some .boolean) "law" G) (hX : va_X b L xs s s.heap) (hbl : b < s.heap.size) (hbA : ¬ G.2.2.1 b) {cells slots : Nat} (hcc : cells + 40 ≤ 601024) (hss : slots + 2000 ≤ 7293034) {K : Hp → Prop} {l4 : Int32} (kk : ∀ (S : Hp) (H : Heap) (locs : List Loc) (ls : Array Slot), wd G S H → va_S G.2.2.1 s.heap H locs → LV ls 8 → ls[0]? = some (.val (va_rf (some b))) → ls[1]? = some (.val (va_rf (some x))) → ls[2]? = some (.val (va_rf (some mm))) → ls[3]? = some (.val (va_rf (some out))) → ls[4]? = some (.val (.int l4)) → K S → W p l e room_1 s m args below meth c H locs (cells + 40) (slots + 2000) Qz (F0 m 1416 ls []))
    {S : Hp} {H : Heap} {locs : List Loc} {ls : Array Slot} (hW : wd G S H) (hS : va_S G.2.2.1 s.heap H locs) (hL : LV ls 8) (h0 : ls[0]? = some (.val (va_rf (some b)))) (h1 : ls[1]? = some (.val (va_rf (some x)))) (h2 : ls[2]? = some (.val (va_rf (some mm)))) (h3 : ls[3]? = some (.val (va_rf (some out)))) (h4 : ls[4]? = some (.val (.int l4))) (hw : wp_law_c4 S x mm out xs L l4 K) : W p l e room_1 s m args below meth c H locs cells slots Qz (F0 m 296 ls []) := by
  unfold wp_law_c4 at hw
  refine m_aldN C dL_law_296 rfl h1 ?_
  refine m_aldN C dL_law_297 rfl h0 ?_
  refine lv_iload C.1 C.2.1 dL_law_298 h4 ?_
  refine lv_iconst (v := 1) C.1 C.2.1 dL_law_300 (by decide) ?_
  refine lv_iadd C.1 C.2.1 dL_law_301 ?_
  obtain ⟨hi41, hw⟩ := hw
  refine va_sld C.1 C.2.1 hX hbl hbA hS hi41 dL_law_302 ?_
  refine m_aldN C dL_law_303 rfl h0 ?_
  refine lv_iload C.1 C.2.1 dL_law_304 h4 ?_
  refine lv_iconst (v := 2) C.1 C.2.1 dL_law_306 (by decide) ?_
  refine lv_iadd C.1 C.2.1 dL_law_307 ?_
  obtain ⟨hi42, hw⟩ := hw
  refine va_sld C.1 C.2.1 hX hbl hbA hS hi42 dL_law_308 ?_
  obtain ⟨hk43, hw⟩ := hw
  refine m_rI (m_runV (As := [.int (xs ((l4 + 1) : Int32).toNatClampNeg), .int (xs ((l4 + 2) : Int32).toNatClampNeg)]) (rest := []) C hW hS hL (c_X11_after hw) v_L_68 ⟨rfl, rfl⟩ ⟨Nat.le_of_ble_eq_true rfl, Nat.le_of_ble_eq_true rfl⟩ rfl hk43 rfl rfl (Nat.le_of_ble_eq_true rfl) dL_law_309 ⟨by show _ ≤ 601024; omega, by show _ ≤ 7293034; omega⟩) hS (fun r45 S44 H locs hw hW hS => ?_)
  refine m_aldN C dL_law_312 rfl h2 ?_
  refine m_aldN C dL_law_313 rfl h0 ?_
  refine lv_iload C.1 C.2.1 dL_law_314 h4 ?_
  refine lv_iconst (v := 1) C.1 C.2.1 dL_law_316 (by decide) ?_
  refine lv_iadd C.1 C.2.1 dL_law_317 ?_
  obtain ⟨hi46, hw⟩ := hw
  refine va_sld C.1 C.2.1 hX hbl hbA hS hi46 dL_law_318 ?_
  refine m_aldN C dL_law_319 rfl h0 ?_
  refine lv_iload C.1 C.2.1 dL_law_320 h4 ?_
  refine lv_iconst (v := 2) C.1 C.2.1 dL_law_322 (by decide) ?_
  refine lv_iadd C.1 C.2.1 dL_law_323 ?_
  obtain ⟨hi47, hw⟩ := hw
  refine va_sld C.1 C.2.1 hX hbl hbA hS hi47 dL_law_324 ?_
  obtain ⟨hk48, hw⟩ := hw
  refine m_rI (m_runV (As := [.int (xs ((l4 + 1) : Int32).toNatClampNeg), .int (xs ((l4 + 2) : Int32).toNatClampNeg)]) (rest := [.int r45]) C hW hS hL (c_X12_after hw) v_L_71 ⟨rfl, rfl⟩ ⟨Nat.le_of_ble_eq_true rfl, Nat.le_of_ble_eq_true rfl⟩ rfl hk48 rfl rfl (Nat.le_of_ble_eq_true rfl) dL_law_325 ⟨by show _ ≤ 601024; omega, by show _ ≤ 7293034; omega⟩) hS (fun r50 S49 H locs hw hW hS => ?_)
  refine lv_icmp_eq (tgt := 1416) C.1 C.2.1 dL_law_328 (by decide) (fun hc51 => ?_) (fun hc51 => ?_)
  · have hw := hw.1 hc51
    refine W.widen (k := cells + 40) (n := slots + 2000) (by omega) (by omega) ?_
    exact kk _ _ _ _ hW hS hL h0 h1 h2 h3 h4 hw
  · have hw := hw.2 hc51
    refine lv_iconst (v := 0) C.1 C.2.1 dL_law_331 (by decide) ?_
    exact False.elim hw
def wp_law_c5 (S : Hp) (x mm out : Nat) (xs : Nat → Int32) (L : Nat) (l4 : Int32) (K : Hp → Prop) : Prop := vp_in (l4 + 1) L ∧ vp_in (l4 + 2) L ∧ hK S x = 13 ∧ wp_X11_needs S x (xs ((l4 + 1) : Int32).toNatClampNeg) (xs ((l4 + 2) : Int32).toNatClampNeg) (fun r56 S55 => vp_in (l4 + 1) L ∧ vp_in (l4 + 2) L ∧ hK S55 mm = 14 ∧ wp_X12_needs S55 mm (xs ((l4 + 1) : Int32).toNatClampNeg) (xs ((l4 + 2) : Int32).toNatClampNeg) (fun r61 S60 => (r56 = r61 → K S60) ∧ (¬ (r56 = r61) → False)))
set_option maxRecDepth 100000 in
set_option maxHeartbeats 4000000 in
theorem w_law_c5 {p : Program} {l : Launch} (hl : l.stackTraces = false) {e : Env} {s : State} {m : MethodId} {args : Array Value} {below : List Frame} {meth : Method} {c : Code} {G : GX} {Qz : State → Prop} {b L : Nat} {xs : Nat → Int32} {x mm out : Nat} (C : Cx p s m args meth c cL_law 8 RL (some .boolean) "law" G) (hX : va_X b L xs s s.heap) (hbl : b < s.heap.size) (hbA : ¬ G.2.2.1 b) {cells slots : Nat} (hcc : cells + 40 ≤ 601024) (hss : slots + 2000 ≤ 7293034) {K : Hp → Prop} {l4 : Int32} (kk : ∀ (S : Hp) (H : Heap) (locs : List Loc) (ls : Array Slot), wd G S H → va_S G.2.2.1 s.heap H locs → LV ls 8 → ls[0]? = some (.val (va_rf (some b))) → ls[1]? = some (.val (va_rf (some x))) → ls[2]? = some (.val (va_rf (some mm))) → ls[3]? = some (.val (va_rf (some out))) → ls[4]? = some (.val (.int l4)) → K S → W p l e room_1 s m args below meth c H locs (cells + 40) (slots + 2000) Qz (F0 m 1416 ls []))
    {S : Hp} {H : Heap} {locs : List Loc} {ls : Array Slot} (hW : wd G S H) (hS : va_S G.2.2.1 s.heap H locs) (hL : LV ls 8) (h0 : ls[0]? = some (.val (va_rf (some b)))) (h1 : ls[1]? = some (.val (va_rf (some x)))) (h2 : ls[2]? = some (.val (va_rf (some mm)))) (h3 : ls[3]? = some (.val (va_rf (some out)))) (h4 : ls[4]? = some (.val (.int l4))) (hw : wp_law_c5 S x mm out xs L l4 K) : W p l e room_1 s m args below meth c H locs cells slots Qz (F0 m 333 ls []) := by
  unfold wp_law_c5 at hw
  refine m_aldN C dL_law_333 rfl h1 ?_
  refine m_aldN C dL_law_334 rfl h0 ?_
  refine lv_iload C.1 C.2.1 dL_law_335 h4 ?_
  refine lv_iconst (v := 1) C.1 C.2.1 dL_law_337 (by decide) ?_
  refine lv_iadd C.1 C.2.1 dL_law_338 ?_
  obtain ⟨hi52, hw⟩ := hw
  refine va_sld C.1 C.2.1 hX hbl hbA hS hi52 dL_law_339 ?_
  refine m_aldN C dL_law_340 rfl h0 ?_
  refine lv_iload C.1 C.2.1 dL_law_341 h4 ?_
  refine lv_iconst (v := 2) C.1 C.2.1 dL_law_343 (by decide) ?_
  refine lv_iadd C.1 C.2.1 dL_law_344 ?_
  obtain ⟨hi53, hw⟩ := hw
  refine va_sld C.1 C.2.1 hX hbl hbA hS hi53 dL_law_345 ?_
  obtain ⟨hk54, hw⟩ := hw
  refine m_rI (m_runV (As := [.int (xs ((l4 + 1) : Int32).toNatClampNeg), .int (xs ((l4 + 2) : Int32).toNatClampNeg)]) (rest := []) C hW hS hL (c_X11_needs hw) v_L_72 ⟨rfl, rfl⟩ ⟨Nat.le_of_ble_eq_true rfl, Nat.le_of_ble_eq_true rfl⟩ rfl hk54 rfl rfl (Nat.le_of_ble_eq_true rfl) dL_law_346 ⟨by show _ ≤ 601024; omega, by show _ ≤ 7293034; omega⟩) hS (fun r56 S55 H locs hw hW hS => ?_)
  refine m_aldN C dL_law_349 rfl h2 ?_
  refine m_aldN C dL_law_350 rfl h0 ?_
  refine lv_iload C.1 C.2.1 dL_law_351 h4 ?_
  refine lv_iconst (v := 1) C.1 C.2.1 dL_law_353 (by decide) ?_
  refine lv_iadd C.1 C.2.1 dL_law_354 ?_
  obtain ⟨hi57, hw⟩ := hw
  refine va_sld C.1 C.2.1 hX hbl hbA hS hi57 dL_law_355 ?_
  refine m_aldN C dL_law_356 rfl h0 ?_
  refine lv_iload C.1 C.2.1 dL_law_357 h4 ?_
  refine lv_iconst (v := 2) C.1 C.2.1 dL_law_359 (by decide) ?_
  refine lv_iadd C.1 C.2.1 dL_law_360 ?_
  obtain ⟨hi58, hw⟩ := hw
  refine va_sld C.1 C.2.1 hX hbl hbA hS hi58 dL_law_361 ?_
  obtain ⟨hk59, hw⟩ := hw
  refine m_rI (m_runV (As := [.int (xs ((l4 + 1) : Int32).toNatClampNeg), .int (xs ((l4 + 2) : Int32).toNatClampNeg)]) (rest := [.int r56]) C hW hS hL (c_X12_needs hw) v_L_75 ⟨rfl, rfl⟩ ⟨Nat.le_of_ble_eq_true rfl, Nat.le_of_ble_eq_true rfl⟩ rfl hk59 rfl rfl (Nat.le_of_ble_eq_true rfl) dL_law_362 ⟨by show _ ≤ 601024; omega, by show _ ≤ 7293034; omega⟩) hS (fun r61 S60 H locs hw hW hS => ?_)
  refine lv_icmp_eq (tgt := 1416) C.1 C.2.1 dL_law_365 (by decide) (fun hc62 => ?_) (fun hc62 => ?_)
  · have hw := hw.1 hc62
    refine W.widen (k := cells + 40) (n := slots + 2000) (by omega) (by omega) ?_
    exact kk _ _ _ _ hW hS hL h0 h1 h2 h3 h4 hw
  · have hw := hw.2 hc62
    refine lv_iconst (v := 0) C.1 C.2.1 dL_law_368 (by decide) ?_
    exact False.elim hw
def wp_law_c6 (S : Hp) (x mm out : Nat) (xs : Nat → Int32) (L : Nat) (l4 : Int32) (K : Hp → Prop) : Prop := vp_in (l4 + 1) L ∧ vp_in (l4 + 2) L ∧ vp_in (l4 + 3) L ∧ hK S x = 13 ∧ wp_X11_uses S x (xs ((l4 + 1) : Int32).toNatClampNeg) (xs ((l4 + 2) : Int32).toNatClampNeg) (xs ((l4 + 3) : Int32).toNatClampNeg) (fun r68 S67 => vp_in (l4 + 1) L ∧ vp_in (l4 + 2) L ∧ vp_in (l4 + 3) L ∧ hK S67 mm = 14 ∧ wp_X12_uses S67 mm (xs ((l4 + 1) : Int32).toNatClampNeg) (xs ((l4 + 2) : Int32).toNatClampNeg) (xs ((l4 + 3) : Int32).toNatClampNeg) (fun r74 S73 => (r68 = r74 → K S73) ∧ (¬ (r68 = r74) → False)))
set_option maxRecDepth 100000 in
set_option maxHeartbeats 4000000 in
theorem w_law_c6 {p : Program} {l : Launch} (hl : l.stackTraces = false) {e : Env} {s : State} {m : MethodId} {args : Array Value} {below : List Frame} {meth : Method} {c : Code} {G : GX} {Qz : State → Prop} {b L : Nat} {xs : Nat → Int32} {x mm out : Nat} (C : Cx p s m args meth c cL_law 8 RL (some .boolean) "law" G) (hX : va_X b L xs s s.heap) (hbl : b < s.heap.size) (hbA : ¬ G.2.2.1 b) {cells slots : Nat} (hcc : cells + 40 ≤ 601024) (hss : slots + 2000 ≤ 7293034) {K : Hp → Prop} {l4 : Int32} (kk : ∀ (S : Hp) (H : Heap) (locs : List Loc) (ls : Array Slot), wd G S H → va_S G.2.2.1 s.heap H locs → LV ls 8 → ls[0]? = some (.val (va_rf (some b))) → ls[1]? = some (.val (va_rf (some x))) → ls[2]? = some (.val (va_rf (some mm))) → ls[3]? = some (.val (va_rf (some out))) → ls[4]? = some (.val (.int l4)) → K S → W p l e room_1 s m args below meth c H locs (cells + 40) (slots + 2000) Qz (F0 m 1416 ls []))
    {S : Hp} {H : Heap} {locs : List Loc} {ls : Array Slot} (hW : wd G S H) (hS : va_S G.2.2.1 s.heap H locs) (hL : LV ls 8) (h0 : ls[0]? = some (.val (va_rf (some b)))) (h1 : ls[1]? = some (.val (va_rf (some x)))) (h2 : ls[2]? = some (.val (va_rf (some mm)))) (h3 : ls[3]? = some (.val (va_rf (some out)))) (h4 : ls[4]? = some (.val (.int l4))) (hw : wp_law_c6 S x mm out xs L l4 K) : W p l e room_1 s m args below meth c H locs cells slots Qz (F0 m 370 ls []) := by
  unfold wp_law_c6 at hw
  refine m_aldN C dL_law_370 rfl h1 ?_
  refine m_aldN C dL_law_371 rfl h0 ?_
  refine lv_iload C.1 C.2.1 dL_law_372 h4 ?_
  refine lv_iconst (v := 1) C.1 C.2.1 dL_law_374 (by decide) ?_
  refine lv_iadd C.1 C.2.1 dL_law_375 ?_
  obtain ⟨hi63, hw⟩ := hw
  refine va_sld C.1 C.2.1 hX hbl hbA hS hi63 dL_law_376 ?_
  refine m_aldN C dL_law_377 rfl h0 ?_
  refine lv_iload C.1 C.2.1 dL_law_378 h4 ?_
  refine lv_iconst (v := 2) C.1 C.2.1 dL_law_380 (by decide) ?_
  refine lv_iadd C.1 C.2.1 dL_law_381 ?_
  obtain ⟨hi64, hw⟩ := hw
  refine va_sld C.1 C.2.1 hX hbl hbA hS hi64 dL_law_382 ?_
  refine m_aldN C dL_law_383 rfl h0 ?_
  refine lv_iload C.1 C.2.1 dL_law_384 h4 ?_
  refine lv_iconst (v := 3) C.1 C.2.1 dL_law_386 (by decide) ?_
  refine lv_iadd C.1 C.2.1 dL_law_387 ?_
  obtain ⟨hi65, hw⟩ := hw
  refine va_sld C.1 C.2.1 hX hbl hbA hS hi65 dL_law_388 ?_
  obtain ⟨hk66, hw⟩ := hw
  refine m_rI (m_runV (As := [.int (xs ((l4 + 1) : Int32).toNatClampNeg), .int (xs ((l4 + 2) : Int32).toNatClampNeg), .int (xs ((l4 + 3) : Int32).toNatClampNeg)]) (rest := []) C hW hS hL (c_X11_uses hw) v_L_76 ⟨rfl, rfl⟩ ⟨Nat.le_of_ble_eq_true rfl, Nat.le_of_ble_eq_true rfl⟩ rfl hk66 rfl rfl (Nat.le_of_ble_eq_true rfl) dL_law_389 ⟨by show _ ≤ 601024; omega, by show _ ≤ 7293034; omega⟩) hS (fun r68 S67 H locs hw hW hS => ?_)
  refine m_aldN C dL_law_392 rfl h2 ?_
  refine m_aldN C dL_law_393 rfl h0 ?_
  refine lv_iload C.1 C.2.1 dL_law_394 h4 ?_
  refine lv_iconst (v := 1) C.1 C.2.1 dL_law_396 (by decide) ?_
  refine lv_iadd C.1 C.2.1 dL_law_397 ?_
  obtain ⟨hi69, hw⟩ := hw
  refine va_sld C.1 C.2.1 hX hbl hbA hS hi69 dL_law_398 ?_
  refine m_aldN C dL_law_399 rfl h0 ?_
  refine lv_iload C.1 C.2.1 dL_law_400 h4 ?_
  refine lv_iconst (v := 2) C.1 C.2.1 dL_law_402 (by decide) ?_
  refine lv_iadd C.1 C.2.1 dL_law_403 ?_
  obtain ⟨hi70, hw⟩ := hw
  refine va_sld C.1 C.2.1 hX hbl hbA hS hi70 dL_law_404 ?_
  refine m_aldN C dL_law_405 rfl h0 ?_
  refine lv_iload C.1 C.2.1 dL_law_406 h4 ?_
  refine lv_iconst (v := 3) C.1 C.2.1 dL_law_408 (by decide) ?_
  refine lv_iadd C.1 C.2.1 dL_law_409 ?_
  obtain ⟨hi71, hw⟩ := hw
  refine va_sld C.1 C.2.1 hX hbl hbA hS hi71 dL_law_410 ?_
  obtain ⟨hk72, hw⟩ := hw
  refine m_rI (m_runV (As := [.int (xs ((l4 + 1) : Int32).toNatClampNeg), .int (xs ((l4 + 2) : Int32).toNatClampNeg), .int (xs ((l4 + 3) : Int32).toNatClampNeg)]) (rest := [.int r68]) C hW hS hL (c_X12_uses hw) v_L_79 ⟨rfl, rfl⟩ ⟨Nat.le_of_ble_eq_true rfl, Nat.le_of_ble_eq_true rfl⟩ rfl hk72 rfl rfl (Nat.le_of_ble_eq_true rfl) dL_law_411 ⟨by show _ ≤ 601024; omega, by show _ ≤ 7293034; omega⟩) hS (fun r74 S73 H locs hw hW hS => ?_)
  refine lv_icmp_eq (tgt := 1416) C.1 C.2.1 dL_law_414 (by decide) (fun hc75 => ?_) (fun hc75 => ?_)
  · have hw := hw.1 hc75
    refine W.widen (k := cells + 40) (n := slots + 2000) (by omega) (by omega) ?_
    exact kk _ _ _ _ hW hS hL h0 h1 h2 h3 h4 hw
  · have hw := hw.2 hc75
    refine lv_iconst (v := 0) C.1 C.2.1 dL_law_417 (by decide) ?_
    exact False.elim hw
def wp_law_c7 (S : Hp) (x mm out : Nat) (xs : Nat → Int32) (L : Nat) (l4 : Int32) (K : Hp → Prop) : Prop := vp_in (l4 + 1) L ∧ vp_in (l4 + 2) L ∧ vp_in (l4 + 3) L ∧ hK S x = 13 ∧ wp_X11_gives S x (xs ((l4 + 1) : Int32).toNatClampNeg) (xs ((l4 + 2) : Int32).toNatClampNeg) (xs ((l4 + 3) : Int32).toNatClampNeg) (fun r81 S80 => vp_in (l4 + 1) L ∧ vp_in (l4 + 2) L ∧ vp_in (l4 + 3) L ∧ hK S80 mm = 14 ∧ wp_X12_gives S80 mm (xs ((l4 + 1) : Int32).toNatClampNeg) (xs ((l4 + 2) : Int32).toNatClampNeg) (xs ((l4 + 3) : Int32).toNatClampNeg) (fun r87 S86 => (r81 = r87 → K S86) ∧ (¬ (r81 = r87) → False)))
set_option maxRecDepth 100000 in
set_option maxHeartbeats 4000000 in
theorem w_law_c7 {p : Program} {l : Launch} (hl : l.stackTraces = false) {e : Env} {s : State} {m : MethodId} {args : Array Value} {below : List Frame} {meth : Method} {c : Code} {G : GX} {Qz : State → Prop} {b L : Nat} {xs : Nat → Int32} {x mm out : Nat} (C : Cx p s m args meth c cL_law 8 RL (some .boolean) "law" G) (hX : va_X b L xs s s.heap) (hbl : b < s.heap.size) (hbA : ¬ G.2.2.1 b) {cells slots : Nat} (hcc : cells + 40 ≤ 601024) (hss : slots + 2000 ≤ 7293034) {K : Hp → Prop} {l4 : Int32} (kk : ∀ (S : Hp) (H : Heap) (locs : List Loc) (ls : Array Slot), wd G S H → va_S G.2.2.1 s.heap H locs → LV ls 8 → ls[0]? = some (.val (va_rf (some b))) → ls[1]? = some (.val (va_rf (some x))) → ls[2]? = some (.val (va_rf (some mm))) → ls[3]? = some (.val (va_rf (some out))) → ls[4]? = some (.val (.int l4)) → K S → W p l e room_1 s m args below meth c H locs (cells + 40) (slots + 2000) Qz (F0 m 1416 ls []))
    {S : Hp} {H : Heap} {locs : List Loc} {ls : Array Slot} (hW : wd G S H) (hS : va_S G.2.2.1 s.heap H locs) (hL : LV ls 8) (h0 : ls[0]? = some (.val (va_rf (some b)))) (h1 : ls[1]? = some (.val (va_rf (some x)))) (h2 : ls[2]? = some (.val (va_rf (some mm)))) (h3 : ls[3]? = some (.val (va_rf (some out)))) (h4 : ls[4]? = some (.val (.int l4))) (hw : wp_law_c7 S x mm out xs L l4 K) : W p l e room_1 s m args below meth c H locs cells slots Qz (F0 m 419 ls []) := by
  unfold wp_law_c7 at hw
  refine m_aldN C dL_law_419 rfl h1 ?_
  refine m_aldN C dL_law_420 rfl h0 ?_
  refine lv_iload C.1 C.2.1 dL_law_421 h4 ?_
  refine lv_iconst (v := 1) C.1 C.2.1 dL_law_423 (by decide) ?_
  refine lv_iadd C.1 C.2.1 dL_law_424 ?_
  obtain ⟨hi76, hw⟩ := hw
  refine va_sld C.1 C.2.1 hX hbl hbA hS hi76 dL_law_425 ?_
  refine m_aldN C dL_law_426 rfl h0 ?_
  refine lv_iload C.1 C.2.1 dL_law_427 h4 ?_
  refine lv_iconst (v := 2) C.1 C.2.1 dL_law_429 (by decide) ?_
  refine lv_iadd C.1 C.2.1 dL_law_430 ?_
  obtain ⟨hi77, hw⟩ := hw
  refine va_sld C.1 C.2.1 hX hbl hbA hS hi77 dL_law_431 ?_
  refine m_aldN C dL_law_432 rfl h0 ?_
  refine lv_iload C.1 C.2.1 dL_law_433 h4 ?_
  refine lv_iconst (v := 3) C.1 C.2.1 dL_law_435 (by decide) ?_
  refine lv_iadd C.1 C.2.1 dL_law_436 ?_
  obtain ⟨hi78, hw⟩ := hw
  refine va_sld C.1 C.2.1 hX hbl hbA hS hi78 dL_law_437 ?_
  obtain ⟨hk79, hw⟩ := hw
  refine m_rI (m_runV (As := [.int (xs ((l4 + 1) : Int32).toNatClampNeg), .int (xs ((l4 + 2) : Int32).toNatClampNeg), .int (xs ((l4 + 3) : Int32).toNatClampNeg)]) (rest := []) C hW hS hL (c_X11_gives hw) v_L_80 ⟨rfl, rfl⟩ ⟨Nat.le_of_ble_eq_true rfl, Nat.le_of_ble_eq_true rfl⟩ rfl hk79 rfl rfl (Nat.le_of_ble_eq_true rfl) dL_law_438 ⟨by show _ ≤ 601024; omega, by show _ ≤ 7293034; omega⟩) hS (fun r81 S80 H locs hw hW hS => ?_)
  refine m_aldN C dL_law_441 rfl h2 ?_
  refine m_aldN C dL_law_442 rfl h0 ?_
  refine lv_iload C.1 C.2.1 dL_law_443 h4 ?_
  refine lv_iconst (v := 1) C.1 C.2.1 dL_law_445 (by decide) ?_
  refine lv_iadd C.1 C.2.1 dL_law_446 ?_
  obtain ⟨hi82, hw⟩ := hw
  refine va_sld C.1 C.2.1 hX hbl hbA hS hi82 dL_law_447 ?_
  refine m_aldN C dL_law_448 rfl h0 ?_
  refine lv_iload C.1 C.2.1 dL_law_449 h4 ?_
  refine lv_iconst (v := 2) C.1 C.2.1 dL_law_451 (by decide) ?_
  refine lv_iadd C.1 C.2.1 dL_law_452 ?_
  obtain ⟨hi83, hw⟩ := hw
  refine va_sld C.1 C.2.1 hX hbl hbA hS hi83 dL_law_453 ?_
  refine m_aldN C dL_law_454 rfl h0 ?_
  refine lv_iload C.1 C.2.1 dL_law_455 h4 ?_
  refine lv_iconst (v := 3) C.1 C.2.1 dL_law_457 (by decide) ?_
  refine lv_iadd C.1 C.2.1 dL_law_458 ?_
  obtain ⟨hi84, hw⟩ := hw
  refine va_sld C.1 C.2.1 hX hbl hbA hS hi84 dL_law_459 ?_
  obtain ⟨hk85, hw⟩ := hw
  refine m_rI (m_runV (As := [.int (xs ((l4 + 1) : Int32).toNatClampNeg), .int (xs ((l4 + 2) : Int32).toNatClampNeg), .int (xs ((l4 + 3) : Int32).toNatClampNeg)]) (rest := [.int r81]) C hW hS hL (c_X12_gives hw) v_L_83 ⟨rfl, rfl⟩ ⟨Nat.le_of_ble_eq_true rfl, Nat.le_of_ble_eq_true rfl⟩ rfl hk85 rfl rfl (Nat.le_of_ble_eq_true rfl) dL_law_460 ⟨by show _ ≤ 601024; omega, by show _ ≤ 7293034; omega⟩) hS (fun r87 S86 H locs hw hW hS => ?_)
  refine lv_icmp_eq (tgt := 1416) C.1 C.2.1 dL_law_463 (by decide) (fun hc88 => ?_) (fun hc88 => ?_)
  · have hw := hw.1 hc88
    refine W.widen (k := cells + 40) (n := slots + 2000) (by omega) (by omega) ?_
    exact kk _ _ _ _ hW hS hL h0 h1 h2 h3 h4 hw
  · have hw := hw.2 hc88
    refine lv_iconst (v := 0) C.1 C.2.1 dL_law_466 (by decide) ?_
    exact False.elim hw
def wp_law_c8 (S : Hp) (x mm out : Nat) (xs : Nat → Int32) (L : Nat) (l4 : Int32) (K : Hp → Prop) : Prop := vp_in (l4 + 1) L ∧ vp_in (l4 + 2) L ∧ vp_in (l4 + 3) L ∧ vp_in (l4 + 4) L ∧ hK S x = 13 ∧ wp_X11_body S x (xs ((l4 + 1) : Int32).toNatClampNeg) (xs ((l4 + 2) : Int32).toNatClampNeg) (xs ((l4 + 3) : Int32).toNatClampNeg) (xs ((l4 + 4) : Int32).toNatClampNeg) (fun r95 S94 => vp_in (l4 + 1) L ∧ vp_in (l4 + 2) L ∧ vp_in (l4 + 3) L ∧ vp_in (l4 + 4) L ∧ hK S94 mm = 14 ∧ wp_X12_body S94 mm (xs ((l4 + 1) : Int32).toNatClampNeg) (xs ((l4 + 2) : Int32).toNatClampNeg) (xs ((l4 + 3) : Int32).toNatClampNeg) (xs ((l4 + 4) : Int32).toNatClampNeg) (fun r102 S101 => (r95 = r102 → K S101) ∧ (¬ (r95 = r102) → False)))
set_option maxRecDepth 100000 in
set_option maxHeartbeats 4000000 in
theorem w_law_c8 {p : Program} {l : Launch} (hl : l.stackTraces = false) {e : Env} {s : State} {m : MethodId} {args : Array Value} {below : List Frame} {meth : Method} {c : Code} {G : GX} {Qz : State → Prop} {b L : Nat} {xs : Nat → Int32} {x mm out : Nat} (C : Cx p s m args meth c cL_law 8 RL (some .boolean) "law" G) (hX : va_X b L xs s s.heap) (hbl : b < s.heap.size) (hbA : ¬ G.2.2.1 b) {cells slots : Nat} (hcc : cells + 40 ≤ 601024) (hss : slots + 2000 ≤ 7293034) {K : Hp → Prop} {l4 : Int32} (kk : ∀ (S : Hp) (H : Heap) (locs : List Loc) (ls : Array Slot), wd G S H → va_S G.2.2.1 s.heap H locs → LV ls 8 → ls[0]? = some (.val (va_rf (some b))) → ls[1]? = some (.val (va_rf (some x))) → ls[2]? = some (.val (va_rf (some mm))) → ls[3]? = some (.val (va_rf (some out))) → ls[4]? = some (.val (.int l4)) → K S → W p l e room_1 s m args below meth c H locs (cells + 40) (slots + 2000) Qz (F0 m 1416 ls []))
    {S : Hp} {H : Heap} {locs : List Loc} {ls : Array Slot} (hW : wd G S H) (hS : va_S G.2.2.1 s.heap H locs) (hL : LV ls 8) (h0 : ls[0]? = some (.val (va_rf (some b)))) (h1 : ls[1]? = some (.val (va_rf (some x)))) (h2 : ls[2]? = some (.val (va_rf (some mm)))) (h3 : ls[3]? = some (.val (va_rf (some out)))) (h4 : ls[4]? = some (.val (.int l4))) (hw : wp_law_c8 S x mm out xs L l4 K) : W p l e room_1 s m args below meth c H locs cells slots Qz (F0 m 468 ls []) := by
  unfold wp_law_c8 at hw
  refine m_aldN C dL_law_468 rfl h1 ?_
  refine m_aldN C dL_law_469 rfl h0 ?_
  refine lv_iload C.1 C.2.1 dL_law_470 h4 ?_
  refine lv_iconst (v := 1) C.1 C.2.1 dL_law_472 (by decide) ?_
  refine lv_iadd C.1 C.2.1 dL_law_473 ?_
  obtain ⟨hi89, hw⟩ := hw
  refine va_sld C.1 C.2.1 hX hbl hbA hS hi89 dL_law_474 ?_
  refine m_aldN C dL_law_475 rfl h0 ?_
  refine lv_iload C.1 C.2.1 dL_law_476 h4 ?_
  refine lv_iconst (v := 2) C.1 C.2.1 dL_law_478 (by decide) ?_
  refine lv_iadd C.1 C.2.1 dL_law_479 ?_
  obtain ⟨hi90, hw⟩ := hw
  refine va_sld C.1 C.2.1 hX hbl hbA hS hi90 dL_law_480 ?_
  refine m_aldN C dL_law_481 rfl h0 ?_
  refine lv_iload C.1 C.2.1 dL_law_482 h4 ?_
  refine lv_iconst (v := 3) C.1 C.2.1 dL_law_484 (by decide) ?_
  refine lv_iadd C.1 C.2.1 dL_law_485 ?_
  obtain ⟨hi91, hw⟩ := hw
  refine va_sld C.1 C.2.1 hX hbl hbA hS hi91 dL_law_486 ?_
  refine m_aldN C dL_law_487 rfl h0 ?_
  refine lv_iload C.1 C.2.1 dL_law_488 h4 ?_
  refine lv_iconst (v := 4) C.1 C.2.1 dL_law_490 (by decide) ?_
  refine lv_iadd C.1 C.2.1 dL_law_491 ?_
  obtain ⟨hi92, hw⟩ := hw
  refine va_sld C.1 C.2.1 hX hbl hbA hS hi92 dL_law_492 ?_
  obtain ⟨hk93, hw⟩ := hw
  refine m_rI (m_runV (As := [.int (xs ((l4 + 1) : Int32).toNatClampNeg), .int (xs ((l4 + 2) : Int32).toNatClampNeg), .int (xs ((l4 + 3) : Int32).toNatClampNeg), .int (xs ((l4 + 4) : Int32).toNatClampNeg)]) (rest := []) C hW hS hL (c_X11_body hw) v_L_84 ⟨rfl, rfl⟩ ⟨Nat.le_of_ble_eq_true rfl, Nat.le_of_ble_eq_true rfl⟩ rfl hk93 rfl rfl (Nat.le_of_ble_eq_true rfl) dL_law_493 ⟨by show _ ≤ 601024; omega, by show _ ≤ 7293034; omega⟩) hS (fun r95 S94 H locs hw hW hS => ?_)
  refine m_aldN C dL_law_496 rfl h2 ?_
  refine m_aldN C dL_law_497 rfl h0 ?_
  refine lv_iload C.1 C.2.1 dL_law_498 h4 ?_
  refine lv_iconst (v := 1) C.1 C.2.1 dL_law_500 (by decide) ?_
  refine lv_iadd C.1 C.2.1 dL_law_501 ?_
  obtain ⟨hi96, hw⟩ := hw
  refine va_sld C.1 C.2.1 hX hbl hbA hS hi96 dL_law_502 ?_
  refine m_aldN C dL_law_503 rfl h0 ?_
  refine lv_iload C.1 C.2.1 dL_law_504 h4 ?_
  refine lv_iconst (v := 2) C.1 C.2.1 dL_law_506 (by decide) ?_
  refine lv_iadd C.1 C.2.1 dL_law_507 ?_
  obtain ⟨hi97, hw⟩ := hw
  refine va_sld C.1 C.2.1 hX hbl hbA hS hi97 dL_law_508 ?_
  refine m_aldN C dL_law_509 rfl h0 ?_
  refine lv_iload C.1 C.2.1 dL_law_510 h4 ?_
  refine lv_iconst (v := 3) C.1 C.2.1 dL_law_512 (by decide) ?_
  refine lv_iadd C.1 C.2.1 dL_law_513 ?_
  obtain ⟨hi98, hw⟩ := hw
  refine va_sld C.1 C.2.1 hX hbl hbA hS hi98 dL_law_514 ?_
  refine m_aldN C dL_law_515 rfl h0 ?_
  refine lv_iload C.1 C.2.1 dL_law_516 h4 ?_
  refine lv_iconst (v := 4) C.1 C.2.1 dL_law_518 (by decide) ?_
  refine lv_iadd C.1 C.2.1 dL_law_519 ?_
  obtain ⟨hi99, hw⟩ := hw
  refine va_sld C.1 C.2.1 hX hbl hbA hS hi99 dL_law_520 ?_
  obtain ⟨hk100, hw⟩ := hw
  refine m_rI (m_runV (As := [.int (xs ((l4 + 1) : Int32).toNatClampNeg), .int (xs ((l4 + 2) : Int32).toNatClampNeg), .int (xs ((l4 + 3) : Int32).toNatClampNeg), .int (xs ((l4 + 4) : Int32).toNatClampNeg)]) (rest := [.int r95]) C hW hS hL (c_X12_body hw) v_L_88 ⟨rfl, rfl⟩ ⟨Nat.le_of_ble_eq_true rfl, Nat.le_of_ble_eq_true rfl⟩ rfl hk100 rfl rfl (Nat.le_of_ble_eq_true rfl) dL_law_521 ⟨by show _ ≤ 601024; omega, by show _ ≤ 7293034; omega⟩) hS (fun r102 S101 H locs hw hW hS => ?_)
  refine lv_icmp_eq (tgt := 1416) C.1 C.2.1 dL_law_524 (by decide) (fun hc103 => ?_) (fun hc103 => ?_)
  · have hw := hw.1 hc103
    refine W.widen (k := cells + 40) (n := slots + 2000) (by omega) (by omega) ?_
    exact kk _ _ _ _ hW hS hL h0 h1 h2 h3 h4 hw
  · have hw := hw.2 hc103
    refine lv_iconst (v := 0) C.1 C.2.1 dL_law_527 (by decide) ?_
    exact False.elim hw
def wp_law_c9 (S : Hp) (x mm out : Nat) (xs : Nat → Int32) (L : Nat) (l4 : Int32) (K : Hp → Prop) : Prop := vp_in (l4 + 1) L ∧ vp_in (l4 + 2) L ∧ hK S x = 13 ∧ wp_X11_piece S x (xs ((l4 + 1) : Int32).toNatClampNeg) (xs ((l4 + 2) : Int32).toNatClampNeg) (fun r108 S107 => vp_in (l4 + 1) L ∧ vp_in (l4 + 2) L ∧ hK S107 mm = 14 ∧ wp_X12_piece S107 mm (xs ((l4 + 1) : Int32).toNatClampNeg) (xs ((l4 + 2) : Int32).toNatClampNeg) (fun r113 S112 => (r108 = r113 → K S112) ∧ (¬ (r108 = r113) → False)))
set_option maxRecDepth 100000 in
set_option maxHeartbeats 4000000 in
theorem w_law_c9 {p : Program} {l : Launch} (hl : l.stackTraces = false) {e : Env} {s : State} {m : MethodId} {args : Array Value} {below : List Frame} {meth : Method} {c : Code} {G : GX} {Qz : State → Prop} {b L : Nat} {xs : Nat → Int32} {x mm out : Nat} (C : Cx p s m args meth c cL_law 8 RL (some .boolean) "law" G) (hX : va_X b L xs s s.heap) (hbl : b < s.heap.size) (hbA : ¬ G.2.2.1 b) {cells slots : Nat} (hcc : cells + 40 ≤ 601024) (hss : slots + 2000 ≤ 7293034) {K : Hp → Prop} {l4 : Int32} (kk : ∀ (S : Hp) (H : Heap) (locs : List Loc) (ls : Array Slot), wd G S H → va_S G.2.2.1 s.heap H locs → LV ls 8 → ls[0]? = some (.val (va_rf (some b))) → ls[1]? = some (.val (va_rf (some x))) → ls[2]? = some (.val (va_rf (some mm))) → ls[3]? = some (.val (va_rf (some out))) → ls[4]? = some (.val (.int l4)) → K S → W p l e room_1 s m args below meth c H locs (cells + 40) (slots + 2000) Qz (F0 m 1416 ls []))
    {S : Hp} {H : Heap} {locs : List Loc} {ls : Array Slot} (hW : wd G S H) (hS : va_S G.2.2.1 s.heap H locs) (hL : LV ls 8) (h0 : ls[0]? = some (.val (va_rf (some b)))) (h1 : ls[1]? = some (.val (va_rf (some x)))) (h2 : ls[2]? = some (.val (va_rf (some mm)))) (h3 : ls[3]? = some (.val (va_rf (some out)))) (h4 : ls[4]? = some (.val (.int l4))) (hw : wp_law_c9 S x mm out xs L l4 K) : W p l e room_1 s m args below meth c H locs cells slots Qz (F0 m 529 ls []) := by
  unfold wp_law_c9 at hw
  refine m_aldN C dL_law_529 rfl h1 ?_
  refine m_aldN C dL_law_530 rfl h0 ?_
  refine lv_iload C.1 C.2.1 dL_law_531 h4 ?_
  refine lv_iconst (v := 1) C.1 C.2.1 dL_law_533 (by decide) ?_
  refine lv_iadd C.1 C.2.1 dL_law_534 ?_
  obtain ⟨hi104, hw⟩ := hw
  refine va_sld C.1 C.2.1 hX hbl hbA hS hi104 dL_law_535 ?_
  refine m_aldN C dL_law_536 rfl h0 ?_
  refine lv_iload C.1 C.2.1 dL_law_537 h4 ?_
  refine lv_iconst (v := 2) C.1 C.2.1 dL_law_539 (by decide) ?_
  refine lv_iadd C.1 C.2.1 dL_law_540 ?_
  obtain ⟨hi105, hw⟩ := hw
  refine va_sld C.1 C.2.1 hX hbl hbA hS hi105 dL_law_541 ?_
  obtain ⟨hk106, hw⟩ := hw
  refine m_rI (m_runV (As := [.int (xs ((l4 + 1) : Int32).toNatClampNeg), .int (xs ((l4 + 2) : Int32).toNatClampNeg)]) (rest := []) C hW hS hL (c_X11_piece hw) v_L_89 ⟨rfl, rfl⟩ ⟨Nat.le_of_ble_eq_true rfl, Nat.le_of_ble_eq_true rfl⟩ rfl hk106 rfl rfl (Nat.le_of_ble_eq_true rfl) dL_law_542 ⟨by show _ ≤ 601024; omega, by show _ ≤ 7293034; omega⟩) hS (fun r108 S107 H locs hw hW hS => ?_)
  refine m_aldN C dL_law_545 rfl h2 ?_
  refine m_aldN C dL_law_546 rfl h0 ?_
  refine lv_iload C.1 C.2.1 dL_law_547 h4 ?_
  refine lv_iconst (v := 1) C.1 C.2.1 dL_law_549 (by decide) ?_
  refine lv_iadd C.1 C.2.1 dL_law_550 ?_
  obtain ⟨hi109, hw⟩ := hw
  refine va_sld C.1 C.2.1 hX hbl hbA hS hi109 dL_law_551 ?_
  refine m_aldN C dL_law_552 rfl h0 ?_
  refine lv_iload C.1 C.2.1 dL_law_553 h4 ?_
  refine lv_iconst (v := 2) C.1 C.2.1 dL_law_555 (by decide) ?_
  refine lv_iadd C.1 C.2.1 dL_law_556 ?_
  obtain ⟨hi110, hw⟩ := hw
  refine va_sld C.1 C.2.1 hX hbl hbA hS hi110 dL_law_557 ?_
  obtain ⟨hk111, hw⟩ := hw
  refine m_rI (m_runV (As := [.int (xs ((l4 + 1) : Int32).toNatClampNeg), .int (xs ((l4 + 2) : Int32).toNatClampNeg)]) (rest := [.int r108]) C hW hS hL (c_X12_piece hw) v_L_92 ⟨rfl, rfl⟩ ⟨Nat.le_of_ble_eq_true rfl, Nat.le_of_ble_eq_true rfl⟩ rfl hk111 rfl rfl (Nat.le_of_ble_eq_true rfl) dL_law_558 ⟨by show _ ≤ 601024; omega, by show _ ≤ 7293034; omega⟩) hS (fun r113 S112 H locs hw hW hS => ?_)
  refine lv_icmp_eq (tgt := 1416) C.1 C.2.1 dL_law_561 (by decide) (fun hc114 => ?_) (fun hc114 => ?_)
  · have hw := hw.1 hc114
    refine W.widen (k := cells + 40) (n := slots + 2000) (by omega) (by omega) ?_
    exact kk _ _ _ _ hW hS hL h0 h1 h2 h3 h4 hw
  · have hw := hw.2 hc114
    refine lv_iconst (v := 0) C.1 C.2.1 dL_law_564 (by decide) ?_
    exact False.elim hw
def wp_law_c10 (S : Hp) (x mm out : Nat) (xs : Nat → Int32) (L : Nat) (l4 : Int32) (K : Hp → Prop) : Prop := vp_in (l4 + 1) L ∧ hK S x = 13 ∧ wp_X11_strip S x (xs ((l4 + 1) : Int32).toNatClampNeg) (fun r118 S117 => vp_in (l4 + 1) L ∧ hK S117 mm = 14 ∧ wp_X12_strip S117 mm (xs ((l4 + 1) : Int32).toNatClampNeg) (fun r122 S121 => (r118 = r122 → K S121) ∧ (¬ (r118 = r122) → False)))
set_option maxRecDepth 100000 in
set_option maxHeartbeats 4000000 in
theorem w_law_c10 {p : Program} {l : Launch} (hl : l.stackTraces = false) {e : Env} {s : State} {m : MethodId} {args : Array Value} {below : List Frame} {meth : Method} {c : Code} {G : GX} {Qz : State → Prop} {b L : Nat} {xs : Nat → Int32} {x mm out : Nat} (C : Cx p s m args meth c cL_law 8 RL (some .boolean) "law" G) (hX : va_X b L xs s s.heap) (hbl : b < s.heap.size) (hbA : ¬ G.2.2.1 b) {cells slots : Nat} (hcc : cells + 40 ≤ 601024) (hss : slots + 2000 ≤ 7293034) {K : Hp → Prop} {l4 : Int32} (kk : ∀ (S : Hp) (H : Heap) (locs : List Loc) (ls : Array Slot), wd G S H → va_S G.2.2.1 s.heap H locs → LV ls 8 → ls[0]? = some (.val (va_rf (some b))) → ls[1]? = some (.val (va_rf (some x))) → ls[2]? = some (.val (va_rf (some mm))) → ls[3]? = some (.val (va_rf (some out))) → ls[4]? = some (.val (.int l4)) → K S → W p l e room_1 s m args below meth c H locs (cells + 40) (slots + 2000) Qz (F0 m 1416 ls []))
    {S : Hp} {H : Heap} {locs : List Loc} {ls : Array Slot} (hW : wd G S H) (hS : va_S G.2.2.1 s.heap H locs) (hL : LV ls 8) (h0 : ls[0]? = some (.val (va_rf (some b)))) (h1 : ls[1]? = some (.val (va_rf (some x)))) (h2 : ls[2]? = some (.val (va_rf (some mm)))) (h3 : ls[3]? = some (.val (va_rf (some out)))) (h4 : ls[4]? = some (.val (.int l4))) (hw : wp_law_c10 S x mm out xs L l4 K) : W p l e room_1 s m args below meth c H locs cells slots Qz (F0 m 566 ls []) := by
  unfold wp_law_c10 at hw
  refine m_aldN C dL_law_566 rfl h1 ?_
  refine m_aldN C dL_law_567 rfl h0 ?_
  refine lv_iload C.1 C.2.1 dL_law_568 h4 ?_
  refine lv_iconst (v := 1) C.1 C.2.1 dL_law_570 (by decide) ?_
  refine lv_iadd C.1 C.2.1 dL_law_571 ?_
  obtain ⟨hi115, hw⟩ := hw
  refine va_sld C.1 C.2.1 hX hbl hbA hS hi115 dL_law_572 ?_
  obtain ⟨hk116, hw⟩ := hw
  refine m_rI (m_runV (As := [.int (xs ((l4 + 1) : Int32).toNatClampNeg)]) (rest := []) C hW hS hL (c_X11_strip hw) v_L_93 ⟨rfl, rfl⟩ ⟨Nat.le_of_ble_eq_true rfl, Nat.le_of_ble_eq_true rfl⟩ rfl hk116 rfl rfl (Nat.le_of_ble_eq_true rfl) dL_law_573 ⟨by show _ ≤ 601024; omega, by show _ ≤ 7293034; omega⟩) hS (fun r118 S117 H locs hw hW hS => ?_)
  refine m_aldN C dL_law_576 rfl h2 ?_
  refine m_aldN C dL_law_577 rfl h0 ?_
  refine lv_iload C.1 C.2.1 dL_law_578 h4 ?_
  refine lv_iconst (v := 1) C.1 C.2.1 dL_law_580 (by decide) ?_
  refine lv_iadd C.1 C.2.1 dL_law_581 ?_
  obtain ⟨hi119, hw⟩ := hw
  refine va_sld C.1 C.2.1 hX hbl hbA hS hi119 dL_law_582 ?_
  obtain ⟨hk120, hw⟩ := hw
  refine m_rI (m_runV (As := [.int (xs ((l4 + 1) : Int32).toNatClampNeg)]) (rest := [.int r118]) C hW hS hL (c_X12_strip hw) v_L_96 ⟨rfl, rfl⟩ ⟨Nat.le_of_ble_eq_true rfl, Nat.le_of_ble_eq_true rfl⟩ rfl hk120 rfl rfl (Nat.le_of_ble_eq_true rfl) dL_law_583 ⟨by show _ ≤ 601024; omega, by show _ ≤ 7293034; omega⟩) hS (fun r122 S121 H locs hw hW hS => ?_)
  refine lv_icmp_eq (tgt := 1416) C.1 C.2.1 dL_law_586 (by decide) (fun hc123 => ?_) (fun hc123 => ?_)
  · have hw := hw.1 hc123
    refine W.widen (k := cells + 40) (n := slots + 2000) (by omega) (by omega) ?_
    exact kk _ _ _ _ hW hS hL h0 h1 h2 h3 h4 hw
  · have hw := hw.2 hc123
    refine lv_iconst (v := 0) C.1 C.2.1 dL_law_589 (by decide) ?_
    exact False.elim hw
def wp_law_c11 (S : Hp) (x mm out : Nat) (xs : Nat → Int32) (L : Nat) (l4 : Int32) (K : Hp → Prop) : Prop := vp_in (l4 + 1) L ∧ vp_in (l4 + 2) L ∧ vp_in (l4 + 3) L ∧ hK S x = 13 ∧ wp_X11_plan S x (xs ((l4 + 1) : Int32).toNatClampNeg) (xs ((l4 + 2) : Int32).toNatClampNeg) (xs ((l4 + 3) : Int32).toNatClampNeg) (fun r129 S128 => vp_in (l4 + 1) L ∧ vp_in (l4 + 2) L ∧ vp_in (l4 + 3) L ∧ hK S128 mm = 14 ∧ wp_X12_plan S128 mm (xs ((l4 + 1) : Int32).toNatClampNeg) (xs ((l4 + 2) : Int32).toNatClampNeg) (xs ((l4 + 3) : Int32).toNatClampNeg) (fun r135 S134 => (r129 = r135 → K S134) ∧ (¬ (r129 = r135) → False)))
set_option maxRecDepth 100000 in
set_option maxHeartbeats 4000000 in
theorem w_law_c11 {p : Program} {l : Launch} (hl : l.stackTraces = false) {e : Env} {s : State} {m : MethodId} {args : Array Value} {below : List Frame} {meth : Method} {c : Code} {G : GX} {Qz : State → Prop} {b L : Nat} {xs : Nat → Int32} {x mm out : Nat} (C : Cx p s m args meth c cL_law 8 RL (some .boolean) "law" G) (hX : va_X b L xs s s.heap) (hbl : b < s.heap.size) (hbA : ¬ G.2.2.1 b) {cells slots : Nat} (hcc : cells + 40 ≤ 601024) (hss : slots + 2000 ≤ 7293034) {K : Hp → Prop} {l4 : Int32} (kk : ∀ (S : Hp) (H : Heap) (locs : List Loc) (ls : Array Slot), wd G S H → va_S G.2.2.1 s.heap H locs → LV ls 8 → ls[0]? = some (.val (va_rf (some b))) → ls[1]? = some (.val (va_rf (some x))) → ls[2]? = some (.val (va_rf (some mm))) → ls[3]? = some (.val (va_rf (some out))) → ls[4]? = some (.val (.int l4)) → K S → W p l e room_1 s m args below meth c H locs (cells + 40) (slots + 2000) Qz (F0 m 1416 ls []))
    {S : Hp} {H : Heap} {locs : List Loc} {ls : Array Slot} (hW : wd G S H) (hS : va_S G.2.2.1 s.heap H locs) (hL : LV ls 8) (h0 : ls[0]? = some (.val (va_rf (some b)))) (h1 : ls[1]? = some (.val (va_rf (some x)))) (h2 : ls[2]? = some (.val (va_rf (some mm)))) (h3 : ls[3]? = some (.val (va_rf (some out)))) (h4 : ls[4]? = some (.val (.int l4))) (hw : wp_law_c11 S x mm out xs L l4 K) : W p l e room_1 s m args below meth c H locs cells slots Qz (F0 m 591 ls []) := by
  unfold wp_law_c11 at hw
  refine m_aldN C dL_law_591 rfl h1 ?_
  refine m_aldN C dL_law_592 rfl h0 ?_
  refine lv_iload C.1 C.2.1 dL_law_593 h4 ?_
  refine lv_iconst (v := 1) C.1 C.2.1 dL_law_595 (by decide) ?_
  refine lv_iadd C.1 C.2.1 dL_law_596 ?_
  obtain ⟨hi124, hw⟩ := hw
  refine va_sld C.1 C.2.1 hX hbl hbA hS hi124 dL_law_597 ?_
  refine m_aldN C dL_law_598 rfl h0 ?_
  refine lv_iload C.1 C.2.1 dL_law_599 h4 ?_
  refine lv_iconst (v := 2) C.1 C.2.1 dL_law_601 (by decide) ?_
  refine lv_iadd C.1 C.2.1 dL_law_602 ?_
  obtain ⟨hi125, hw⟩ := hw
  refine va_sld C.1 C.2.1 hX hbl hbA hS hi125 dL_law_603 ?_
  refine m_aldN C dL_law_604 rfl h0 ?_
  refine lv_iload C.1 C.2.1 dL_law_605 h4 ?_
  refine lv_iconst (v := 3) C.1 C.2.1 dL_law_607 (by decide) ?_
  refine lv_iadd C.1 C.2.1 dL_law_608 ?_
  obtain ⟨hi126, hw⟩ := hw
  refine va_sld C.1 C.2.1 hX hbl hbA hS hi126 dL_law_609 ?_
  obtain ⟨hk127, hw⟩ := hw
  refine m_rI (m_runV (As := [.int (xs ((l4 + 1) : Int32).toNatClampNeg), .int (xs ((l4 + 2) : Int32).toNatClampNeg), .int (xs ((l4 + 3) : Int32).toNatClampNeg)]) (rest := []) C hW hS hL (c_X11_plan hw) v_L_97 ⟨rfl, rfl⟩ ⟨Nat.le_of_ble_eq_true rfl, Nat.le_of_ble_eq_true rfl⟩ rfl hk127 rfl rfl (Nat.le_of_ble_eq_true rfl) dL_law_610 ⟨by show _ ≤ 601024; omega, by show _ ≤ 7293034; omega⟩) hS (fun r129 S128 H locs hw hW hS => ?_)
  refine m_aldN C dL_law_613 rfl h2 ?_
  refine m_aldN C dL_law_614 rfl h0 ?_
  refine lv_iload C.1 C.2.1 dL_law_615 h4 ?_
  refine lv_iconst (v := 1) C.1 C.2.1 dL_law_617 (by decide) ?_
  refine lv_iadd C.1 C.2.1 dL_law_618 ?_
  obtain ⟨hi130, hw⟩ := hw
  refine va_sld C.1 C.2.1 hX hbl hbA hS hi130 dL_law_619 ?_
  refine m_aldN C dL_law_620 rfl h0 ?_
  refine lv_iload C.1 C.2.1 dL_law_621 h4 ?_
  refine lv_iconst (v := 2) C.1 C.2.1 dL_law_623 (by decide) ?_
  refine lv_iadd C.1 C.2.1 dL_law_624 ?_
  obtain ⟨hi131, hw⟩ := hw
  refine va_sld C.1 C.2.1 hX hbl hbA hS hi131 dL_law_625 ?_
  refine m_aldN C dL_law_626 rfl h0 ?_
  refine lv_iload C.1 C.2.1 dL_law_627 h4 ?_
  refine lv_iconst (v := 3) C.1 C.2.1 dL_law_629 (by decide) ?_
  refine lv_iadd C.1 C.2.1 dL_law_630 ?_
  obtain ⟨hi132, hw⟩ := hw
  refine va_sld C.1 C.2.1 hX hbl hbA hS hi132 dL_law_631 ?_
  obtain ⟨hk133, hw⟩ := hw
  refine m_rI (m_runV (As := [.int (xs ((l4 + 1) : Int32).toNatClampNeg), .int (xs ((l4 + 2) : Int32).toNatClampNeg), .int (xs ((l4 + 3) : Int32).toNatClampNeg)]) (rest := [.int r129]) C hW hS hL (c_X12_plan hw) v_L_100 ⟨rfl, rfl⟩ ⟨Nat.le_of_ble_eq_true rfl, Nat.le_of_ble_eq_true rfl⟩ rfl hk133 rfl rfl (Nat.le_of_ble_eq_true rfl) dL_law_632 ⟨by show _ ≤ 601024; omega, by show _ ≤ 7293034; omega⟩) hS (fun r135 S134 H locs hw hW hS => ?_)
  refine lv_icmp_eq (tgt := 1416) C.1 C.2.1 dL_law_635 (by decide) (fun hc136 => ?_) (fun hc136 => ?_)
  · have hw := hw.1 hc136
    refine W.widen (k := cells + 40) (n := slots + 2000) (by omega) (by omega) ?_
    exact kk _ _ _ _ hW hS hL h0 h1 h2 h3 h4 hw
  · have hw := hw.2 hc136
    refine lv_iconst (v := 0) C.1 C.2.1 dL_law_638 (by decide) ?_
    exact False.elim hw
def wp_law_c12 (S : Hp) (x mm out : Nat) (xs : Nat → Int32) (L : Nat) (l4 : Int32) (K : Hp → Prop) : Prop := hK S x = 13 ∧ wp_X11_clearPlan S x (fun r139 S138 => hK S138 mm = 14 ∧ wp_X12_clearPlan S138 mm (fun r142 S141 => (r139 = r142 → K S141) ∧ (¬ (r139 = r142) → False)))
set_option maxRecDepth 100000 in
set_option maxHeartbeats 4000000 in
theorem w_law_c12 {p : Program} {l : Launch} (hl : l.stackTraces = false) {e : Env} {s : State} {m : MethodId} {args : Array Value} {below : List Frame} {meth : Method} {c : Code} {G : GX} {Qz : State → Prop} {b L : Nat} {xs : Nat → Int32} {x mm out : Nat} (C : Cx p s m args meth c cL_law 8 RL (some .boolean) "law" G) (hX : va_X b L xs s s.heap) (hbl : b < s.heap.size) (hbA : ¬ G.2.2.1 b) {cells slots : Nat} (hcc : cells + 40 ≤ 601024) (hss : slots + 2000 ≤ 7293034) {K : Hp → Prop} {l4 : Int32} (kk : ∀ (S : Hp) (H : Heap) (locs : List Loc) (ls : Array Slot), wd G S H → va_S G.2.2.1 s.heap H locs → LV ls 8 → ls[0]? = some (.val (va_rf (some b))) → ls[1]? = some (.val (va_rf (some x))) → ls[2]? = some (.val (va_rf (some mm))) → ls[3]? = some (.val (va_rf (some out))) → ls[4]? = some (.val (.int l4)) → K S → W p l e room_1 s m args below meth c H locs (cells + 40) (slots + 2000) Qz (F0 m 1416 ls []))
    {S : Hp} {H : Heap} {locs : List Loc} {ls : Array Slot} (hW : wd G S H) (hS : va_S G.2.2.1 s.heap H locs) (hL : LV ls 8) (h0 : ls[0]? = some (.val (va_rf (some b)))) (h1 : ls[1]? = some (.val (va_rf (some x)))) (h2 : ls[2]? = some (.val (va_rf (some mm)))) (h3 : ls[3]? = some (.val (va_rf (some out)))) (h4 : ls[4]? = some (.val (.int l4))) (hw : wp_law_c12 S x mm out xs L l4 K) : W p l e room_1 s m args below meth c H locs cells slots Qz (F0 m 640 ls []) := by
  unfold wp_law_c12 at hw
  refine m_aldN C dL_law_640 rfl h1 ?_
  obtain ⟨hk137, hw⟩ := hw
  refine m_rI (m_runV (As := []) (rest := []) C hW hS hL (c_X11_clearPlan hw) v_L_101 ⟨rfl, rfl⟩ ⟨Nat.le_of_ble_eq_true rfl, Nat.le_of_ble_eq_true rfl⟩ rfl hk137 rfl rfl (Nat.le_of_ble_eq_true rfl) dL_law_641 ⟨by show _ ≤ 601024; omega, by show _ ≤ 7293034; omega⟩) hS (fun r139 S138 H locs hw hW hS => ?_)
  refine m_aldN C dL_law_644 rfl h2 ?_
  obtain ⟨hk140, hw⟩ := hw
  refine m_rI (m_runV (As := []) (rest := [.int r139]) C hW hS hL (c_X12_clearPlan hw) v_L_104 ⟨rfl, rfl⟩ ⟨Nat.le_of_ble_eq_true rfl, Nat.le_of_ble_eq_true rfl⟩ rfl hk140 rfl rfl (Nat.le_of_ble_eq_true rfl) dL_law_645 ⟨by show _ ≤ 601024; omega, by show _ ≤ 7293034; omega⟩) hS (fun r142 S141 H locs hw hW hS => ?_)
  refine lv_icmp_eq (tgt := 1416) C.1 C.2.1 dL_law_648 (by decide) (fun hc143 => ?_) (fun hc143 => ?_)
  · have hw := hw.1 hc143
    refine W.widen (k := cells + 40) (n := slots + 2000) (by omega) (by omega) ?_
    exact kk _ _ _ _ hW hS hL h0 h1 h2 h3 h4 hw
  · have hw := hw.2 hc143
    refine lv_iconst (v := 0) C.1 C.2.1 dL_law_651 (by decide) ?_
    exact False.elim hw
def wp_law_c13 (S : Hp) (x mm out : Nat) (xs : Nat → Int32) (L : Nat) (l4 : Int32) (K : Hp → Prop) : Prop := vp_in (l4 + 1) L ∧ hK S x = 13 ∧ wp_X11_run S x (xs ((l4 + 1) : Int32).toNatClampNeg) (fun r147 S146 => vp_in (l4 + 1) L ∧ hK S146 mm = 14 ∧ wp_X12_run S146 mm (xs ((l4 + 1) : Int32).toNatClampNeg) (fun r151 S150 => (r147 = r151 → K S150) ∧ (¬ (r147 = r151) → False)))
set_option maxRecDepth 100000 in
set_option maxHeartbeats 4000000 in
theorem w_law_c13 {p : Program} {l : Launch} (hl : l.stackTraces = false) {e : Env} {s : State} {m : MethodId} {args : Array Value} {below : List Frame} {meth : Method} {c : Code} {G : GX} {Qz : State → Prop} {b L : Nat} {xs : Nat → Int32} {x mm out : Nat} (C : Cx p s m args meth c cL_law 8 RL (some .boolean) "law" G) (hX : va_X b L xs s s.heap) (hbl : b < s.heap.size) (hbA : ¬ G.2.2.1 b) {cells slots : Nat} (hcc : cells + 40 ≤ 601024) (hss : slots + 2000 ≤ 7293034) {K : Hp → Prop} {l4 : Int32} (kk : ∀ (S : Hp) (H : Heap) (locs : List Loc) (ls : Array Slot), wd G S H → va_S G.2.2.1 s.heap H locs → LV ls 8 → ls[0]? = some (.val (va_rf (some b))) → ls[1]? = some (.val (va_rf (some x))) → ls[2]? = some (.val (va_rf (some mm))) → ls[3]? = some (.val (va_rf (some out))) → ls[4]? = some (.val (.int l4)) → K S → W p l e room_1 s m args below meth c H locs (cells + 40) (slots + 2000) Qz (F0 m 1416 ls []))
    {S : Hp} {H : Heap} {locs : List Loc} {ls : Array Slot} (hW : wd G S H) (hS : va_S G.2.2.1 s.heap H locs) (hL : LV ls 8) (h0 : ls[0]? = some (.val (va_rf (some b)))) (h1 : ls[1]? = some (.val (va_rf (some x)))) (h2 : ls[2]? = some (.val (va_rf (some mm)))) (h3 : ls[3]? = some (.val (va_rf (some out)))) (h4 : ls[4]? = some (.val (.int l4))) (hw : wp_law_c13 S x mm out xs L l4 K) : W p l e room_1 s m args below meth c H locs cells slots Qz (F0 m 653 ls []) := by
  unfold wp_law_c13 at hw
  refine m_aldN C dL_law_653 rfl h1 ?_
  refine m_aldN C dL_law_654 rfl h0 ?_
  refine lv_iload C.1 C.2.1 dL_law_655 h4 ?_
  refine lv_iconst (v := 1) C.1 C.2.1 dL_law_657 (by decide) ?_
  refine lv_iadd C.1 C.2.1 dL_law_658 ?_
  obtain ⟨hi144, hw⟩ := hw
  refine va_sld C.1 C.2.1 hX hbl hbA hS hi144 dL_law_659 ?_
  obtain ⟨hk145, hw⟩ := hw
  refine m_rI (m_runV (As := [.int (xs ((l4 + 1) : Int32).toNatClampNeg)]) (rest := []) C hW hS hL (c_X11_run hw) v_L_105 ⟨rfl, rfl⟩ ⟨Nat.le_of_ble_eq_true rfl, Nat.le_of_ble_eq_true rfl⟩ rfl hk145 rfl rfl (Nat.le_of_ble_eq_true rfl) dL_law_660 ⟨by show _ ≤ 601024; omega, by show _ ≤ 7293034; omega⟩) hS (fun r147 S146 H locs hw hW hS => ?_)
  refine m_aldN C dL_law_663 rfl h2 ?_
  refine m_aldN C dL_law_664 rfl h0 ?_
  refine lv_iload C.1 C.2.1 dL_law_665 h4 ?_
  refine lv_iconst (v := 1) C.1 C.2.1 dL_law_667 (by decide) ?_
  refine lv_iadd C.1 C.2.1 dL_law_668 ?_
  obtain ⟨hi148, hw⟩ := hw
  refine va_sld C.1 C.2.1 hX hbl hbA hS hi148 dL_law_669 ?_
  obtain ⟨hk149, hw⟩ := hw
  refine m_rI (m_runV (As := [.int (xs ((l4 + 1) : Int32).toNatClampNeg)]) (rest := [.int r147]) C hW hS hL (c_X12_run hw) v_L_108 ⟨rfl, rfl⟩ ⟨Nat.le_of_ble_eq_true rfl, Nat.le_of_ble_eq_true rfl⟩ rfl hk149 rfl rfl (Nat.le_of_ble_eq_true rfl) dL_law_670 ⟨by show _ ≤ 601024; omega, by show _ ≤ 7293034; omega⟩) hS (fun r151 S150 H locs hw hW hS => ?_)
  refine lv_icmp_eq (tgt := 1416) C.1 C.2.1 dL_law_673 (by decide) (fun hc152 => ?_) (fun hc152 => ?_)
  · have hw := hw.1 hc152
    refine W.widen (k := cells + 40) (n := slots + 2000) (by omega) (by omega) ?_
    exact kk _ _ _ _ hW hS hL h0 h1 h2 h3 h4 hw
  · have hw := hw.2 hc152
    refine lv_iconst (v := 0) C.1 C.2.1 dL_law_676 (by decide) ?_
    exact False.elim hw
def wp_law_c14 (S : Hp) (x mm out : Nat) (xs : Nat → Int32) (L : Nat) (l4 : Int32) (K : Hp → Prop) : Prop := hK S x = 13 ∧ wp_X11_again S x (fun r155 S154 => hK S154 mm = 14 ∧ wp_X12_again S154 mm (fun r158 S157 => (r155 = r158 → K S157) ∧ (¬ (r155 = r158) → False)))
set_option maxRecDepth 100000 in
set_option maxHeartbeats 4000000 in
theorem w_law_c14 {p : Program} {l : Launch} (hl : l.stackTraces = false) {e : Env} {s : State} {m : MethodId} {args : Array Value} {below : List Frame} {meth : Method} {c : Code} {G : GX} {Qz : State → Prop} {b L : Nat} {xs : Nat → Int32} {x mm out : Nat} (C : Cx p s m args meth c cL_law 8 RL (some .boolean) "law" G) (hX : va_X b L xs s s.heap) (hbl : b < s.heap.size) (hbA : ¬ G.2.2.1 b) {cells slots : Nat} (hcc : cells + 40 ≤ 601024) (hss : slots + 2000 ≤ 7293034) {K : Hp → Prop} {l4 : Int32} (kk : ∀ (S : Hp) (H : Heap) (locs : List Loc) (ls : Array Slot), wd G S H → va_S G.2.2.1 s.heap H locs → LV ls 8 → ls[0]? = some (.val (va_rf (some b))) → ls[1]? = some (.val (va_rf (some x))) → ls[2]? = some (.val (va_rf (some mm))) → ls[3]? = some (.val (va_rf (some out))) → ls[4]? = some (.val (.int l4)) → K S → W p l e room_1 s m args below meth c H locs (cells + 40) (slots + 2000) Qz (F0 m 1416 ls []))
    {S : Hp} {H : Heap} {locs : List Loc} {ls : Array Slot} (hW : wd G S H) (hS : va_S G.2.2.1 s.heap H locs) (hL : LV ls 8) (h0 : ls[0]? = some (.val (va_rf (some b)))) (h1 : ls[1]? = some (.val (va_rf (some x)))) (h2 : ls[2]? = some (.val (va_rf (some mm)))) (h3 : ls[3]? = some (.val (va_rf (some out)))) (h4 : ls[4]? = some (.val (.int l4))) (hw : wp_law_c14 S x mm out xs L l4 K) : W p l e room_1 s m args below meth c H locs cells slots Qz (F0 m 678 ls []) := by
  unfold wp_law_c14 at hw
  refine m_aldN C dL_law_678 rfl h1 ?_
  obtain ⟨hk153, hw⟩ := hw
  refine m_rI (m_runV (As := []) (rest := []) C hW hS hL (c_X11_again hw) v_L_109 ⟨rfl, rfl⟩ ⟨Nat.le_of_ble_eq_true rfl, Nat.le_of_ble_eq_true rfl⟩ rfl hk153 rfl rfl (Nat.le_of_ble_eq_true rfl) dL_law_679 ⟨by show _ ≤ 601024; omega, by show _ ≤ 7293034; omega⟩) hS (fun r155 S154 H locs hw hW hS => ?_)
  refine m_aldN C dL_law_682 rfl h2 ?_
  obtain ⟨hk156, hw⟩ := hw
  refine m_rI (m_runV (As := []) (rest := [.int r155]) C hW hS hL (c_X12_again hw) v_L_113 ⟨rfl, rfl⟩ ⟨Nat.le_of_ble_eq_true rfl, Nat.le_of_ble_eq_true rfl⟩ rfl hk156 rfl rfl (Nat.le_of_ble_eq_true rfl) dL_law_683 ⟨by show _ ≤ 601024; omega, by show _ ≤ 7293034; omega⟩) hS (fun r158 S157 H locs hw hW hS => ?_)
  refine lv_icmp_eq (tgt := 1416) C.1 C.2.1 dL_law_686 (by decide) (fun hc159 => ?_) (fun hc159 => ?_)
  · have hw := hw.1 hc159
    refine W.widen (k := cells + 40) (n := slots + 2000) (by omega) (by omega) ?_
    exact kk _ _ _ _ hW hS hL h0 h1 h2 h3 h4 hw
  · have hw := hw.2 hc159
    refine lv_iconst (v := 0) C.1 C.2.1 dL_law_689 (by decide) ?_
    exact False.elim hw
def wp_law_c15 (S : Hp) (x mm out : Nat) (xs : Nat → Int32) (L : Nat) (l4 : Int32) (K : Hp → Prop) : Prop := vp_in (l4 + 1) L ∧ vp_in (l4 + 2) L ∧ wp_L_state S (some x) (xs ((l4 + 1) : Int32).toNatClampNeg) (xs ((l4 + 2) : Int32).toNatClampNeg) (some out) (fun r163 S162 => vp_in (l4 + 1) L ∧ vp_in (l4 + 2) L ∧ hK S162 mm = 14 ∧ wp_X12_state S162 mm (xs ((l4 + 1) : Int32).toNatClampNeg) (xs ((l4 + 2) : Int32).toNatClampNeg) (fun r168 S167 => hK S167 mm = 14 ∧ wp_X12_thrown S167 mm (fun r171 S170 => (r171 = r163 → (r163 = 0 → hK S170 out = 16 ∧ vp_in 0 (hN S170 out) ∧ ((hJ S170 out (0 : Int32).toNatClampNeg) = ((r168 : Int32).toInt64) → K S170) ∧ (¬ ((hJ S170 out (0 : Int32).toNatClampNeg) = ((r168 : Int32).toInt64)) → False)) ∧ (¬ (r163 = 0) → K S170)) ∧ (¬ (r171 = r163) → False))))
set_option maxRecDepth 100000 in
set_option maxHeartbeats 4000000 in
theorem w_law_c15 {p : Program} {l : Launch} (hl : l.stackTraces = false) {e : Env} {s : State} {m : MethodId} {args : Array Value} {below : List Frame} {meth : Method} {c : Code} {G : GX} {Qz : State → Prop} {b L : Nat} {xs : Nat → Int32} {x mm out : Nat} (C : Cx p s m args meth c cL_law 8 RL (some .boolean) "law" G) (hX : va_X b L xs s s.heap) (hbl : b < s.heap.size) (hbA : ¬ G.2.2.1 b) {cells slots : Nat} (hcc : cells + 40 ≤ 601024) (hss : slots + 2000 ≤ 7293034) {K : Hp → Prop} {l4 : Int32} (kk : ∀ (S : Hp) (H : Heap) (locs : List Loc) (ls : Array Slot), wd G S H → va_S G.2.2.1 s.heap H locs → LV ls 8 → ls[0]? = some (.val (va_rf (some b))) → ls[1]? = some (.val (va_rf (some x))) → ls[2]? = some (.val (va_rf (some mm))) → ls[3]? = some (.val (va_rf (some out))) → ls[4]? = some (.val (.int l4)) → K S → W p l e room_1 s m args below meth c H locs (cells + 40) (slots + 2000) Qz (F0 m 1416 ls []))
    {S : Hp} {H : Heap} {locs : List Loc} {ls : Array Slot} (hW : wd G S H) (hS : va_S G.2.2.1 s.heap H locs) (hL : LV ls 8) (h0 : ls[0]? = some (.val (va_rf (some b)))) (h1 : ls[1]? = some (.val (va_rf (some x)))) (h2 : ls[2]? = some (.val (va_rf (some mm)))) (h3 : ls[3]? = some (.val (va_rf (some out)))) (h4 : ls[4]? = some (.val (.int l4))) (hw : wp_law_c15 S x mm out xs L l4 K) : W p l e room_1 s m args below meth c H locs cells slots Qz (F0 m 691 ls []) := by
  unfold wp_law_c15 at hw
  refine m_aldN C dL_law_691 rfl h1 ?_
  refine m_aldN C dL_law_692 rfl h0 ?_
  refine lv_iload C.1 C.2.1 dL_law_693 h4 ?_
  refine lv_iconst (v := 1) C.1 C.2.1 dL_law_695 (by decide) ?_
  refine lv_iadd C.1 C.2.1 dL_law_696 ?_
  obtain ⟨hi160, hw⟩ := hw
  refine va_sld C.1 C.2.1 hX hbl hbA hS hi160 dL_law_697 ?_
  refine m_aldN C dL_law_698 rfl h0 ?_
  refine lv_iload C.1 C.2.1 dL_law_699 h4 ?_
  refine lv_iconst (v := 2) C.1 C.2.1 dL_law_701 (by decide) ?_
  refine lv_iadd C.1 C.2.1 dL_law_702 ?_
  obtain ⟨hi161, hw⟩ := hw
  refine va_sld C.1 C.2.1 hX hbl hbA hS hi161 dL_law_703 ?_
  refine m_aldN C dL_law_704 rfl h3 ?_
  refine m_rH (m_runH (As := [va_rf (some x), .int (xs ((l4 + 1) : Int32).toNatClampNeg), .int (xs ((l4 + 2) : Int32).toNatClampNeg), va_rf (some out)]) (rest := []) C hW hS hL (c_L_state hl hw) s_L_114 ⟨rfl, rfl⟩ ⟨Nat.le_of_ble_eq_true rfl, Nat.le_of_ble_eq_true rfl⟩ rfl rfl (Nat.le_of_ble_eq_true rfl) dL_law_705 ⟨by show _ ≤ 601024; omega, by show _ ≤ 7293034; omega⟩) hS (fun r163 S162 H locs hw hW hS => ?_)
  refine m_ist C hL dL_law_708 (by decide) (fun ls hL hn9 hk9 => ?_)
  have h0 := hk9 0 _ h0 (by decide) (Or.inl (by decide))
  have h1 := hk9 1 _ h1 (by decide) (Or.inl (by decide))
  have h2 := hk9 2 _ h2 (by decide) (Or.inl (by decide))
  have h3 := hk9 3 _ h3 (by decide) (Or.inl (by decide))
  have h4 := hk9 4 _ h4 (by decide) (Or.inr (rfl))
  have h5 := hn9
  refine m_aldN C dL_law_710 rfl h2 ?_
  refine m_aldN C dL_law_711 rfl h0 ?_
  refine lv_iload C.1 C.2.1 dL_law_712 h4 ?_
  refine lv_iconst (v := 1) C.1 C.2.1 dL_law_714 (by decide) ?_
  refine lv_iadd C.1 C.2.1 dL_law_715 ?_
  obtain ⟨hi164, hw⟩ := hw
  refine va_sld C.1 C.2.1 hX hbl hbA hS hi164 dL_law_716 ?_
  refine m_aldN C dL_law_717 rfl h0 ?_
  refine lv_iload C.1 C.2.1 dL_law_718 h4 ?_
  refine lv_iconst (v := 2) C.1 C.2.1 dL_law_720 (by decide) ?_
  refine lv_iadd C.1 C.2.1 dL_law_721 ?_
  obtain ⟨hi165, hw⟩ := hw
  refine va_sld C.1 C.2.1 hX hbl hbA hS hi165 dL_law_722 ?_
  obtain ⟨hk166, hw⟩ := hw
  refine m_rI (m_runV (As := [.int (xs ((l4 + 1) : Int32).toNatClampNeg), .int (xs ((l4 + 2) : Int32).toNatClampNeg)]) (rest := []) C hW hS hL (c_X12_state hw) v_L_119 ⟨rfl, rfl⟩ ⟨Nat.le_of_ble_eq_true rfl, Nat.le_of_ble_eq_true rfl⟩ rfl hk166 rfl rfl (Nat.le_of_ble_eq_true rfl) dL_law_723 ⟨by show _ ≤ 601024; omega, by show _ ≤ 7293034; omega⟩) hS (fun r168 S167 H locs hw hW hS => ?_)
  refine m_ist C hL dL_law_726 (by decide) (fun ls hL hn9 hk9 => ?_)
  have h0 := hk9 0 _ h0 (by decide) (Or.inl (by decide))
  have h1 := hk9 1 _ h1 (by decide) (Or.inl (by decide))
  have h2 := hk9 2 _ h2 (by decide) (Or.inl (by decide))
  have h3 := hk9 3 _ h3 (by decide) (Or.inl (by decide))
  have h4 := hk9 4 _ h4 (by decide) (Or.inl (by decide))
  have h5 := hk9 5 _ h5 (by decide) (Or.inr (rfl))
  have h6 := hn9
  refine m_aldN C dL_law_728 rfl h2 ?_
  obtain ⟨hk169, hw⟩ := hw
  refine m_rI (m_runV (As := []) (rest := []) C hW hS hL (c_X12_thrown hw) v_L_120 ⟨rfl, rfl⟩ ⟨Nat.le_of_ble_eq_true rfl, Nat.le_of_ble_eq_true rfl⟩ rfl hk169 rfl rfl (Nat.le_of_ble_eq_true rfl) dL_law_729 ⟨by show _ ≤ 601024; omega, by show _ ≤ 7293034; omega⟩) hS (fun r171 S170 H locs hw hW hS => ?_)
  refine lv_iload C.1 C.2.1 dL_law_732 h5 ?_
  refine lv_icmp_eq (tgt := 739) C.1 C.2.1 dL_law_734 (by decide) (fun hc172 => ?_) (fun hc172 => ?_)
  · have hw := hw.1 hc172
    refine lv_iload C.1 C.2.1 dL_law_739 h5 ?_
    refine lv_if_ne (tgt := 756) C.1 C.2.1 dL_law_741 (by decide) (fun hc173 => ?_) (fun hc173 => ?_)
    · have hw := hw.2 hc173
      refine lv_goto (tgt := 1416) C.1 C.2.1 dL_law_756 (by decide) ?_
      refine W.widen (k := cells + 40) (n := slots + 2000) (by omega) (by omega) ?_
      exact kk _ _ _ _ hW hS hL h0 h1 h2 h3 h4 hw
    · have hw := hw.1 hc173
      refine m_aldN C dL_law_744 rfl h3 ?_
      refine lv_iconst (v := 0) C.1 C.2.1 dL_law_745 (by decide) ?_
      obtain ⟨hk174, hw⟩ := hw
      obtain ⟨hi175, hw⟩ := hw
      refine m_lald C hW rfl hk174 hi175 dL_law_746 ?_
      refine lv_iload C.1 C.2.1 dL_law_747 h6 ?_
      refine lv_i2l (v := ((r168 : Int32).toInt64)) C.1 C.2.1 dL_law_749 rfl ?_
      refine W.lcmp C.1 C.2.1 dL_law_750 ?_
      refine lv_if_eq (tgt := 756) C.1 C.2.1 dL_law_751 (by decide) (fun hc176 => ?_) (fun hc176 => ?_)
      · have hw := hw.1 ((q_eq _ _).mp hc176)
        refine lv_goto (tgt := 1416) C.1 C.2.1 dL_law_756 (by decide) ?_
        refine W.widen (k := cells + 40) (n := slots + 2000) (by omega) (by omega) ?_
        exact kk _ _ _ _ hW hS hL h0 h1 h2 h3 h4 hw
      · have hw := hw.2 (fun z => hc176 ((q_eq _ _).mpr z))
        refine lv_iconst (v := 0) C.1 C.2.1 dL_law_754 (by decide) ?_
        exact False.elim hw
  · have hw := hw.2 hc172
    refine lv_iconst (v := 0) C.1 C.2.1 dL_law_737 (by decide) ?_
    exact False.elim hw
def wp_law_c16 (S : Hp) (x mm out : Nat) (xs : Nat → Int32) (L : Nat) (l4 : Int32) (K : Hp → Prop) : Prop := vp_in (l4 + 1) L ∧ wp_L_result S (some x) (xs ((l4 + 1) : Int32).toNatClampNeg) (some out) (fun r179 S178 => vp_in (l4 + 1) L ∧ hK S178 mm = 14 ∧ wp_X12_result S178 mm (xs ((l4 + 1) : Int32).toNatClampNeg) (fun r183 S182 => hK S182 mm = 14 ∧ wp_X12_thrown S182 mm (fun r186 S185 => (r186 = r179 → (r179 = 0 → hK S185 out = 16 ∧ vp_in 0 (hN S185 out) ∧ ((hJ S185 out (0 : Int32).toNatClampNeg) = ((r183 : Int32).toInt64) → K S185) ∧ (¬ ((hJ S185 out (0 : Int32).toNatClampNeg) = ((r183 : Int32).toInt64)) → False)) ∧ (¬ (r179 = 0) → K S185)) ∧ (¬ (r186 = r179) → False))))
set_option maxRecDepth 100000 in
set_option maxHeartbeats 4000000 in
theorem w_law_c16 {p : Program} {l : Launch} (hl : l.stackTraces = false) {e : Env} {s : State} {m : MethodId} {args : Array Value} {below : List Frame} {meth : Method} {c : Code} {G : GX} {Qz : State → Prop} {b L : Nat} {xs : Nat → Int32} {x mm out : Nat} (C : Cx p s m args meth c cL_law 8 RL (some .boolean) "law" G) (hX : va_X b L xs s s.heap) (hbl : b < s.heap.size) (hbA : ¬ G.2.2.1 b) {cells slots : Nat} (hcc : cells + 40 ≤ 601024) (hss : slots + 2000 ≤ 7293034) {K : Hp → Prop} {l4 : Int32} (kk : ∀ (S : Hp) (H : Heap) (locs : List Loc) (ls : Array Slot), wd G S H → va_S G.2.2.1 s.heap H locs → LV ls 8 → ls[0]? = some (.val (va_rf (some b))) → ls[1]? = some (.val (va_rf (some x))) → ls[2]? = some (.val (va_rf (some mm))) → ls[3]? = some (.val (va_rf (some out))) → ls[4]? = some (.val (.int l4)) → K S → W p l e room_1 s m args below meth c H locs (cells + 40) (slots + 2000) Qz (F0 m 1416 ls []))
    {S : Hp} {H : Heap} {locs : List Loc} {ls : Array Slot} (hW : wd G S H) (hS : va_S G.2.2.1 s.heap H locs) (hL : LV ls 8) (h0 : ls[0]? = some (.val (va_rf (some b)))) (h1 : ls[1]? = some (.val (va_rf (some x)))) (h2 : ls[2]? = some (.val (va_rf (some mm)))) (h3 : ls[3]? = some (.val (va_rf (some out)))) (h4 : ls[4]? = some (.val (.int l4))) (hw : wp_law_c16 S x mm out xs L l4 K) : W p l e room_1 s m args below meth c H locs cells slots Qz (F0 m 759 ls []) := by
  unfold wp_law_c16 at hw
  refine m_aldN C dL_law_759 rfl h1 ?_
  refine m_aldN C dL_law_760 rfl h0 ?_
  refine lv_iload C.1 C.2.1 dL_law_761 h4 ?_
  refine lv_iconst (v := 1) C.1 C.2.1 dL_law_763 (by decide) ?_
  refine lv_iadd C.1 C.2.1 dL_law_764 ?_
  obtain ⟨hi177, hw⟩ := hw
  refine va_sld C.1 C.2.1 hX hbl hbA hS hi177 dL_law_765 ?_
  refine m_aldN C dL_law_766 rfl h3 ?_
  refine m_rH (m_runH (As := [va_rf (some x), .int (xs ((l4 + 1) : Int32).toNatClampNeg), va_rf (some out)]) (rest := []) C hW hS hL (c_L_result hl hw) s_L_123 ⟨rfl, rfl⟩ ⟨Nat.le_of_ble_eq_true rfl, Nat.le_of_ble_eq_true rfl⟩ rfl rfl (Nat.le_of_ble_eq_true rfl) dL_law_767 ⟨by show _ ≤ 601024; omega, by show _ ≤ 7293034; omega⟩) hS (fun r179 S178 H locs hw hW hS => ?_)
  refine m_ist C hL dL_law_770 (by decide) (fun ls hL hn9 hk9 => ?_)
  have h0 := hk9 0 _ h0 (by decide) (Or.inl (by decide))
  have h1 := hk9 1 _ h1 (by decide) (Or.inl (by decide))
  have h2 := hk9 2 _ h2 (by decide) (Or.inl (by decide))
  have h3 := hk9 3 _ h3 (by decide) (Or.inl (by decide))
  have h4 := hk9 4 _ h4 (by decide) (Or.inr (rfl))
  have h5 := hn9
  refine m_aldN C dL_law_772 rfl h2 ?_
  refine m_aldN C dL_law_773 rfl h0 ?_
  refine lv_iload C.1 C.2.1 dL_law_774 h4 ?_
  refine lv_iconst (v := 1) C.1 C.2.1 dL_law_776 (by decide) ?_
  refine lv_iadd C.1 C.2.1 dL_law_777 ?_
  obtain ⟨hi180, hw⟩ := hw
  refine va_sld C.1 C.2.1 hX hbl hbA hS hi180 dL_law_778 ?_
  obtain ⟨hk181, hw⟩ := hw
  refine m_rI (m_runV (As := [.int (xs ((l4 + 1) : Int32).toNatClampNeg)]) (rest := []) C hW hS hL (c_X12_result hw) v_L_126 ⟨rfl, rfl⟩ ⟨Nat.le_of_ble_eq_true rfl, Nat.le_of_ble_eq_true rfl⟩ rfl hk181 rfl rfl (Nat.le_of_ble_eq_true rfl) dL_law_779 ⟨by show _ ≤ 601024; omega, by show _ ≤ 7293034; omega⟩) hS (fun r183 S182 H locs hw hW hS => ?_)
  refine m_ist C hL dL_law_782 (by decide) (fun ls hL hn9 hk9 => ?_)
  have h0 := hk9 0 _ h0 (by decide) (Or.inl (by decide))
  have h1 := hk9 1 _ h1 (by decide) (Or.inl (by decide))
  have h2 := hk9 2 _ h2 (by decide) (Or.inl (by decide))
  have h3 := hk9 3 _ h3 (by decide) (Or.inl (by decide))
  have h4 := hk9 4 _ h4 (by decide) (Or.inl (by decide))
  have h5 := hk9 5 _ h5 (by decide) (Or.inr (rfl))
  have h6 := hn9
  refine m_aldN C dL_law_784 rfl h2 ?_
  obtain ⟨hk184, hw⟩ := hw
  refine m_rI (m_runV (As := []) (rest := []) C hW hS hL (c_X12_thrown hw) v_L_120 ⟨rfl, rfl⟩ ⟨Nat.le_of_ble_eq_true rfl, Nat.le_of_ble_eq_true rfl⟩ rfl hk184 rfl rfl (Nat.le_of_ble_eq_true rfl) dL_law_785 ⟨by show _ ≤ 601024; omega, by show _ ≤ 7293034; omega⟩) hS (fun r186 S185 H locs hw hW hS => ?_)
  refine lv_iload C.1 C.2.1 dL_law_788 h5 ?_
  refine lv_icmp_eq (tgt := 795) C.1 C.2.1 dL_law_790 (by decide) (fun hc187 => ?_) (fun hc187 => ?_)
  · have hw := hw.1 hc187
    refine lv_iload C.1 C.2.1 dL_law_795 h5 ?_
    refine lv_if_ne (tgt := 812) C.1 C.2.1 dL_law_797 (by decide) (fun hc188 => ?_) (fun hc188 => ?_)
    · have hw := hw.2 hc188
      refine lv_goto (tgt := 1416) C.1 C.2.1 dL_law_812 (by decide) ?_
      refine W.widen (k := cells + 40) (n := slots + 2000) (by omega) (by omega) ?_
      exact kk _ _ _ _ hW hS hL h0 h1 h2 h3 h4 hw
    · have hw := hw.1 hc188
      refine m_aldN C dL_law_800 rfl h3 ?_
      refine lv_iconst (v := 0) C.1 C.2.1 dL_law_801 (by decide) ?_
      obtain ⟨hk189, hw⟩ := hw
      obtain ⟨hi190, hw⟩ := hw
      refine m_lald C hW rfl hk189 hi190 dL_law_802 ?_
      refine lv_iload C.1 C.2.1 dL_law_803 h6 ?_
      refine lv_i2l (v := ((r183 : Int32).toInt64)) C.1 C.2.1 dL_law_805 rfl ?_
      refine W.lcmp C.1 C.2.1 dL_law_806 ?_
      refine lv_if_eq (tgt := 812) C.1 C.2.1 dL_law_807 (by decide) (fun hc191 => ?_) (fun hc191 => ?_)
      · have hw := hw.1 ((q_eq _ _).mp hc191)
        refine lv_goto (tgt := 1416) C.1 C.2.1 dL_law_812 (by decide) ?_
        refine W.widen (k := cells + 40) (n := slots + 2000) (by omega) (by omega) ?_
        exact kk _ _ _ _ hW hS hL h0 h1 h2 h3 h4 hw
      · have hw := hw.2 (fun z => hc191 ((q_eq _ _).mpr z))
        refine lv_iconst (v := 0) C.1 C.2.1 dL_law_810 (by decide) ?_
        exact False.elim hw
  · have hw := hw.2 hc187
    refine lv_iconst (v := 0) C.1 C.2.1 dL_law_793 (by decide) ?_
    exact False.elim hw
def wp_law_c17 (S : Hp) (x mm out : Nat) (xs : Nat → Int32) (L : Nat) (l4 : Int32) (K : Hp → Prop) : Prop := vp_in (l4 + 1) L ∧ vp_in (l4 + 2) L ∧ wp_L_part S (some x) (xs ((l4 + 1) : Int32).toNatClampNeg) (xs ((l4 + 2) : Int32).toNatClampNeg) (some out) (fun r195 S194 => vp_in (l4 + 1) L ∧ vp_in (l4 + 2) L ∧ hK S194 mm = 14 ∧ wp_X12_part S194 mm (xs ((l4 + 1) : Int32).toNatClampNeg) (xs ((l4 + 2) : Int32).toNatClampNeg) (fun r200 S199 => hK S199 mm = 14 ∧ wp_X12_thrown S199 mm (fun r203 S202 => (r203 = r195 → (r195 = 0 → hK S202 out = 16 ∧ vp_in 0 (hN S202 out) ∧ ((hJ S202 out (0 : Int32).toNatClampNeg) = r200 → K S202) ∧ (¬ ((hJ S202 out (0 : Int32).toNatClampNeg) = r200) → False)) ∧ (¬ (r195 = 0) → K S202)) ∧ (¬ (r203 = r195) → False))))
set_option maxRecDepth 100000 in
set_option maxHeartbeats 4000000 in
theorem w_law_c17 {p : Program} {l : Launch} (hl : l.stackTraces = false) {e : Env} {s : State} {m : MethodId} {args : Array Value} {below : List Frame} {meth : Method} {c : Code} {G : GX} {Qz : State → Prop} {b L : Nat} {xs : Nat → Int32} {x mm out : Nat} (C : Cx p s m args meth c cL_law 8 RL (some .boolean) "law" G) (hX : va_X b L xs s s.heap) (hbl : b < s.heap.size) (hbA : ¬ G.2.2.1 b) {cells slots : Nat} (hcc : cells + 40 ≤ 601024) (hss : slots + 2000 ≤ 7293034) {K : Hp → Prop} {l4 : Int32} (kk : ∀ (S : Hp) (H : Heap) (locs : List Loc) (ls : Array Slot), wd G S H → va_S G.2.2.1 s.heap H locs → LV ls 8 → ls[0]? = some (.val (va_rf (some b))) → ls[1]? = some (.val (va_rf (some x))) → ls[2]? = some (.val (va_rf (some mm))) → ls[3]? = some (.val (va_rf (some out))) → ls[4]? = some (.val (.int l4)) → K S → W p l e room_1 s m args below meth c H locs (cells + 40) (slots + 2000) Qz (F0 m 1416 ls []))
    {S : Hp} {H : Heap} {locs : List Loc} {ls : Array Slot} (hW : wd G S H) (hS : va_S G.2.2.1 s.heap H locs) (hL : LV ls 8) (h0 : ls[0]? = some (.val (va_rf (some b)))) (h1 : ls[1]? = some (.val (va_rf (some x)))) (h2 : ls[2]? = some (.val (va_rf (some mm)))) (h3 : ls[3]? = some (.val (va_rf (some out)))) (h4 : ls[4]? = some (.val (.int l4))) (hw : wp_law_c17 S x mm out xs L l4 K) : W p l e room_1 s m args below meth c H locs cells slots Qz (F0 m 815 ls []) := by
  unfold wp_law_c17 at hw
  refine m_aldN C dL_law_815 rfl h1 ?_
  refine m_aldN C dL_law_816 rfl h0 ?_
  refine lv_iload C.1 C.2.1 dL_law_817 h4 ?_
  refine lv_iconst (v := 1) C.1 C.2.1 dL_law_819 (by decide) ?_
  refine lv_iadd C.1 C.2.1 dL_law_820 ?_
  obtain ⟨hi192, hw⟩ := hw
  refine va_sld C.1 C.2.1 hX hbl hbA hS hi192 dL_law_821 ?_
  refine m_aldN C dL_law_822 rfl h0 ?_
  refine lv_iload C.1 C.2.1 dL_law_823 h4 ?_
  refine lv_iconst (v := 2) C.1 C.2.1 dL_law_825 (by decide) ?_
  refine lv_iadd C.1 C.2.1 dL_law_826 ?_
  obtain ⟨hi193, hw⟩ := hw
  refine va_sld C.1 C.2.1 hX hbl hbA hS hi193 dL_law_827 ?_
  refine m_aldN C dL_law_828 rfl h3 ?_
  refine m_rH (m_runH (As := [va_rf (some x), .int (xs ((l4 + 1) : Int32).toNatClampNeg), .int (xs ((l4 + 2) : Int32).toNatClampNeg), va_rf (some out)]) (rest := []) C hW hS hL (c_L_part hl hw) s_L_127 ⟨rfl, rfl⟩ ⟨Nat.le_of_ble_eq_true rfl, Nat.le_of_ble_eq_true rfl⟩ rfl rfl (Nat.le_of_ble_eq_true rfl) dL_law_829 ⟨by show _ ≤ 601024; omega, by show _ ≤ 7293034; omega⟩) hS (fun r195 S194 H locs hw hW hS => ?_)
  refine m_ist C hL dL_law_832 (by decide) (fun ls hL hn9 hk9 => ?_)
  have h0 := hk9 0 _ h0 (by decide) (Or.inl (by decide))
  have h1 := hk9 1 _ h1 (by decide) (Or.inl (by decide))
  have h2 := hk9 2 _ h2 (by decide) (Or.inl (by decide))
  have h3 := hk9 3 _ h3 (by decide) (Or.inl (by decide))
  have h4 := hk9 4 _ h4 (by decide) (Or.inr (rfl))
  have h5 := hn9
  refine m_aldN C dL_law_834 rfl h2 ?_
  refine m_aldN C dL_law_835 rfl h0 ?_
  refine lv_iload C.1 C.2.1 dL_law_836 h4 ?_
  refine lv_iconst (v := 1) C.1 C.2.1 dL_law_838 (by decide) ?_
  refine lv_iadd C.1 C.2.1 dL_law_839 ?_
  obtain ⟨hi196, hw⟩ := hw
  refine va_sld C.1 C.2.1 hX hbl hbA hS hi196 dL_law_840 ?_
  refine m_aldN C dL_law_841 rfl h0 ?_
  refine lv_iload C.1 C.2.1 dL_law_842 h4 ?_
  refine lv_iconst (v := 2) C.1 C.2.1 dL_law_844 (by decide) ?_
  refine lv_iadd C.1 C.2.1 dL_law_845 ?_
  obtain ⟨hi197, hw⟩ := hw
  refine va_sld C.1 C.2.1 hX hbl hbA hS hi197 dL_law_846 ?_
  obtain ⟨hk198, hw⟩ := hw
  refine m_rL (m_runV (As := [.int (xs ((l4 + 1) : Int32).toNatClampNeg), .int (xs ((l4 + 2) : Int32).toNatClampNeg)]) (rest := []) C hW hS hL (c_X12_part hw) v_L_129 ⟨rfl, rfl⟩ ⟨Nat.le_of_ble_eq_true rfl, Nat.le_of_ble_eq_true rfl⟩ rfl hk198 rfl rfl (Nat.le_of_ble_eq_true rfl) dL_law_847 ⟨by show _ ≤ 601024; omega, by show _ ≤ 7293034; omega⟩) hS (fun r200 S199 H locs hw hW hS => ?_)
  refine m_lst C hL dL_law_850 (by decide) (fun ls hL hn9 hk9 => ?_)
  have h0 := hk9 0 _ h0 (by decide) (by decide) (Or.inl (by decide))
  have h1 := hk9 1 _ h1 (by decide) (by decide) (Or.inl (by decide))
  have h2 := hk9 2 _ h2 (by decide) (by decide) (Or.inl (by decide))
  have h3 := hk9 3 _ h3 (by decide) (by decide) (Or.inl (by decide))
  have h4 := hk9 4 _ h4 (by decide) (by decide) (Or.inl (by decide))
  have h5 := hk9 5 _ h5 (by decide) (by decide) (Or.inr (rfl))
  have h6 := hn9
  refine m_aldN C dL_law_852 rfl h2 ?_
  obtain ⟨hk201, hw⟩ := hw
  refine m_rI (m_runV (As := []) (rest := []) C hW hS hL (c_X12_thrown hw) v_L_120 ⟨rfl, rfl⟩ ⟨Nat.le_of_ble_eq_true rfl, Nat.le_of_ble_eq_true rfl⟩ rfl hk201 rfl rfl (Nat.le_of_ble_eq_true rfl) dL_law_853 ⟨by show _ ≤ 601024; omega, by show _ ≤ 7293034; omega⟩) hS (fun r203 S202 H locs hw hW hS => ?_)
  refine lv_iload C.1 C.2.1 dL_law_856 h5 ?_
  refine lv_icmp_eq (tgt := 863) C.1 C.2.1 dL_law_858 (by decide) (fun hc204 => ?_) (fun hc204 => ?_)
  · have hw := hw.1 hc204
    refine lv_iload C.1 C.2.1 dL_law_863 h5 ?_
    refine lv_if_ne (tgt := 879) C.1 C.2.1 dL_law_865 (by decide) (fun hc205 => ?_) (fun hc205 => ?_)
    · have hw := hw.2 hc205
      refine lv_goto (tgt := 1416) C.1 C.2.1 dL_law_879 (by decide) ?_
      refine W.widen (k := cells + 40) (n := slots + 2000) (by omega) (by omega) ?_
      exact kk _ _ _ _ hW hS hL h0 h1 h2 h3 h4 hw
    · have hw := hw.1 hc205
      refine m_aldN C dL_law_868 rfl h3 ?_
      refine lv_iconst (v := 0) C.1 C.2.1 dL_law_869 (by decide) ?_
      obtain ⟨hk206, hw⟩ := hw
      obtain ⟨hi207, hw⟩ := hw
      refine m_lald C hW rfl hk206 hi207 dL_law_870 ?_
      refine lv_lload C.1 C.2.1 dL_law_871 h6 ?_
      refine W.lcmp C.1 C.2.1 dL_law_873 ?_
      refine lv_if_eq (tgt := 879) C.1 C.2.1 dL_law_874 (by decide) (fun hc208 => ?_) (fun hc208 => ?_)
      · have hw := hw.1 ((q_eq _ _).mp hc208)
        refine lv_goto (tgt := 1416) C.1 C.2.1 dL_law_879 (by decide) ?_
        refine W.widen (k := cells + 40) (n := slots + 2000) (by omega) (by omega) ?_
        exact kk _ _ _ _ hW hS hL h0 h1 h2 h3 h4 hw
      · have hw := hw.2 (fun z => hc208 ((q_eq _ _).mpr z))
        refine lv_iconst (v := 0) C.1 C.2.1 dL_law_877 (by decide) ?_
        exact False.elim hw
  · have hw := hw.2 hc204
    refine lv_iconst (v := 0) C.1 C.2.1 dL_law_861 (by decide) ?_
    exact False.elim hw
def wp_law_c18 (S : Hp) (x mm out : Nat) (xs : Nat → Int32) (L : Nat) (l4 : Int32) (K : Hp → Prop) : Prop := vp_in (l4 + 1) L ∧ wp_L_check S (some x) (xs ((l4 + 1) : Int32).toNatClampNeg) (some out) (fun r211 S210 => vp_in (l4 + 1) L ∧ hK S210 mm = 14 ∧ wp_X12_check S210 mm (xs ((l4 + 1) : Int32).toNatClampNeg) (fun r215 S214 => hK S214 mm = 14 ∧ wp_X12_thrown S214 mm (fun r218 S217 => (r218 = r211 → (r211 = 0 → hK S217 out = 16 ∧ vp_in 0 (hN S217 out) ∧ ((hJ S217 out (0 : Int32).toNatClampNeg) = ((r215 : Int32).toInt64) → K S217) ∧ (¬ ((hJ S217 out (0 : Int32).toNatClampNeg) = ((r215 : Int32).toInt64)) → False)) ∧ (¬ (r211 = 0) → K S217)) ∧ (¬ (r218 = r211) → False))))
set_option maxRecDepth 100000 in
set_option maxHeartbeats 4000000 in
theorem w_law_c18 {p : Program} {l : Launch} (hl : l.stackTraces = false) {e : Env} {s : State} {m : MethodId} {args : Array Value} {below : List Frame} {meth : Method} {c : Code} {G : GX} {Qz : State → Prop} {b L : Nat} {xs : Nat → Int32} {x mm out : Nat} (C : Cx p s m args meth c cL_law 8 RL (some .boolean) "law" G) (hX : va_X b L xs s s.heap) (hbl : b < s.heap.size) (hbA : ¬ G.2.2.1 b) {cells slots : Nat} (hcc : cells + 40 ≤ 601024) (hss : slots + 2000 ≤ 7293034) {K : Hp → Prop} {l4 : Int32} (kk : ∀ (S : Hp) (H : Heap) (locs : List Loc) (ls : Array Slot), wd G S H → va_S G.2.2.1 s.heap H locs → LV ls 8 → ls[0]? = some (.val (va_rf (some b))) → ls[1]? = some (.val (va_rf (some x))) → ls[2]? = some (.val (va_rf (some mm))) → ls[3]? = some (.val (va_rf (some out))) → ls[4]? = some (.val (.int l4)) → K S → W p l e room_1 s m args below meth c H locs (cells + 40) (slots + 2000) Qz (F0 m 1416 ls []))
    {S : Hp} {H : Heap} {locs : List Loc} {ls : Array Slot} (hW : wd G S H) (hS : va_S G.2.2.1 s.heap H locs) (hL : LV ls 8) (h0 : ls[0]? = some (.val (va_rf (some b)))) (h1 : ls[1]? = some (.val (va_rf (some x)))) (h2 : ls[2]? = some (.val (va_rf (some mm)))) (h3 : ls[3]? = some (.val (va_rf (some out)))) (h4 : ls[4]? = some (.val (.int l4))) (hw : wp_law_c18 S x mm out xs L l4 K) : W p l e room_1 s m args below meth c H locs cells slots Qz (F0 m 882 ls []) := by
  unfold wp_law_c18 at hw
  refine m_aldN C dL_law_882 rfl h1 ?_
  refine m_aldN C dL_law_883 rfl h0 ?_
  refine lv_iload C.1 C.2.1 dL_law_884 h4 ?_
  refine lv_iconst (v := 1) C.1 C.2.1 dL_law_886 (by decide) ?_
  refine lv_iadd C.1 C.2.1 dL_law_887 ?_
  obtain ⟨hi209, hw⟩ := hw
  refine va_sld C.1 C.2.1 hX hbl hbA hS hi209 dL_law_888 ?_
  refine m_aldN C dL_law_889 rfl h3 ?_
  refine m_rH (m_runH (As := [va_rf (some x), .int (xs ((l4 + 1) : Int32).toNatClampNeg), va_rf (some out)]) (rest := []) C hW hS hL (c_L_check hl hw) s_L_130 ⟨rfl, rfl⟩ ⟨Nat.le_of_ble_eq_true rfl, Nat.le_of_ble_eq_true rfl⟩ rfl rfl (Nat.le_of_ble_eq_true rfl) dL_law_890 ⟨by show _ ≤ 601024; omega, by show _ ≤ 7293034; omega⟩) hS (fun r211 S210 H locs hw hW hS => ?_)
  refine m_ist C hL dL_law_893 (by decide) (fun ls hL hn9 hk9 => ?_)
  have h0 := hk9 0 _ h0 (by decide) (Or.inl (by decide))
  have h1 := hk9 1 _ h1 (by decide) (Or.inl (by decide))
  have h2 := hk9 2 _ h2 (by decide) (Or.inl (by decide))
  have h3 := hk9 3 _ h3 (by decide) (Or.inl (by decide))
  have h4 := hk9 4 _ h4 (by decide) (Or.inr (rfl))
  have h5 := hn9
  refine m_aldN C dL_law_895 rfl h2 ?_
  refine m_aldN C dL_law_896 rfl h0 ?_
  refine lv_iload C.1 C.2.1 dL_law_897 h4 ?_
  refine lv_iconst (v := 1) C.1 C.2.1 dL_law_899 (by decide) ?_
  refine lv_iadd C.1 C.2.1 dL_law_900 ?_
  obtain ⟨hi212, hw⟩ := hw
  refine va_sld C.1 C.2.1 hX hbl hbA hS hi212 dL_law_901 ?_
  obtain ⟨hk213, hw⟩ := hw
  refine m_rI (m_runV (As := [.int (xs ((l4 + 1) : Int32).toNatClampNeg)]) (rest := []) C hW hS hL (c_X12_check hw) v_L_132 ⟨rfl, rfl⟩ ⟨Nat.le_of_ble_eq_true rfl, Nat.le_of_ble_eq_true rfl⟩ rfl hk213 rfl rfl (Nat.le_of_ble_eq_true rfl) dL_law_902 ⟨by show _ ≤ 601024; omega, by show _ ≤ 7293034; omega⟩) hS (fun r215 S214 H locs hw hW hS => ?_)
  refine m_ist C hL dL_law_905 (by decide) (fun ls hL hn9 hk9 => ?_)
  have h0 := hk9 0 _ h0 (by decide) (Or.inl (by decide))
  have h1 := hk9 1 _ h1 (by decide) (Or.inl (by decide))
  have h2 := hk9 2 _ h2 (by decide) (Or.inl (by decide))
  have h3 := hk9 3 _ h3 (by decide) (Or.inl (by decide))
  have h4 := hk9 4 _ h4 (by decide) (Or.inl (by decide))
  have h5 := hk9 5 _ h5 (by decide) (Or.inr (rfl))
  have h6 := hn9
  refine m_aldN C dL_law_907 rfl h2 ?_
  obtain ⟨hk216, hw⟩ := hw
  refine m_rI (m_runV (As := []) (rest := []) C hW hS hL (c_X12_thrown hw) v_L_120 ⟨rfl, rfl⟩ ⟨Nat.le_of_ble_eq_true rfl, Nat.le_of_ble_eq_true rfl⟩ rfl hk216 rfl rfl (Nat.le_of_ble_eq_true rfl) dL_law_908 ⟨by show _ ≤ 601024; omega, by show _ ≤ 7293034; omega⟩) hS (fun r218 S217 H locs hw hW hS => ?_)
  refine lv_iload C.1 C.2.1 dL_law_911 h5 ?_
  refine lv_icmp_eq (tgt := 918) C.1 C.2.1 dL_law_913 (by decide) (fun hc219 => ?_) (fun hc219 => ?_)
  · have hw := hw.1 hc219
    refine lv_iload C.1 C.2.1 dL_law_918 h5 ?_
    refine lv_if_ne (tgt := 935) C.1 C.2.1 dL_law_920 (by decide) (fun hc220 => ?_) (fun hc220 => ?_)
    · have hw := hw.2 hc220
      refine lv_goto (tgt := 1416) C.1 C.2.1 dL_law_935 (by decide) ?_
      refine W.widen (k := cells + 40) (n := slots + 2000) (by omega) (by omega) ?_
      exact kk _ _ _ _ hW hS hL h0 h1 h2 h3 h4 hw
    · have hw := hw.1 hc220
      refine m_aldN C dL_law_923 rfl h3 ?_
      refine lv_iconst (v := 0) C.1 C.2.1 dL_law_924 (by decide) ?_
      obtain ⟨hk221, hw⟩ := hw
      obtain ⟨hi222, hw⟩ := hw
      refine m_lald C hW rfl hk221 hi222 dL_law_925 ?_
      refine lv_iload C.1 C.2.1 dL_law_926 h6 ?_
      refine lv_i2l (v := ((r215 : Int32).toInt64)) C.1 C.2.1 dL_law_928 rfl ?_
      refine W.lcmp C.1 C.2.1 dL_law_929 ?_
      refine lv_if_eq (tgt := 935) C.1 C.2.1 dL_law_930 (by decide) (fun hc223 => ?_) (fun hc223 => ?_)
      · have hw := hw.1 ((q_eq _ _).mp hc223)
        refine lv_goto (tgt := 1416) C.1 C.2.1 dL_law_935 (by decide) ?_
        refine W.widen (k := cells + 40) (n := slots + 2000) (by omega) (by omega) ?_
        exact kk _ _ _ _ hW hS hL h0 h1 h2 h3 h4 hw
      · have hw := hw.2 (fun z => hc223 ((q_eq _ _).mpr z))
        refine lv_iconst (v := 0) C.1 C.2.1 dL_law_933 (by decide) ?_
        exact False.elim hw
  · have hw := hw.2 hc219
    refine lv_iconst (v := 0) C.1 C.2.1 dL_law_916 (by decide) ?_
    exact False.elim hw
def wp_law_c19 (S : Hp) (x mm out : Nat) (xs : Nat → Int32) (L : Nat) (l4 : Int32) (K : Hp → Prop) : Prop := hK S x = 13 ∧ wp_X11_failures S x (fun r226 S225 => hK S225 mm = 14 ∧ wp_X12_failures S225 mm (fun r229 S228 => (r226 = r229 → K S228) ∧ (¬ (r226 = r229) → False)))
set_option maxRecDepth 100000 in
set_option maxHeartbeats 4000000 in
theorem w_law_c19 {p : Program} {l : Launch} (hl : l.stackTraces = false) {e : Env} {s : State} {m : MethodId} {args : Array Value} {below : List Frame} {meth : Method} {c : Code} {G : GX} {Qz : State → Prop} {b L : Nat} {xs : Nat → Int32} {x mm out : Nat} (C : Cx p s m args meth c cL_law 8 RL (some .boolean) "law" G) (hX : va_X b L xs s s.heap) (hbl : b < s.heap.size) (hbA : ¬ G.2.2.1 b) {cells slots : Nat} (hcc : cells + 40 ≤ 601024) (hss : slots + 2000 ≤ 7293034) {K : Hp → Prop} {l4 : Int32} (kk : ∀ (S : Hp) (H : Heap) (locs : List Loc) (ls : Array Slot), wd G S H → va_S G.2.2.1 s.heap H locs → LV ls 8 → ls[0]? = some (.val (va_rf (some b))) → ls[1]? = some (.val (va_rf (some x))) → ls[2]? = some (.val (va_rf (some mm))) → ls[3]? = some (.val (va_rf (some out))) → ls[4]? = some (.val (.int l4)) → K S → W p l e room_1 s m args below meth c H locs (cells + 40) (slots + 2000) Qz (F0 m 1416 ls []))
    {S : Hp} {H : Heap} {locs : List Loc} {ls : Array Slot} (hW : wd G S H) (hS : va_S G.2.2.1 s.heap H locs) (hL : LV ls 8) (h0 : ls[0]? = some (.val (va_rf (some b)))) (h1 : ls[1]? = some (.val (va_rf (some x)))) (h2 : ls[2]? = some (.val (va_rf (some mm)))) (h3 : ls[3]? = some (.val (va_rf (some out)))) (h4 : ls[4]? = some (.val (.int l4))) (hw : wp_law_c19 S x mm out xs L l4 K) : W p l e room_1 s m args below meth c H locs cells slots Qz (F0 m 938 ls []) := by
  unfold wp_law_c19 at hw
  refine m_aldN C dL_law_938 rfl h1 ?_
  obtain ⟨hk224, hw⟩ := hw
  refine m_rI (m_runV (As := []) (rest := []) C hW hS hL (c_X11_failures hw) v_L_133 ⟨rfl, rfl⟩ ⟨Nat.le_of_ble_eq_true rfl, Nat.le_of_ble_eq_true rfl⟩ rfl hk224 rfl rfl (Nat.le_of_ble_eq_true rfl) dL_law_939 ⟨by show _ ≤ 601024; omega, by show _ ≤ 7293034; omega⟩) hS (fun r226 S225 H locs hw hW hS => ?_)
  refine m_aldN C dL_law_942 rfl h2 ?_
  obtain ⟨hk227, hw⟩ := hw
  refine m_rI (m_runV (As := []) (rest := [.int r226]) C hW hS hL (c_X12_failures hw) v_L_136 ⟨rfl, rfl⟩ ⟨Nat.le_of_ble_eq_true rfl, Nat.le_of_ble_eq_true rfl⟩ rfl hk227 rfl rfl (Nat.le_of_ble_eq_true rfl) dL_law_943 ⟨by show _ ≤ 601024; omega, by show _ ≤ 7293034; omega⟩) hS (fun r229 S228 H locs hw hW hS => ?_)
  refine lv_icmp_eq (tgt := 1416) C.1 C.2.1 dL_law_946 (by decide) (fun hc230 => ?_) (fun hc230 => ?_)
  · have hw := hw.1 hc230
    refine W.widen (k := cells + 40) (n := slots + 2000) (by omega) (by omega) ?_
    exact kk _ _ _ _ hW hS hL h0 h1 h2 h3 h4 hw
  · have hw := hw.2 hc230
    refine lv_iconst (v := 0) C.1 C.2.1 dL_law_949 (by decide) ?_
    exact False.elim hw
def wp_law_c20 (S : Hp) (x mm out : Nat) (xs : Nat → Int32) (L : Nat) (l4 : Int32) (K : Hp → Prop) : Prop := vp_in (l4 + 1) L ∧ vp_in (l4 + 2) L ∧ wp_L_failure S (some x) (xs ((l4 + 1) : Int32).toNatClampNeg) (xs ((l4 + 2) : Int32).toNatClampNeg) (some out) (fun r234 S233 => vp_in (l4 + 1) L ∧ vp_in (l4 + 2) L ∧ hK S233 mm = 14 ∧ wp_X12_failure S233 mm (xs ((l4 + 1) : Int32).toNatClampNeg) (xs ((l4 + 2) : Int32).toNatClampNeg) (fun r239 S238 => hK S238 mm = 14 ∧ wp_X12_thrown S238 mm (fun r242 S241 => (r242 = r234 → (r234 = 0 → hK S241 out = 16 ∧ vp_in 0 (hN S241 out) ∧ ((hJ S241 out (0 : Int32).toNatClampNeg) = ((r239 : Int32).toInt64) → K S241) ∧ (¬ ((hJ S241 out (0 : Int32).toNatClampNeg) = ((r239 : Int32).toInt64)) → False)) ∧ (¬ (r234 = 0) → K S241)) ∧ (¬ (r242 = r234) → False))))
set_option maxRecDepth 100000 in
set_option maxHeartbeats 4000000 in
theorem w_law_c20 {p : Program} {l : Launch} (hl : l.stackTraces = false) {e : Env} {s : State} {m : MethodId} {args : Array Value} {below : List Frame} {meth : Method} {c : Code} {G : GX} {Qz : State → Prop} {b L : Nat} {xs : Nat → Int32} {x mm out : Nat} (C : Cx p s m args meth c cL_law 8 RL (some .boolean) "law" G) (hX : va_X b L xs s s.heap) (hbl : b < s.heap.size) (hbA : ¬ G.2.2.1 b) {cells slots : Nat} (hcc : cells + 40 ≤ 601024) (hss : slots + 2000 ≤ 7293034) {K : Hp → Prop} {l4 : Int32} (kk : ∀ (S : Hp) (H : Heap) (locs : List Loc) (ls : Array Slot), wd G S H → va_S G.2.2.1 s.heap H locs → LV ls 8 → ls[0]? = some (.val (va_rf (some b))) → ls[1]? = some (.val (va_rf (some x))) → ls[2]? = some (.val (va_rf (some mm))) → ls[3]? = some (.val (va_rf (some out))) → ls[4]? = some (.val (.int l4)) → K S → W p l e room_1 s m args below meth c H locs (cells + 40) (slots + 2000) Qz (F0 m 1416 ls []))
    {S : Hp} {H : Heap} {locs : List Loc} {ls : Array Slot} (hW : wd G S H) (hS : va_S G.2.2.1 s.heap H locs) (hL : LV ls 8) (h0 : ls[0]? = some (.val (va_rf (some b)))) (h1 : ls[1]? = some (.val (va_rf (some x)))) (h2 : ls[2]? = some (.val (va_rf (some mm)))) (h3 : ls[3]? = some (.val (va_rf (some out)))) (h4 : ls[4]? = some (.val (.int l4))) (hw : wp_law_c20 S x mm out xs L l4 K) : W p l e room_1 s m args below meth c H locs cells slots Qz (F0 m 951 ls []) := by
  unfold wp_law_c20 at hw
  refine m_aldN C dL_law_951 rfl h1 ?_
  refine m_aldN C dL_law_952 rfl h0 ?_
  refine lv_iload C.1 C.2.1 dL_law_953 h4 ?_
  refine lv_iconst (v := 1) C.1 C.2.1 dL_law_955 (by decide) ?_
  refine lv_iadd C.1 C.2.1 dL_law_956 ?_
  obtain ⟨hi231, hw⟩ := hw
  refine va_sld C.1 C.2.1 hX hbl hbA hS hi231 dL_law_957 ?_
  refine m_aldN C dL_law_958 rfl h0 ?_
  refine lv_iload C.1 C.2.1 dL_law_959 h4 ?_
  refine lv_iconst (v := 2) C.1 C.2.1 dL_law_961 (by decide) ?_
  refine lv_iadd C.1 C.2.1 dL_law_962 ?_
  obtain ⟨hi232, hw⟩ := hw
  refine va_sld C.1 C.2.1 hX hbl hbA hS hi232 dL_law_963 ?_
  refine m_aldN C dL_law_964 rfl h3 ?_
  refine m_rH (m_runH (As := [va_rf (some x), .int (xs ((l4 + 1) : Int32).toNatClampNeg), .int (xs ((l4 + 2) : Int32).toNatClampNeg), va_rf (some out)]) (rest := []) C hW hS hL (c_L_failure hl hw) s_L_137 ⟨rfl, rfl⟩ ⟨Nat.le_of_ble_eq_true rfl, Nat.le_of_ble_eq_true rfl⟩ rfl rfl (Nat.le_of_ble_eq_true rfl) dL_law_965 ⟨by show _ ≤ 601024; omega, by show _ ≤ 7293034; omega⟩) hS (fun r234 S233 H locs hw hW hS => ?_)
  refine m_ist C hL dL_law_968 (by decide) (fun ls hL hn9 hk9 => ?_)
  have h0 := hk9 0 _ h0 (by decide) (Or.inl (by decide))
  have h1 := hk9 1 _ h1 (by decide) (Or.inl (by decide))
  have h2 := hk9 2 _ h2 (by decide) (Or.inl (by decide))
  have h3 := hk9 3 _ h3 (by decide) (Or.inl (by decide))
  have h4 := hk9 4 _ h4 (by decide) (Or.inr (rfl))
  have h5 := hn9
  refine m_aldN C dL_law_970 rfl h2 ?_
  refine m_aldN C dL_law_971 rfl h0 ?_
  refine lv_iload C.1 C.2.1 dL_law_972 h4 ?_
  refine lv_iconst (v := 1) C.1 C.2.1 dL_law_974 (by decide) ?_
  refine lv_iadd C.1 C.2.1 dL_law_975 ?_
  obtain ⟨hi235, hw⟩ := hw
  refine va_sld C.1 C.2.1 hX hbl hbA hS hi235 dL_law_976 ?_
  refine m_aldN C dL_law_977 rfl h0 ?_
  refine lv_iload C.1 C.2.1 dL_law_978 h4 ?_
  refine lv_iconst (v := 2) C.1 C.2.1 dL_law_980 (by decide) ?_
  refine lv_iadd C.1 C.2.1 dL_law_981 ?_
  obtain ⟨hi236, hw⟩ := hw
  refine va_sld C.1 C.2.1 hX hbl hbA hS hi236 dL_law_982 ?_
  obtain ⟨hk237, hw⟩ := hw
  refine m_rI (m_runV (As := [.int (xs ((l4 + 1) : Int32).toNatClampNeg), .int (xs ((l4 + 2) : Int32).toNatClampNeg)]) (rest := []) C hW hS hL (c_X12_failure hw) v_L_139 ⟨rfl, rfl⟩ ⟨Nat.le_of_ble_eq_true rfl, Nat.le_of_ble_eq_true rfl⟩ rfl hk237 rfl rfl (Nat.le_of_ble_eq_true rfl) dL_law_983 ⟨by show _ ≤ 601024; omega, by show _ ≤ 7293034; omega⟩) hS (fun r239 S238 H locs hw hW hS => ?_)
  refine m_ist C hL dL_law_986 (by decide) (fun ls hL hn9 hk9 => ?_)
  have h0 := hk9 0 _ h0 (by decide) (Or.inl (by decide))
  have h1 := hk9 1 _ h1 (by decide) (Or.inl (by decide))
  have h2 := hk9 2 _ h2 (by decide) (Or.inl (by decide))
  have h3 := hk9 3 _ h3 (by decide) (Or.inl (by decide))
  have h4 := hk9 4 _ h4 (by decide) (Or.inl (by decide))
  have h5 := hk9 5 _ h5 (by decide) (Or.inr (rfl))
  have h6 := hn9
  refine m_aldN C dL_law_988 rfl h2 ?_
  obtain ⟨hk240, hw⟩ := hw
  refine m_rI (m_runV (As := []) (rest := []) C hW hS hL (c_X12_thrown hw) v_L_120 ⟨rfl, rfl⟩ ⟨Nat.le_of_ble_eq_true rfl, Nat.le_of_ble_eq_true rfl⟩ rfl hk240 rfl rfl (Nat.le_of_ble_eq_true rfl) dL_law_989 ⟨by show _ ≤ 601024; omega, by show _ ≤ 7293034; omega⟩) hS (fun r242 S241 H locs hw hW hS => ?_)
  refine lv_iload C.1 C.2.1 dL_law_992 h5 ?_
  refine lv_icmp_eq (tgt := 999) C.1 C.2.1 dL_law_994 (by decide) (fun hc243 => ?_) (fun hc243 => ?_)
  · have hw := hw.1 hc243
    refine lv_iload C.1 C.2.1 dL_law_999 h5 ?_
    refine lv_if_ne (tgt := 1016) C.1 C.2.1 dL_law_1001 (by decide) (fun hc244 => ?_) (fun hc244 => ?_)
    · have hw := hw.2 hc244
      refine lv_goto (tgt := 1416) C.1 C.2.1 dL_law_1016 (by decide) ?_
      refine W.widen (k := cells + 40) (n := slots + 2000) (by omega) (by omega) ?_
      exact kk _ _ _ _ hW hS hL h0 h1 h2 h3 h4 hw
    · have hw := hw.1 hc244
      refine m_aldN C dL_law_1004 rfl h3 ?_
      refine lv_iconst (v := 0) C.1 C.2.1 dL_law_1005 (by decide) ?_
      obtain ⟨hk245, hw⟩ := hw
      obtain ⟨hi246, hw⟩ := hw
      refine m_lald C hW rfl hk245 hi246 dL_law_1006 ?_
      refine lv_iload C.1 C.2.1 dL_law_1007 h6 ?_
      refine lv_i2l (v := ((r239 : Int32).toInt64)) C.1 C.2.1 dL_law_1009 rfl ?_
      refine W.lcmp C.1 C.2.1 dL_law_1010 ?_
      refine lv_if_eq (tgt := 1016) C.1 C.2.1 dL_law_1011 (by decide) (fun hc247 => ?_) (fun hc247 => ?_)
      · have hw := hw.1 ((q_eq _ _).mp hc247)
        refine lv_goto (tgt := 1416) C.1 C.2.1 dL_law_1016 (by decide) ?_
        refine W.widen (k := cells + 40) (n := slots + 2000) (by omega) (by omega) ?_
        exact kk _ _ _ _ hW hS hL h0 h1 h2 h3 h4 hw
      · have hw := hw.2 (fun z => hc247 ((q_eq _ _).mpr z))
        refine lv_iconst (v := 0) C.1 C.2.1 dL_law_1014 (by decide) ?_
        exact False.elim hw
  · have hw := hw.2 hc243
    refine lv_iconst (v := 0) C.1 C.2.1 dL_law_997 (by decide) ?_
    exact False.elim hw
def wp_law_c21 (S : Hp) (x mm out : Nat) (xs : Nat → Int32) (L : Nat) (l4 : Int32) (K : Hp → Prop) : Prop := vp_in (l4 + 1) L ∧ wp_L_left S (some x) (xs ((l4 + 1) : Int32).toNatClampNeg) (some out) (fun r250 S249 => vp_in (l4 + 1) L ∧ hK S249 mm = 14 ∧ wp_X12_left S249 mm (xs ((l4 + 1) : Int32).toNatClampNeg) (fun r254 S253 => hK S253 mm = 14 ∧ wp_X12_thrown S253 mm (fun r257 S256 => (r257 = r250 → (r250 = 0 → hK S256 out = 16 ∧ vp_in 0 (hN S256 out) ∧ ((hJ S256 out (0 : Int32).toNatClampNeg) = r254 → K S256) ∧ (¬ ((hJ S256 out (0 : Int32).toNatClampNeg) = r254) → False)) ∧ (¬ (r250 = 0) → K S256)) ∧ (¬ (r257 = r250) → False))))
set_option maxRecDepth 100000 in
set_option maxHeartbeats 4000000 in
theorem w_law_c21 {p : Program} {l : Launch} (hl : l.stackTraces = false) {e : Env} {s : State} {m : MethodId} {args : Array Value} {below : List Frame} {meth : Method} {c : Code} {G : GX} {Qz : State → Prop} {b L : Nat} {xs : Nat → Int32} {x mm out : Nat} (C : Cx p s m args meth c cL_law 8 RL (some .boolean) "law" G) (hX : va_X b L xs s s.heap) (hbl : b < s.heap.size) (hbA : ¬ G.2.2.1 b) {cells slots : Nat} (hcc : cells + 40 ≤ 601024) (hss : slots + 2000 ≤ 7293034) {K : Hp → Prop} {l4 : Int32} (kk : ∀ (S : Hp) (H : Heap) (locs : List Loc) (ls : Array Slot), wd G S H → va_S G.2.2.1 s.heap H locs → LV ls 8 → ls[0]? = some (.val (va_rf (some b))) → ls[1]? = some (.val (va_rf (some x))) → ls[2]? = some (.val (va_rf (some mm))) → ls[3]? = some (.val (va_rf (some out))) → ls[4]? = some (.val (.int l4)) → K S → W p l e room_1 s m args below meth c H locs (cells + 40) (slots + 2000) Qz (F0 m 1416 ls []))
    {S : Hp} {H : Heap} {locs : List Loc} {ls : Array Slot} (hW : wd G S H) (hS : va_S G.2.2.1 s.heap H locs) (hL : LV ls 8) (h0 : ls[0]? = some (.val (va_rf (some b)))) (h1 : ls[1]? = some (.val (va_rf (some x)))) (h2 : ls[2]? = some (.val (va_rf (some mm)))) (h3 : ls[3]? = some (.val (va_rf (some out)))) (h4 : ls[4]? = some (.val (.int l4))) (hw : wp_law_c21 S x mm out xs L l4 K) : W p l e room_1 s m args below meth c H locs cells slots Qz (F0 m 1019 ls []) := by
  unfold wp_law_c21 at hw
  refine m_aldN C dL_law_1019 rfl h1 ?_
  refine m_aldN C dL_law_1020 rfl h0 ?_
  refine lv_iload C.1 C.2.1 dL_law_1021 h4 ?_
  refine lv_iconst (v := 1) C.1 C.2.1 dL_law_1023 (by decide) ?_
  refine lv_iadd C.1 C.2.1 dL_law_1024 ?_
  obtain ⟨hi248, hw⟩ := hw
  refine va_sld C.1 C.2.1 hX hbl hbA hS hi248 dL_law_1025 ?_
  refine m_aldN C dL_law_1026 rfl h3 ?_
  refine m_rH (m_runH (As := [va_rf (some x), .int (xs ((l4 + 1) : Int32).toNatClampNeg), va_rf (some out)]) (rest := []) C hW hS hL (c_L_left hl hw) s_L_140 ⟨rfl, rfl⟩ ⟨Nat.le_of_ble_eq_true rfl, Nat.le_of_ble_eq_true rfl⟩ rfl rfl (Nat.le_of_ble_eq_true rfl) dL_law_1027 ⟨by show _ ≤ 601024; omega, by show _ ≤ 7293034; omega⟩) hS (fun r250 S249 H locs hw hW hS => ?_)
  refine m_ist C hL dL_law_1030 (by decide) (fun ls hL hn9 hk9 => ?_)
  have h0 := hk9 0 _ h0 (by decide) (Or.inl (by decide))
  have h1 := hk9 1 _ h1 (by decide) (Or.inl (by decide))
  have h2 := hk9 2 _ h2 (by decide) (Or.inl (by decide))
  have h3 := hk9 3 _ h3 (by decide) (Or.inl (by decide))
  have h4 := hk9 4 _ h4 (by decide) (Or.inr (rfl))
  have h5 := hn9
  refine m_aldN C dL_law_1032 rfl h2 ?_
  refine m_aldN C dL_law_1033 rfl h0 ?_
  refine lv_iload C.1 C.2.1 dL_law_1034 h4 ?_
  refine lv_iconst (v := 1) C.1 C.2.1 dL_law_1036 (by decide) ?_
  refine lv_iadd C.1 C.2.1 dL_law_1037 ?_
  obtain ⟨hi251, hw⟩ := hw
  refine va_sld C.1 C.2.1 hX hbl hbA hS hi251 dL_law_1038 ?_
  obtain ⟨hk252, hw⟩ := hw
  refine m_rL (m_runV (As := [.int (xs ((l4 + 1) : Int32).toNatClampNeg)]) (rest := []) C hW hS hL (c_X12_left hw) v_L_142 ⟨rfl, rfl⟩ ⟨Nat.le_of_ble_eq_true rfl, Nat.le_of_ble_eq_true rfl⟩ rfl hk252 rfl rfl (Nat.le_of_ble_eq_true rfl) dL_law_1039 ⟨by show _ ≤ 601024; omega, by show _ ≤ 7293034; omega⟩) hS (fun r254 S253 H locs hw hW hS => ?_)
  refine m_lst C hL dL_law_1042 (by decide) (fun ls hL hn9 hk9 => ?_)
  have h0 := hk9 0 _ h0 (by decide) (by decide) (Or.inl (by decide))
  have h1 := hk9 1 _ h1 (by decide) (by decide) (Or.inl (by decide))
  have h2 := hk9 2 _ h2 (by decide) (by decide) (Or.inl (by decide))
  have h3 := hk9 3 _ h3 (by decide) (by decide) (Or.inl (by decide))
  have h4 := hk9 4 _ h4 (by decide) (by decide) (Or.inl (by decide))
  have h5 := hk9 5 _ h5 (by decide) (by decide) (Or.inr (rfl))
  have h6 := hn9
  refine m_aldN C dL_law_1044 rfl h2 ?_
  obtain ⟨hk255, hw⟩ := hw
  refine m_rI (m_runV (As := []) (rest := []) C hW hS hL (c_X12_thrown hw) v_L_120 ⟨rfl, rfl⟩ ⟨Nat.le_of_ble_eq_true rfl, Nat.le_of_ble_eq_true rfl⟩ rfl hk255 rfl rfl (Nat.le_of_ble_eq_true rfl) dL_law_1045 ⟨by show _ ≤ 601024; omega, by show _ ≤ 7293034; omega⟩) hS (fun r257 S256 H locs hw hW hS => ?_)
  refine lv_iload C.1 C.2.1 dL_law_1048 h5 ?_
  refine lv_icmp_eq (tgt := 1055) C.1 C.2.1 dL_law_1050 (by decide) (fun hc258 => ?_) (fun hc258 => ?_)
  · have hw := hw.1 hc258
    refine lv_iload C.1 C.2.1 dL_law_1055 h5 ?_
    refine lv_if_ne (tgt := 1071) C.1 C.2.1 dL_law_1057 (by decide) (fun hc259 => ?_) (fun hc259 => ?_)
    · have hw := hw.2 hc259
      refine lv_goto (tgt := 1416) C.1 C.2.1 dL_law_1071 (by decide) ?_
      refine W.widen (k := cells + 40) (n := slots + 2000) (by omega) (by omega) ?_
      exact kk _ _ _ _ hW hS hL h0 h1 h2 h3 h4 hw
    · have hw := hw.1 hc259
      refine m_aldN C dL_law_1060 rfl h3 ?_
      refine lv_iconst (v := 0) C.1 C.2.1 dL_law_1061 (by decide) ?_
      obtain ⟨hk260, hw⟩ := hw
      obtain ⟨hi261, hw⟩ := hw
      refine m_lald C hW rfl hk260 hi261 dL_law_1062 ?_
      refine lv_lload C.1 C.2.1 dL_law_1063 h6 ?_
      refine W.lcmp C.1 C.2.1 dL_law_1065 ?_
      refine lv_if_eq (tgt := 1071) C.1 C.2.1 dL_law_1066 (by decide) (fun hc262 => ?_) (fun hc262 => ?_)
      · have hw := hw.1 ((q_eq _ _).mp hc262)
        refine lv_goto (tgt := 1416) C.1 C.2.1 dL_law_1071 (by decide) ?_
        refine W.widen (k := cells + 40) (n := slots + 2000) (by omega) (by omega) ?_
        exact kk _ _ _ _ hW hS hL h0 h1 h2 h3 h4 hw
      · have hw := hw.2 (fun z => hc262 ((q_eq _ _).mpr z))
        refine lv_iconst (v := 0) C.1 C.2.1 dL_law_1069 (by decide) ?_
        exact False.elim hw
  · have hw := hw.2 hc258
    refine lv_iconst (v := 0) C.1 C.2.1 dL_law_1053 (by decide) ?_
    exact False.elim hw
def wp_law_c22 (S : Hp) (x mm out : Nat) (xs : Nat → Int32) (L : Nat) (l4 : Int32) (K : Hp → Prop) : Prop := vp_in (l4 + 1) L ∧ wp_L_had S (some x) (xs ((l4 + 1) : Int32).toNatClampNeg) (some out) (fun r265 S264 => vp_in (l4 + 1) L ∧ hK S264 mm = 14 ∧ wp_X12_had S264 mm (xs ((l4 + 1) : Int32).toNatClampNeg) (fun r269 S268 => hK S268 mm = 14 ∧ wp_X12_thrown S268 mm (fun r272 S271 => (r272 = r265 → (r265 = 0 → hK S271 out = 16 ∧ vp_in 0 (hN S271 out) ∧ ((hJ S271 out (0 : Int32).toNatClampNeg) = ((r269 : Int32).toInt64) → K S271) ∧ (¬ ((hJ S271 out (0 : Int32).toNatClampNeg) = ((r269 : Int32).toInt64)) → False)) ∧ (¬ (r265 = 0) → K S271)) ∧ (¬ (r272 = r265) → False))))
set_option maxRecDepth 100000 in
set_option maxHeartbeats 4000000 in
theorem w_law_c22 {p : Program} {l : Launch} (hl : l.stackTraces = false) {e : Env} {s : State} {m : MethodId} {args : Array Value} {below : List Frame} {meth : Method} {c : Code} {G : GX} {Qz : State → Prop} {b L : Nat} {xs : Nat → Int32} {x mm out : Nat} (C : Cx p s m args meth c cL_law 8 RL (some .boolean) "law" G) (hX : va_X b L xs s s.heap) (hbl : b < s.heap.size) (hbA : ¬ G.2.2.1 b) {cells slots : Nat} (hcc : cells + 40 ≤ 601024) (hss : slots + 2000 ≤ 7293034) {K : Hp → Prop} {l4 : Int32} (kk : ∀ (S : Hp) (H : Heap) (locs : List Loc) (ls : Array Slot), wd G S H → va_S G.2.2.1 s.heap H locs → LV ls 8 → ls[0]? = some (.val (va_rf (some b))) → ls[1]? = some (.val (va_rf (some x))) → ls[2]? = some (.val (va_rf (some mm))) → ls[3]? = some (.val (va_rf (some out))) → ls[4]? = some (.val (.int l4)) → K S → W p l e room_1 s m args below meth c H locs (cells + 40) (slots + 2000) Qz (F0 m 1416 ls []))
    {S : Hp} {H : Heap} {locs : List Loc} {ls : Array Slot} (hW : wd G S H) (hS : va_S G.2.2.1 s.heap H locs) (hL : LV ls 8) (h0 : ls[0]? = some (.val (va_rf (some b)))) (h1 : ls[1]? = some (.val (va_rf (some x)))) (h2 : ls[2]? = some (.val (va_rf (some mm)))) (h3 : ls[3]? = some (.val (va_rf (some out)))) (h4 : ls[4]? = some (.val (.int l4))) (hw : wp_law_c22 S x mm out xs L l4 K) : W p l e room_1 s m args below meth c H locs cells slots Qz (F0 m 1074 ls []) := by
  unfold wp_law_c22 at hw
  refine m_aldN C dL_law_1074 rfl h1 ?_
  refine m_aldN C dL_law_1075 rfl h0 ?_
  refine lv_iload C.1 C.2.1 dL_law_1076 h4 ?_
  refine lv_iconst (v := 1) C.1 C.2.1 dL_law_1078 (by decide) ?_
  refine lv_iadd C.1 C.2.1 dL_law_1079 ?_
  obtain ⟨hi263, hw⟩ := hw
  refine va_sld C.1 C.2.1 hX hbl hbA hS hi263 dL_law_1080 ?_
  refine m_aldN C dL_law_1081 rfl h3 ?_
  refine m_rH (m_runH (As := [va_rf (some x), .int (xs ((l4 + 1) : Int32).toNatClampNeg), va_rf (some out)]) (rest := []) C hW hS hL (c_L_had hl hw) s_L_143 ⟨rfl, rfl⟩ ⟨Nat.le_of_ble_eq_true rfl, Nat.le_of_ble_eq_true rfl⟩ rfl rfl (Nat.le_of_ble_eq_true rfl) dL_law_1082 ⟨by show _ ≤ 601024; omega, by show _ ≤ 7293034; omega⟩) hS (fun r265 S264 H locs hw hW hS => ?_)
  refine m_ist C hL dL_law_1085 (by decide) (fun ls hL hn9 hk9 => ?_)
  have h0 := hk9 0 _ h0 (by decide) (Or.inl (by decide))
  have h1 := hk9 1 _ h1 (by decide) (Or.inl (by decide))
  have h2 := hk9 2 _ h2 (by decide) (Or.inl (by decide))
  have h3 := hk9 3 _ h3 (by decide) (Or.inl (by decide))
  have h4 := hk9 4 _ h4 (by decide) (Or.inr (rfl))
  have h5 := hn9
  refine m_aldN C dL_law_1087 rfl h2 ?_
  refine m_aldN C dL_law_1088 rfl h0 ?_
  refine lv_iload C.1 C.2.1 dL_law_1089 h4 ?_
  refine lv_iconst (v := 1) C.1 C.2.1 dL_law_1091 (by decide) ?_
  refine lv_iadd C.1 C.2.1 dL_law_1092 ?_
  obtain ⟨hi266, hw⟩ := hw
  refine va_sld C.1 C.2.1 hX hbl hbA hS hi266 dL_law_1093 ?_
  obtain ⟨hk267, hw⟩ := hw
  refine m_rI (m_runV (As := [.int (xs ((l4 + 1) : Int32).toNatClampNeg)]) (rest := []) C hW hS hL (c_X12_had hw) v_L_145 ⟨rfl, rfl⟩ ⟨Nat.le_of_ble_eq_true rfl, Nat.le_of_ble_eq_true rfl⟩ rfl hk267 rfl rfl (Nat.le_of_ble_eq_true rfl) dL_law_1094 ⟨by show _ ≤ 601024; omega, by show _ ≤ 7293034; omega⟩) hS (fun r269 S268 H locs hw hW hS => ?_)
  refine m_ist C hL dL_law_1097 (by decide) (fun ls hL hn9 hk9 => ?_)
  have h0 := hk9 0 _ h0 (by decide) (Or.inl (by decide))
  have h1 := hk9 1 _ h1 (by decide) (Or.inl (by decide))
  have h2 := hk9 2 _ h2 (by decide) (Or.inl (by decide))
  have h3 := hk9 3 _ h3 (by decide) (Or.inl (by decide))
  have h4 := hk9 4 _ h4 (by decide) (Or.inl (by decide))
  have h5 := hk9 5 _ h5 (by decide) (Or.inr (rfl))
  have h6 := hn9
  refine m_aldN C dL_law_1099 rfl h2 ?_
  obtain ⟨hk270, hw⟩ := hw
  refine m_rI (m_runV (As := []) (rest := []) C hW hS hL (c_X12_thrown hw) v_L_120 ⟨rfl, rfl⟩ ⟨Nat.le_of_ble_eq_true rfl, Nat.le_of_ble_eq_true rfl⟩ rfl hk270 rfl rfl (Nat.le_of_ble_eq_true rfl) dL_law_1100 ⟨by show _ ≤ 601024; omega, by show _ ≤ 7293034; omega⟩) hS (fun r272 S271 H locs hw hW hS => ?_)
  refine lv_iload C.1 C.2.1 dL_law_1103 h5 ?_
  refine lv_icmp_eq (tgt := 1110) C.1 C.2.1 dL_law_1105 (by decide) (fun hc273 => ?_) (fun hc273 => ?_)
  · have hw := hw.1 hc273
    refine lv_iload C.1 C.2.1 dL_law_1110 h5 ?_
    refine lv_if_ne (tgt := 1127) C.1 C.2.1 dL_law_1112 (by decide) (fun hc274 => ?_) (fun hc274 => ?_)
    · have hw := hw.2 hc274
      refine lv_goto (tgt := 1416) C.1 C.2.1 dL_law_1127 (by decide) ?_
      refine W.widen (k := cells + 40) (n := slots + 2000) (by omega) (by omega) ?_
      exact kk _ _ _ _ hW hS hL h0 h1 h2 h3 h4 hw
    · have hw := hw.1 hc274
      refine m_aldN C dL_law_1115 rfl h3 ?_
      refine lv_iconst (v := 0) C.1 C.2.1 dL_law_1116 (by decide) ?_
      obtain ⟨hk275, hw⟩ := hw
      obtain ⟨hi276, hw⟩ := hw
      refine m_lald C hW rfl hk275 hi276 dL_law_1117 ?_
      refine lv_iload C.1 C.2.1 dL_law_1118 h6 ?_
      refine lv_i2l (v := ((r269 : Int32).toInt64)) C.1 C.2.1 dL_law_1120 rfl ?_
      refine W.lcmp C.1 C.2.1 dL_law_1121 ?_
      refine lv_if_eq (tgt := 1127) C.1 C.2.1 dL_law_1122 (by decide) (fun hc277 => ?_) (fun hc277 => ?_)
      · have hw := hw.1 ((q_eq _ _).mp hc277)
        refine lv_goto (tgt := 1416) C.1 C.2.1 dL_law_1127 (by decide) ?_
        refine W.widen (k := cells + 40) (n := slots + 2000) (by omega) (by omega) ?_
        exact kk _ _ _ _ hW hS hL h0 h1 h2 h3 h4 hw
      · have hw := hw.2 (fun z => hc277 ((q_eq _ _).mpr z))
        refine lv_iconst (v := 0) C.1 C.2.1 dL_law_1125 (by decide) ?_
        exact False.elim hw
  · have hw := hw.2 hc273
    refine lv_iconst (v := 0) C.1 C.2.1 dL_law_1108 (by decide) ?_
    exact False.elim hw
def wp_law_c23 (S : Hp) (x mm out : Nat) (xs : Nat → Int32) (L : Nat) (l4 : Int32) (K : Hp → Prop) : Prop := vp_in (l4 + 1) L ∧ wp_L_idle S (some x) (xs ((l4 + 1) : Int32).toNatClampNeg) (some out) (fun r280 S279 => vp_in (l4 + 1) L ∧ hK S279 mm = 14 ∧ wp_X12_idle S279 mm (xs ((l4 + 1) : Int32).toNatClampNeg) (fun r284 S283 => hK S283 mm = 14 ∧ wp_X12_thrown S283 mm (fun r287 S286 => (r287 = r280 → (r280 = 0 → hK S286 out = 16 ∧ vp_in 0 (hN S286 out) ∧ ((hJ S286 out (0 : Int32).toNatClampNeg) = r284 → K S286) ∧ (¬ ((hJ S286 out (0 : Int32).toNatClampNeg) = r284) → False)) ∧ (¬ (r280 = 0) → K S286)) ∧ (¬ (r287 = r280) → False))))
set_option maxRecDepth 100000 in
set_option maxHeartbeats 4000000 in
theorem w_law_c23 {p : Program} {l : Launch} (hl : l.stackTraces = false) {e : Env} {s : State} {m : MethodId} {args : Array Value} {below : List Frame} {meth : Method} {c : Code} {G : GX} {Qz : State → Prop} {b L : Nat} {xs : Nat → Int32} {x mm out : Nat} (C : Cx p s m args meth c cL_law 8 RL (some .boolean) "law" G) (hX : va_X b L xs s s.heap) (hbl : b < s.heap.size) (hbA : ¬ G.2.2.1 b) {cells slots : Nat} (hcc : cells + 40 ≤ 601024) (hss : slots + 2000 ≤ 7293034) {K : Hp → Prop} {l4 : Int32} (kk : ∀ (S : Hp) (H : Heap) (locs : List Loc) (ls : Array Slot), wd G S H → va_S G.2.2.1 s.heap H locs → LV ls 8 → ls[0]? = some (.val (va_rf (some b))) → ls[1]? = some (.val (va_rf (some x))) → ls[2]? = some (.val (va_rf (some mm))) → ls[3]? = some (.val (va_rf (some out))) → ls[4]? = some (.val (.int l4)) → K S → W p l e room_1 s m args below meth c H locs (cells + 40) (slots + 2000) Qz (F0 m 1416 ls []))
    {S : Hp} {H : Heap} {locs : List Loc} {ls : Array Slot} (hW : wd G S H) (hS : va_S G.2.2.1 s.heap H locs) (hL : LV ls 8) (h0 : ls[0]? = some (.val (va_rf (some b)))) (h1 : ls[1]? = some (.val (va_rf (some x)))) (h2 : ls[2]? = some (.val (va_rf (some mm)))) (h3 : ls[3]? = some (.val (va_rf (some out)))) (h4 : ls[4]? = some (.val (.int l4))) (hw : wp_law_c23 S x mm out xs L l4 K) : W p l e room_1 s m args below meth c H locs cells slots Qz (F0 m 1130 ls []) := by
  unfold wp_law_c23 at hw
  refine m_aldN C dL_law_1130 rfl h1 ?_
  refine m_aldN C dL_law_1131 rfl h0 ?_
  refine lv_iload C.1 C.2.1 dL_law_1132 h4 ?_
  refine lv_iconst (v := 1) C.1 C.2.1 dL_law_1134 (by decide) ?_
  refine lv_iadd C.1 C.2.1 dL_law_1135 ?_
  obtain ⟨hi278, hw⟩ := hw
  refine va_sld C.1 C.2.1 hX hbl hbA hS hi278 dL_law_1136 ?_
  refine m_aldN C dL_law_1137 rfl h3 ?_
  refine m_rH (m_runH (As := [va_rf (some x), .int (xs ((l4 + 1) : Int32).toNatClampNeg), va_rf (some out)]) (rest := []) C hW hS hL (c_L_idle hl hw) s_L_146 ⟨rfl, rfl⟩ ⟨Nat.le_of_ble_eq_true rfl, Nat.le_of_ble_eq_true rfl⟩ rfl rfl (Nat.le_of_ble_eq_true rfl) dL_law_1138 ⟨by show _ ≤ 601024; omega, by show _ ≤ 7293034; omega⟩) hS (fun r280 S279 H locs hw hW hS => ?_)
  refine m_ist C hL dL_law_1141 (by decide) (fun ls hL hn9 hk9 => ?_)
  have h0 := hk9 0 _ h0 (by decide) (Or.inl (by decide))
  have h1 := hk9 1 _ h1 (by decide) (Or.inl (by decide))
  have h2 := hk9 2 _ h2 (by decide) (Or.inl (by decide))
  have h3 := hk9 3 _ h3 (by decide) (Or.inl (by decide))
  have h4 := hk9 4 _ h4 (by decide) (Or.inr (rfl))
  have h5 := hn9
  refine m_aldN C dL_law_1143 rfl h2 ?_
  refine m_aldN C dL_law_1144 rfl h0 ?_
  refine lv_iload C.1 C.2.1 dL_law_1145 h4 ?_
  refine lv_iconst (v := 1) C.1 C.2.1 dL_law_1147 (by decide) ?_
  refine lv_iadd C.1 C.2.1 dL_law_1148 ?_
  obtain ⟨hi281, hw⟩ := hw
  refine va_sld C.1 C.2.1 hX hbl hbA hS hi281 dL_law_1149 ?_
  obtain ⟨hk282, hw⟩ := hw
  refine m_rL (m_runV (As := [.int (xs ((l4 + 1) : Int32).toNatClampNeg)]) (rest := []) C hW hS hL (c_X12_idle hw) v_L_148 ⟨rfl, rfl⟩ ⟨Nat.le_of_ble_eq_true rfl, Nat.le_of_ble_eq_true rfl⟩ rfl hk282 rfl rfl (Nat.le_of_ble_eq_true rfl) dL_law_1150 ⟨by show _ ≤ 601024; omega, by show _ ≤ 7293034; omega⟩) hS (fun r284 S283 H locs hw hW hS => ?_)
  refine m_lst C hL dL_law_1153 (by decide) (fun ls hL hn9 hk9 => ?_)
  have h0 := hk9 0 _ h0 (by decide) (by decide) (Or.inl (by decide))
  have h1 := hk9 1 _ h1 (by decide) (by decide) (Or.inl (by decide))
  have h2 := hk9 2 _ h2 (by decide) (by decide) (Or.inl (by decide))
  have h3 := hk9 3 _ h3 (by decide) (by decide) (Or.inl (by decide))
  have h4 := hk9 4 _ h4 (by decide) (by decide) (Or.inl (by decide))
  have h5 := hk9 5 _ h5 (by decide) (by decide) (Or.inr (rfl))
  have h6 := hn9
  refine m_aldN C dL_law_1155 rfl h2 ?_
  obtain ⟨hk285, hw⟩ := hw
  refine m_rI (m_runV (As := []) (rest := []) C hW hS hL (c_X12_thrown hw) v_L_120 ⟨rfl, rfl⟩ ⟨Nat.le_of_ble_eq_true rfl, Nat.le_of_ble_eq_true rfl⟩ rfl hk285 rfl rfl (Nat.le_of_ble_eq_true rfl) dL_law_1156 ⟨by show _ ≤ 601024; omega, by show _ ≤ 7293034; omega⟩) hS (fun r287 S286 H locs hw hW hS => ?_)
  refine lv_iload C.1 C.2.1 dL_law_1159 h5 ?_
  refine lv_icmp_eq (tgt := 1166) C.1 C.2.1 dL_law_1161 (by decide) (fun hc288 => ?_) (fun hc288 => ?_)
  · have hw := hw.1 hc288
    refine lv_iload C.1 C.2.1 dL_law_1166 h5 ?_
    refine lv_if_ne (tgt := 1182) C.1 C.2.1 dL_law_1168 (by decide) (fun hc289 => ?_) (fun hc289 => ?_)
    · have hw := hw.2 hc289
      refine lv_goto (tgt := 1416) C.1 C.2.1 dL_law_1182 (by decide) ?_
      refine W.widen (k := cells + 40) (n := slots + 2000) (by omega) (by omega) ?_
      exact kk _ _ _ _ hW hS hL h0 h1 h2 h3 h4 hw
    · have hw := hw.1 hc289
      refine m_aldN C dL_law_1171 rfl h3 ?_
      refine lv_iconst (v := 0) C.1 C.2.1 dL_law_1172 (by decide) ?_
      obtain ⟨hk290, hw⟩ := hw
      obtain ⟨hi291, hw⟩ := hw
      refine m_lald C hW rfl hk290 hi291 dL_law_1173 ?_
      refine lv_lload C.1 C.2.1 dL_law_1174 h6 ?_
      refine W.lcmp C.1 C.2.1 dL_law_1176 ?_
      refine lv_if_eq (tgt := 1182) C.1 C.2.1 dL_law_1177 (by decide) (fun hc292 => ?_) (fun hc292 => ?_)
      · have hw := hw.1 ((q_eq _ _).mp hc292)
        refine lv_goto (tgt := 1416) C.1 C.2.1 dL_law_1182 (by decide) ?_
        refine W.widen (k := cells + 40) (n := slots + 2000) (by omega) (by omega) ?_
        exact kk _ _ _ _ hW hS hL h0 h1 h2 h3 h4 hw
      · have hw := hw.2 (fun z => hc292 ((q_eq _ _).mpr z))
        refine lv_iconst (v := 0) C.1 C.2.1 dL_law_1180 (by decide) ?_
        exact False.elim hw
  · have hw := hw.2 hc288
    refine lv_iconst (v := 0) C.1 C.2.1 dL_law_1164 (by decide) ?_
    exact False.elim hw
def wp_law_c24 (S : Hp) (x mm out : Nat) (xs : Nat → Int32) (L : Nat) (l4 : Int32) (K : Hp → Prop) : Prop := vp_in (l4 + 1) L ∧ vp_in (l4 + 2) L ∧ hK S x = 13 ∧ wp_X11_log S x (xs ((l4 + 1) : Int32).toNatClampNeg) (xs ((l4 + 2) : Int32).toNatClampNeg) (fun r297 S296 => vp_in (l4 + 1) L ∧ vp_in (l4 + 2) L ∧ hK S296 mm = 14 ∧ wp_X12_log S296 mm (xs ((l4 + 1) : Int32).toNatClampNeg) (xs ((l4 + 2) : Int32).toNatClampNeg) (fun r302 S301 => (r297 = r302 → K S301) ∧ (¬ (r297 = r302) → False)))
set_option maxRecDepth 100000 in
set_option maxHeartbeats 4000000 in
theorem w_law_c24 {p : Program} {l : Launch} (hl : l.stackTraces = false) {e : Env} {s : State} {m : MethodId} {args : Array Value} {below : List Frame} {meth : Method} {c : Code} {G : GX} {Qz : State → Prop} {b L : Nat} {xs : Nat → Int32} {x mm out : Nat} (C : Cx p s m args meth c cL_law 8 RL (some .boolean) "law" G) (hX : va_X b L xs s s.heap) (hbl : b < s.heap.size) (hbA : ¬ G.2.2.1 b) {cells slots : Nat} (hcc : cells + 40 ≤ 601024) (hss : slots + 2000 ≤ 7293034) {K : Hp → Prop} {l4 : Int32} (kk : ∀ (S : Hp) (H : Heap) (locs : List Loc) (ls : Array Slot), wd G S H → va_S G.2.2.1 s.heap H locs → LV ls 8 → ls[0]? = some (.val (va_rf (some b))) → ls[1]? = some (.val (va_rf (some x))) → ls[2]? = some (.val (va_rf (some mm))) → ls[3]? = some (.val (va_rf (some out))) → ls[4]? = some (.val (.int l4)) → K S → W p l e room_1 s m args below meth c H locs (cells + 40) (slots + 2000) Qz (F0 m 1416 ls []))
    {S : Hp} {H : Heap} {locs : List Loc} {ls : Array Slot} (hW : wd G S H) (hS : va_S G.2.2.1 s.heap H locs) (hL : LV ls 8) (h0 : ls[0]? = some (.val (va_rf (some b)))) (h1 : ls[1]? = some (.val (va_rf (some x)))) (h2 : ls[2]? = some (.val (va_rf (some mm)))) (h3 : ls[3]? = some (.val (va_rf (some out)))) (h4 : ls[4]? = some (.val (.int l4))) (hw : wp_law_c24 S x mm out xs L l4 K) : W p l e room_1 s m args below meth c H locs cells slots Qz (F0 m 1185 ls []) := by
  unfold wp_law_c24 at hw
  refine m_aldN C dL_law_1185 rfl h1 ?_
  refine m_aldN C dL_law_1186 rfl h0 ?_
  refine lv_iload C.1 C.2.1 dL_law_1187 h4 ?_
  refine lv_iconst (v := 1) C.1 C.2.1 dL_law_1189 (by decide) ?_
  refine lv_iadd C.1 C.2.1 dL_law_1190 ?_
  obtain ⟨hi293, hw⟩ := hw
  refine va_sld C.1 C.2.1 hX hbl hbA hS hi293 dL_law_1191 ?_
  refine m_aldN C dL_law_1192 rfl h0 ?_
  refine lv_iload C.1 C.2.1 dL_law_1193 h4 ?_
  refine lv_iconst (v := 2) C.1 C.2.1 dL_law_1195 (by decide) ?_
  refine lv_iadd C.1 C.2.1 dL_law_1196 ?_
  obtain ⟨hi294, hw⟩ := hw
  refine va_sld C.1 C.2.1 hX hbl hbA hS hi294 dL_law_1197 ?_
  obtain ⟨hk295, hw⟩ := hw
  refine m_rI (m_runV (As := [.int (xs ((l4 + 1) : Int32).toNatClampNeg), .int (xs ((l4 + 2) : Int32).toNatClampNeg)]) (rest := []) C hW hS hL (c_X11_log hw) v_L_149 ⟨rfl, rfl⟩ ⟨Nat.le_of_ble_eq_true rfl, Nat.le_of_ble_eq_true rfl⟩ rfl hk295 rfl rfl (Nat.le_of_ble_eq_true rfl) dL_law_1198 ⟨by show _ ≤ 601024; omega, by show _ ≤ 7293034; omega⟩) hS (fun r297 S296 H locs hw hW hS => ?_)
  refine m_aldN C dL_law_1201 rfl h2 ?_
  refine m_aldN C dL_law_1202 rfl h0 ?_
  refine lv_iload C.1 C.2.1 dL_law_1203 h4 ?_
  refine lv_iconst (v := 1) C.1 C.2.1 dL_law_1205 (by decide) ?_
  refine lv_iadd C.1 C.2.1 dL_law_1206 ?_
  obtain ⟨hi298, hw⟩ := hw
  refine va_sld C.1 C.2.1 hX hbl hbA hS hi298 dL_law_1207 ?_
  refine m_aldN C dL_law_1208 rfl h0 ?_
  refine lv_iload C.1 C.2.1 dL_law_1209 h4 ?_
  refine lv_iconst (v := 2) C.1 C.2.1 dL_law_1211 (by decide) ?_
  refine lv_iadd C.1 C.2.1 dL_law_1212 ?_
  obtain ⟨hi299, hw⟩ := hw
  refine va_sld C.1 C.2.1 hX hbl hbA hS hi299 dL_law_1213 ?_
  obtain ⟨hk300, hw⟩ := hw
  refine m_rI (m_runV (As := [.int (xs ((l4 + 1) : Int32).toNatClampNeg), .int (xs ((l4 + 2) : Int32).toNatClampNeg)]) (rest := [.int r297]) C hW hS hL (c_X12_log hw) v_L_152 ⟨rfl, rfl⟩ ⟨Nat.le_of_ble_eq_true rfl, Nat.le_of_ble_eq_true rfl⟩ rfl hk300 rfl rfl (Nat.le_of_ble_eq_true rfl) dL_law_1214 ⟨by show _ ≤ 601024; omega, by show _ ≤ 7293034; omega⟩) hS (fun r302 S301 H locs hw hW hS => ?_)
  refine lv_icmp_eq (tgt := 1416) C.1 C.2.1 dL_law_1217 (by decide) (fun hc303 => ?_) (fun hc303 => ?_)
  · have hw := hw.1 hc303
    refine W.widen (k := cells + 40) (n := slots + 2000) (by omega) (by omega) ?_
    exact kk _ _ _ _ hW hS hL h0 h1 h2 h3 h4 hw
  · have hw := hw.2 hc303
    refine lv_iconst (v := 0) C.1 C.2.1 dL_law_1220 (by decide) ?_
    exact False.elim hw
def wp_law_c25 (S : Hp) (x mm out : Nat) (xs : Nat → Int32) (L : Nat) (l4 : Int32) (K : Hp → Prop) : Prop := vp_in (l4 + 1) L ∧ hK S x = 13 ∧ wp_X11_critical S x (xs ((l4 + 1) : Int32).toNatClampNeg) (fun r307 S306 => vp_in (l4 + 1) L ∧ hK S306 mm = 14 ∧ wp_X12_critical S306 mm (xs ((l4 + 1) : Int32).toNatClampNeg) (fun r311 S310 => (r307 = r311 → K S310) ∧ (¬ (r307 = r311) → False)))
set_option maxRecDepth 100000 in
set_option maxHeartbeats 4000000 in
theorem w_law_c25 {p : Program} {l : Launch} (hl : l.stackTraces = false) {e : Env} {s : State} {m : MethodId} {args : Array Value} {below : List Frame} {meth : Method} {c : Code} {G : GX} {Qz : State → Prop} {b L : Nat} {xs : Nat → Int32} {x mm out : Nat} (C : Cx p s m args meth c cL_law 8 RL (some .boolean) "law" G) (hX : va_X b L xs s s.heap) (hbl : b < s.heap.size) (hbA : ¬ G.2.2.1 b) {cells slots : Nat} (hcc : cells + 40 ≤ 601024) (hss : slots + 2000 ≤ 7293034) {K : Hp → Prop} {l4 : Int32} (kk : ∀ (S : Hp) (H : Heap) (locs : List Loc) (ls : Array Slot), wd G S H → va_S G.2.2.1 s.heap H locs → LV ls 8 → ls[0]? = some (.val (va_rf (some b))) → ls[1]? = some (.val (va_rf (some x))) → ls[2]? = some (.val (va_rf (some mm))) → ls[3]? = some (.val (va_rf (some out))) → ls[4]? = some (.val (.int l4)) → K S → W p l e room_1 s m args below meth c H locs (cells + 40) (slots + 2000) Qz (F0 m 1416 ls []))
    {S : Hp} {H : Heap} {locs : List Loc} {ls : Array Slot} (hW : wd G S H) (hS : va_S G.2.2.1 s.heap H locs) (hL : LV ls 8) (h0 : ls[0]? = some (.val (va_rf (some b)))) (h1 : ls[1]? = some (.val (va_rf (some x)))) (h2 : ls[2]? = some (.val (va_rf (some mm)))) (h3 : ls[3]? = some (.val (va_rf (some out)))) (h4 : ls[4]? = some (.val (.int l4))) (hw : wp_law_c25 S x mm out xs L l4 K) : W p l e room_1 s m args below meth c H locs cells slots Qz (F0 m 1222 ls []) := by
  unfold wp_law_c25 at hw
  refine m_aldN C dL_law_1222 rfl h1 ?_
  refine m_aldN C dL_law_1223 rfl h0 ?_
  refine lv_iload C.1 C.2.1 dL_law_1224 h4 ?_
  refine lv_iconst (v := 1) C.1 C.2.1 dL_law_1226 (by decide) ?_
  refine lv_iadd C.1 C.2.1 dL_law_1227 ?_
  obtain ⟨hi304, hw⟩ := hw
  refine va_sld C.1 C.2.1 hX hbl hbA hS hi304 dL_law_1228 ?_
  obtain ⟨hk305, hw⟩ := hw
  refine m_rI (m_runV (As := [.int (xs ((l4 + 1) : Int32).toNatClampNeg)]) (rest := []) C hW hS hL (c_X11_critical hw) v_L_153 ⟨rfl, rfl⟩ ⟨Nat.le_of_ble_eq_true rfl, Nat.le_of_ble_eq_true rfl⟩ rfl hk305 rfl rfl (Nat.le_of_ble_eq_true rfl) dL_law_1229 ⟨by show _ ≤ 601024; omega, by show _ ≤ 7293034; omega⟩) hS (fun r307 S306 H locs hw hW hS => ?_)
  refine m_aldN C dL_law_1232 rfl h2 ?_
  refine m_aldN C dL_law_1233 rfl h0 ?_
  refine lv_iload C.1 C.2.1 dL_law_1234 h4 ?_
  refine lv_iconst (v := 1) C.1 C.2.1 dL_law_1236 (by decide) ?_
  refine lv_iadd C.1 C.2.1 dL_law_1237 ?_
  obtain ⟨hi308, hw⟩ := hw
  refine va_sld C.1 C.2.1 hX hbl hbA hS hi308 dL_law_1238 ?_
  obtain ⟨hk309, hw⟩ := hw
  refine m_rI (m_runV (As := [.int (xs ((l4 + 1) : Int32).toNatClampNeg)]) (rest := [.int r307]) C hW hS hL (c_X12_critical hw) v_L_156 ⟨rfl, rfl⟩ ⟨Nat.le_of_ble_eq_true rfl, Nat.le_of_ble_eq_true rfl⟩ rfl hk309 rfl rfl (Nat.le_of_ble_eq_true rfl) dL_law_1239 ⟨by show _ ≤ 601024; omega, by show _ ≤ 7293034; omega⟩) hS (fun r311 S310 H locs hw hW hS => ?_)
  refine lv_icmp_eq (tgt := 1416) C.1 C.2.1 dL_law_1242 (by decide) (fun hc312 => ?_) (fun hc312 => ?_)
  · have hw := hw.1 hc312
    refine W.widen (k := cells + 40) (n := slots + 2000) (by omega) (by omega) ?_
    exact kk _ _ _ _ hW hS hL h0 h1 h2 h3 h4 hw
  · have hw := hw.2 hc312
    refine lv_iconst (v := 0) C.1 C.2.1 dL_law_1245 (by decide) ?_
    exact False.elim hw
def wp_law_c26 (S : Hp) (x mm out : Nat) (xs : Nat → Int32) (L : Nat) (l4 : Int32) (K : Hp → Prop) : Prop := vp_in (l4 + 1) L ∧ wp_L_slack S (some x) (xs ((l4 + 1) : Int32).toNatClampNeg) (some out) (fun r315 S314 => vp_in (l4 + 1) L ∧ hK S314 mm = 14 ∧ wp_X12_slack S314 mm (xs ((l4 + 1) : Int32).toNatClampNeg) (fun r319 S318 => hK S318 mm = 14 ∧ wp_X12_thrown S318 mm (fun r322 S321 => (r322 = r315 → (r315 = 0 → hK S321 out = 16 ∧ vp_in 0 (hN S321 out) ∧ ((hJ S321 out (0 : Int32).toNatClampNeg) = ((r319 : Int32).toInt64) → K S321) ∧ (¬ ((hJ S321 out (0 : Int32).toNatClampNeg) = ((r319 : Int32).toInt64)) → False)) ∧ (¬ (r315 = 0) → K S321)) ∧ (¬ (r322 = r315) → False))))
set_option maxRecDepth 100000 in
set_option maxHeartbeats 4000000 in
theorem w_law_c26 {p : Program} {l : Launch} (hl : l.stackTraces = false) {e : Env} {s : State} {m : MethodId} {args : Array Value} {below : List Frame} {meth : Method} {c : Code} {G : GX} {Qz : State → Prop} {b L : Nat} {xs : Nat → Int32} {x mm out : Nat} (C : Cx p s m args meth c cL_law 8 RL (some .boolean) "law" G) (hX : va_X b L xs s s.heap) (hbl : b < s.heap.size) (hbA : ¬ G.2.2.1 b) {cells slots : Nat} (hcc : cells + 40 ≤ 601024) (hss : slots + 2000 ≤ 7293034) {K : Hp → Prop} {l4 : Int32} (kk : ∀ (S : Hp) (H : Heap) (locs : List Loc) (ls : Array Slot), wd G S H → va_S G.2.2.1 s.heap H locs → LV ls 8 → ls[0]? = some (.val (va_rf (some b))) → ls[1]? = some (.val (va_rf (some x))) → ls[2]? = some (.val (va_rf (some mm))) → ls[3]? = some (.val (va_rf (some out))) → ls[4]? = some (.val (.int l4)) → K S → W p l e room_1 s m args below meth c H locs (cells + 40) (slots + 2000) Qz (F0 m 1416 ls []))
    {S : Hp} {H : Heap} {locs : List Loc} {ls : Array Slot} (hW : wd G S H) (hS : va_S G.2.2.1 s.heap H locs) (hL : LV ls 8) (h0 : ls[0]? = some (.val (va_rf (some b)))) (h1 : ls[1]? = some (.val (va_rf (some x)))) (h2 : ls[2]? = some (.val (va_rf (some mm)))) (h3 : ls[3]? = some (.val (va_rf (some out)))) (h4 : ls[4]? = some (.val (.int l4))) (hw : wp_law_c26 S x mm out xs L l4 K) : W p l e room_1 s m args below meth c H locs cells slots Qz (F0 m 1247 ls []) := by
  unfold wp_law_c26 at hw
  refine m_aldN C dL_law_1247 rfl h1 ?_
  refine m_aldN C dL_law_1248 rfl h0 ?_
  refine lv_iload C.1 C.2.1 dL_law_1249 h4 ?_
  refine lv_iconst (v := 1) C.1 C.2.1 dL_law_1251 (by decide) ?_
  refine lv_iadd C.1 C.2.1 dL_law_1252 ?_
  obtain ⟨hi313, hw⟩ := hw
  refine va_sld C.1 C.2.1 hX hbl hbA hS hi313 dL_law_1253 ?_
  refine m_aldN C dL_law_1254 rfl h3 ?_
  refine m_rH (m_runH (As := [va_rf (some x), .int (xs ((l4 + 1) : Int32).toNatClampNeg), va_rf (some out)]) (rest := []) C hW hS hL (c_L_slack hl hw) s_L_157 ⟨rfl, rfl⟩ ⟨Nat.le_of_ble_eq_true rfl, Nat.le_of_ble_eq_true rfl⟩ rfl rfl (Nat.le_of_ble_eq_true rfl) dL_law_1255 ⟨by show _ ≤ 601024; omega, by show _ ≤ 7293034; omega⟩) hS (fun r315 S314 H locs hw hW hS => ?_)
  refine m_ist C hL dL_law_1258 (by decide) (fun ls hL hn9 hk9 => ?_)
  have h0 := hk9 0 _ h0 (by decide) (Or.inl (by decide))
  have h1 := hk9 1 _ h1 (by decide) (Or.inl (by decide))
  have h2 := hk9 2 _ h2 (by decide) (Or.inl (by decide))
  have h3 := hk9 3 _ h3 (by decide) (Or.inl (by decide))
  have h4 := hk9 4 _ h4 (by decide) (Or.inr (rfl))
  have h5 := hn9
  refine m_aldN C dL_law_1260 rfl h2 ?_
  refine m_aldN C dL_law_1261 rfl h0 ?_
  refine lv_iload C.1 C.2.1 dL_law_1262 h4 ?_
  refine lv_iconst (v := 1) C.1 C.2.1 dL_law_1264 (by decide) ?_
  refine lv_iadd C.1 C.2.1 dL_law_1265 ?_
  obtain ⟨hi316, hw⟩ := hw
  refine va_sld C.1 C.2.1 hX hbl hbA hS hi316 dL_law_1266 ?_
  obtain ⟨hk317, hw⟩ := hw
  refine m_rI (m_runV (As := [.int (xs ((l4 + 1) : Int32).toNatClampNeg)]) (rest := []) C hW hS hL (c_X12_slack hw) v_L_159 ⟨rfl, rfl⟩ ⟨Nat.le_of_ble_eq_true rfl, Nat.le_of_ble_eq_true rfl⟩ rfl hk317 rfl rfl (Nat.le_of_ble_eq_true rfl) dL_law_1267 ⟨by show _ ≤ 601024; omega, by show _ ≤ 7293034; omega⟩) hS (fun r319 S318 H locs hw hW hS => ?_)
  refine m_ist C hL dL_law_1270 (by decide) (fun ls hL hn9 hk9 => ?_)
  have h0 := hk9 0 _ h0 (by decide) (Or.inl (by decide))
  have h1 := hk9 1 _ h1 (by decide) (Or.inl (by decide))
  have h2 := hk9 2 _ h2 (by decide) (Or.inl (by decide))
  have h3 := hk9 3 _ h3 (by decide) (Or.inl (by decide))
  have h4 := hk9 4 _ h4 (by decide) (Or.inl (by decide))
  have h5 := hk9 5 _ h5 (by decide) (Or.inr (rfl))
  have h6 := hn9
  refine m_aldN C dL_law_1272 rfl h2 ?_
  obtain ⟨hk320, hw⟩ := hw
  refine m_rI (m_runV (As := []) (rest := []) C hW hS hL (c_X12_thrown hw) v_L_120 ⟨rfl, rfl⟩ ⟨Nat.le_of_ble_eq_true rfl, Nat.le_of_ble_eq_true rfl⟩ rfl hk320 rfl rfl (Nat.le_of_ble_eq_true rfl) dL_law_1273 ⟨by show _ ≤ 601024; omega, by show _ ≤ 7293034; omega⟩) hS (fun r322 S321 H locs hw hW hS => ?_)
  refine lv_iload C.1 C.2.1 dL_law_1276 h5 ?_
  refine lv_icmp_eq (tgt := 1283) C.1 C.2.1 dL_law_1278 (by decide) (fun hc323 => ?_) (fun hc323 => ?_)
  · have hw := hw.1 hc323
    refine lv_iload C.1 C.2.1 dL_law_1283 h5 ?_
    refine lv_if_ne (tgt := 1300) C.1 C.2.1 dL_law_1285 (by decide) (fun hc324 => ?_) (fun hc324 => ?_)
    · have hw := hw.2 hc324
      refine lv_goto (tgt := 1416) C.1 C.2.1 dL_law_1300 (by decide) ?_
      refine W.widen (k := cells + 40) (n := slots + 2000) (by omega) (by omega) ?_
      exact kk _ _ _ _ hW hS hL h0 h1 h2 h3 h4 hw
    · have hw := hw.1 hc324
      refine m_aldN C dL_law_1288 rfl h3 ?_
      refine lv_iconst (v := 0) C.1 C.2.1 dL_law_1289 (by decide) ?_
      obtain ⟨hk325, hw⟩ := hw
      obtain ⟨hi326, hw⟩ := hw
      refine m_lald C hW rfl hk325 hi326 dL_law_1290 ?_
      refine lv_iload C.1 C.2.1 dL_law_1291 h6 ?_
      refine lv_i2l (v := ((r319 : Int32).toInt64)) C.1 C.2.1 dL_law_1293 rfl ?_
      refine W.lcmp C.1 C.2.1 dL_law_1294 ?_
      refine lv_if_eq (tgt := 1300) C.1 C.2.1 dL_law_1295 (by decide) (fun hc327 => ?_) (fun hc327 => ?_)
      · have hw := hw.1 ((q_eq _ _).mp hc327)
        refine lv_goto (tgt := 1416) C.1 C.2.1 dL_law_1300 (by decide) ?_
        refine W.widen (k := cells + 40) (n := slots + 2000) (by omega) (by omega) ?_
        exact kk _ _ _ _ hW hS hL h0 h1 h2 h3 h4 hw
      · have hw := hw.2 (fun z => hc327 ((q_eq _ _).mpr z))
        refine lv_iconst (v := 0) C.1 C.2.1 dL_law_1298 (by decide) ?_
        exact False.elim hw
  · have hw := hw.2 hc323
    refine lv_iconst (v := 0) C.1 C.2.1 dL_law_1281 (by decide) ?_
    exact False.elim hw
def wp_law_c27 (S : Hp) (x mm out : Nat) (xs : Nat → Int32) (L : Nat) (l4 : Int32) (K : Hp → Prop) : Prop := vp_in (l4 + 1) L ∧ vp_in (l4 + 2) L ∧ wp_L_leans S (some x) (xs ((l4 + 1) : Int32).toNatClampNeg) (xs ((l4 + 2) : Int32).toNatClampNeg) (some out) (fun r331 S330 => vp_in (l4 + 1) L ∧ vp_in (l4 + 2) L ∧ hK S330 mm = 14 ∧ wp_X12_leans S330 mm (xs ((l4 + 1) : Int32).toNatClampNeg) (xs ((l4 + 2) : Int32).toNatClampNeg) (fun r336 S335 => hK S335 mm = 14 ∧ wp_X12_thrown S335 mm (fun r339 S338 => (r339 = r331 → (r331 = 0 → hK S338 out = 16 ∧ vp_in 0 (hN S338 out) ∧ (r336 = 0 → ((hJ S338 out (0 : Int32).toNatClampNeg) = 0 → K S338) ∧ (¬ ((hJ S338 out (0 : Int32).toNatClampNeg) = 0) → False)) ∧ (¬ (r336 = 0) → ((hJ S338 out (0 : Int32).toNatClampNeg) = 1 → K S338) ∧ (¬ ((hJ S338 out (0 : Int32).toNatClampNeg) = 1) → False))) ∧ (¬ (r331 = 0) → K S338)) ∧ (¬ (r339 = r331) → False))))
set_option maxRecDepth 100000 in
set_option maxHeartbeats 4000000 in
theorem w_law_c27 {p : Program} {l : Launch} (hl : l.stackTraces = false) {e : Env} {s : State} {m : MethodId} {args : Array Value} {below : List Frame} {meth : Method} {c : Code} {G : GX} {Qz : State → Prop} {b L : Nat} {xs : Nat → Int32} {x mm out : Nat} (C : Cx p s m args meth c cL_law 8 RL (some .boolean) "law" G) (hX : va_X b L xs s s.heap) (hbl : b < s.heap.size) (hbA : ¬ G.2.2.1 b) {cells slots : Nat} (hcc : cells + 40 ≤ 601024) (hss : slots + 2000 ≤ 7293034) {K : Hp → Prop} {l4 : Int32} (kk : ∀ (S : Hp) (H : Heap) (locs : List Loc) (ls : Array Slot), wd G S H → va_S G.2.2.1 s.heap H locs → LV ls 8 → ls[0]? = some (.val (va_rf (some b))) → ls[1]? = some (.val (va_rf (some x))) → ls[2]? = some (.val (va_rf (some mm))) → ls[3]? = some (.val (va_rf (some out))) → ls[4]? = some (.val (.int l4)) → K S → W p l e room_1 s m args below meth c H locs (cells + 40) (slots + 2000) Qz (F0 m 1416 ls []))
    {S : Hp} {H : Heap} {locs : List Loc} {ls : Array Slot} (hW : wd G S H) (hS : va_S G.2.2.1 s.heap H locs) (hL : LV ls 8) (h0 : ls[0]? = some (.val (va_rf (some b)))) (h1 : ls[1]? = some (.val (va_rf (some x)))) (h2 : ls[2]? = some (.val (va_rf (some mm)))) (h3 : ls[3]? = some (.val (va_rf (some out)))) (h4 : ls[4]? = some (.val (.int l4))) (hw : wp_law_c27 S x mm out xs L l4 K) : W p l e room_1 s m args below meth c H locs cells slots Qz (F0 m 1303 ls []) := by
  unfold wp_law_c27 at hw
  refine m_aldN C dL_law_1303 rfl h1 ?_
  refine m_aldN C dL_law_1304 rfl h0 ?_
  refine lv_iload C.1 C.2.1 dL_law_1305 h4 ?_
  refine lv_iconst (v := 1) C.1 C.2.1 dL_law_1307 (by decide) ?_
  refine lv_iadd C.1 C.2.1 dL_law_1308 ?_
  obtain ⟨hi328, hw⟩ := hw
  refine va_sld C.1 C.2.1 hX hbl hbA hS hi328 dL_law_1309 ?_
  refine m_aldN C dL_law_1310 rfl h0 ?_
  refine lv_iload C.1 C.2.1 dL_law_1311 h4 ?_
  refine lv_iconst (v := 2) C.1 C.2.1 dL_law_1313 (by decide) ?_
  refine lv_iadd C.1 C.2.1 dL_law_1314 ?_
  obtain ⟨hi329, hw⟩ := hw
  refine va_sld C.1 C.2.1 hX hbl hbA hS hi329 dL_law_1315 ?_
  refine m_aldN C dL_law_1316 rfl h3 ?_
  refine m_rH (m_runH (As := [va_rf (some x), .int (xs ((l4 + 1) : Int32).toNatClampNeg), .int (xs ((l4 + 2) : Int32).toNatClampNeg), va_rf (some out)]) (rest := []) C hW hS hL (c_L_leans hl hw) s_L_160 ⟨rfl, rfl⟩ ⟨Nat.le_of_ble_eq_true rfl, Nat.le_of_ble_eq_true rfl⟩ rfl rfl (Nat.le_of_ble_eq_true rfl) dL_law_1317 ⟨by show _ ≤ 601024; omega, by show _ ≤ 7293034; omega⟩) hS (fun r331 S330 H locs hw hW hS => ?_)
  refine m_ist C hL dL_law_1320 (by decide) (fun ls hL hn9 hk9 => ?_)
  have h0 := hk9 0 _ h0 (by decide) (Or.inl (by decide))
  have h1 := hk9 1 _ h1 (by decide) (Or.inl (by decide))
  have h2 := hk9 2 _ h2 (by decide) (Or.inl (by decide))
  have h3 := hk9 3 _ h3 (by decide) (Or.inl (by decide))
  have h4 := hk9 4 _ h4 (by decide) (Or.inr (rfl))
  have h5 := hn9
  refine m_aldN C dL_law_1322 rfl h2 ?_
  refine m_aldN C dL_law_1323 rfl h0 ?_
  refine lv_iload C.1 C.2.1 dL_law_1324 h4 ?_
  refine lv_iconst (v := 1) C.1 C.2.1 dL_law_1326 (by decide) ?_
  refine lv_iadd C.1 C.2.1 dL_law_1327 ?_
  obtain ⟨hi332, hw⟩ := hw
  refine va_sld C.1 C.2.1 hX hbl hbA hS hi332 dL_law_1328 ?_
  refine m_aldN C dL_law_1329 rfl h0 ?_
  refine lv_iload C.1 C.2.1 dL_law_1330 h4 ?_
  refine lv_iconst (v := 2) C.1 C.2.1 dL_law_1332 (by decide) ?_
  refine lv_iadd C.1 C.2.1 dL_law_1333 ?_
  obtain ⟨hi333, hw⟩ := hw
  refine va_sld C.1 C.2.1 hX hbl hbA hS hi333 dL_law_1334 ?_
  obtain ⟨hk334, hw⟩ := hw
  refine m_rI (m_runV (As := [.int (xs ((l4 + 1) : Int32).toNatClampNeg), .int (xs ((l4 + 2) : Int32).toNatClampNeg)]) (rest := []) C hW hS hL (c_X12_leans hw) v_L_162 ⟨rfl, rfl⟩ ⟨Nat.le_of_ble_eq_true rfl, Nat.le_of_ble_eq_true rfl⟩ rfl hk334 rfl rfl (Nat.le_of_ble_eq_true rfl) dL_law_1335 ⟨by show _ ≤ 601024; omega, by show _ ≤ 7293034; omega⟩) hS (fun r336 S335 H locs hw hW hS => ?_)
  refine m_ist C hL dL_law_1338 (by decide) (fun ls hL hn9 hk9 => ?_)
  have h0 := hk9 0 _ h0 (by decide) (Or.inl (by decide))
  have h1 := hk9 1 _ h1 (by decide) (Or.inl (by decide))
  have h2 := hk9 2 _ h2 (by decide) (Or.inl (by decide))
  have h3 := hk9 3 _ h3 (by decide) (Or.inl (by decide))
  have h4 := hk9 4 _ h4 (by decide) (Or.inl (by decide))
  have h5 := hk9 5 _ h5 (by decide) (Or.inr (rfl))
  have h6 := hn9
  refine m_aldN C dL_law_1340 rfl h2 ?_
  obtain ⟨hk337, hw⟩ := hw
  refine m_rI (m_runV (As := []) (rest := []) C hW hS hL (c_X12_thrown hw) v_L_120 ⟨rfl, rfl⟩ ⟨Nat.le_of_ble_eq_true rfl, Nat.le_of_ble_eq_true rfl⟩ rfl hk337 rfl rfl (Nat.le_of_ble_eq_true rfl) dL_law_1341 ⟨by show _ ≤ 601024; omega, by show _ ≤ 7293034; omega⟩) hS (fun r339 S338 H locs hw hW hS => ?_)
  refine lv_iload C.1 C.2.1 dL_law_1344 h5 ?_
  refine lv_icmp_eq (tgt := 1351) C.1 C.2.1 dL_law_1346 (by decide) (fun hc340 => ?_) (fun hc340 => ?_)
  · have hw := hw.1 hc340
    refine lv_iload C.1 C.2.1 dL_law_1351 h5 ?_
    refine lv_if_ne (tgt := 1375) C.1 C.2.1 dL_law_1353 (by decide) (fun hc341 => ?_) (fun hc341 => ?_)
    · have hw := hw.2 hc341
      refine lv_goto (tgt := 1416) C.1 C.2.1 dL_law_1375 (by decide) ?_
      refine W.widen (k := cells + 40) (n := slots + 2000) (by omega) (by omega) ?_
      exact kk _ _ _ _ hW hS hL h0 h1 h2 h3 h4 hw
    · have hw := hw.1 hc341
      refine m_aldN C dL_law_1356 rfl h3 ?_
      refine lv_iconst (v := 0) C.1 C.2.1 dL_law_1357 (by decide) ?_
      obtain ⟨hk342, hw⟩ := hw
      obtain ⟨hi343, hw⟩ := hw
      refine m_lald C hW rfl hk342 hi343 dL_law_1358 ?_
      refine lv_iload C.1 C.2.1 dL_law_1359 h6 ?_
      refine lv_if_eq (tgt := 1368) C.1 C.2.1 dL_law_1361 (by decide) (fun hc344 => ?_) (fun hc344 => ?_)
      · have hw := hw.1 hc344
        refine lv_lconst (v := 0) C.1 C.2.1 dL_law_1368 (by decide) ?_
        refine W.lcmp C.1 C.2.1 dL_law_1369 ?_
        refine lv_if_eq (tgt := 1375) C.1 C.2.1 dL_law_1370 (by decide) (fun hc345 => ?_) (fun hc345 => ?_)
        · have hw := hw.1 ((q_eq _ _).mp hc345)
          refine lv_goto (tgt := 1416) C.1 C.2.1 dL_law_1375 (by decide) ?_
          refine W.widen (k := cells + 40) (n := slots + 2000) (by omega) (by omega) ?_
          exact kk _ _ _ _ hW hS hL h0 h1 h2 h3 h4 hw
        · have hw := hw.2 (fun z => hc345 ((q_eq _ _).mpr z))
          refine lv_iconst (v := 0) C.1 C.2.1 dL_law_1373 (by decide) ?_
          exact False.elim hw
      · have hw := hw.2 hc344
        refine lv_lconst (v := 1) C.1 C.2.1 dL_law_1364 (by decide) ?_
        refine lv_goto (tgt := 1369) C.1 C.2.1 dL_law_1365 (by decide) ?_
        refine W.lcmp C.1 C.2.1 dL_law_1369 ?_
        refine lv_if_eq (tgt := 1375) C.1 C.2.1 dL_law_1370 (by decide) (fun hc346 => ?_) (fun hc346 => ?_)
        · have hw := hw.1 ((q_eq _ _).mp hc346)
          refine lv_goto (tgt := 1416) C.1 C.2.1 dL_law_1375 (by decide) ?_
          refine W.widen (k := cells + 40) (n := slots + 2000) (by omega) (by omega) ?_
          exact kk _ _ _ _ hW hS hL h0 h1 h2 h3 h4 hw
        · have hw := hw.2 (fun z => hc346 ((q_eq _ _).mpr z))
          refine lv_iconst (v := 0) C.1 C.2.1 dL_law_1373 (by decide) ?_
          exact False.elim hw
  · have hw := hw.2 hc340
    refine lv_iconst (v := 0) C.1 C.2.1 dL_law_1349 (by decide) ?_
    exact False.elim hw
def wp_law_c28 (S : Hp) (x mm out : Nat) (xs : Nat → Int32) (L : Nat) (l4 : Int32) (K : Hp → Prop) : Prop := hK S x = 13 ∧ wp_X11_audit S x (fun r349 S348 => hK S348 mm = 14 ∧ wp_X12_audit S348 mm (fun r352 S351 => (r349 = r352 → K S351) ∧ (¬ (r349 = r352) → False)))
set_option maxRecDepth 100000 in
set_option maxHeartbeats 4000000 in
theorem w_law_c28 {p : Program} {l : Launch} (hl : l.stackTraces = false) {e : Env} {s : State} {m : MethodId} {args : Array Value} {below : List Frame} {meth : Method} {c : Code} {G : GX} {Qz : State → Prop} {b L : Nat} {xs : Nat → Int32} {x mm out : Nat} (C : Cx p s m args meth c cL_law 8 RL (some .boolean) "law" G) (hX : va_X b L xs s s.heap) (hbl : b < s.heap.size) (hbA : ¬ G.2.2.1 b) {cells slots : Nat} (hcc : cells + 40 ≤ 601024) (hss : slots + 2000 ≤ 7293034) {K : Hp → Prop} {l4 : Int32} (kk : ∀ (S : Hp) (H : Heap) (locs : List Loc) (ls : Array Slot), wd G S H → va_S G.2.2.1 s.heap H locs → LV ls 8 → ls[0]? = some (.val (va_rf (some b))) → ls[1]? = some (.val (va_rf (some x))) → ls[2]? = some (.val (va_rf (some mm))) → ls[3]? = some (.val (va_rf (some out))) → ls[4]? = some (.val (.int l4)) → K S → W p l e room_1 s m args below meth c H locs (cells + 40) (slots + 2000) Qz (F0 m 1416 ls []))
    {S : Hp} {H : Heap} {locs : List Loc} {ls : Array Slot} (hW : wd G S H) (hS : va_S G.2.2.1 s.heap H locs) (hL : LV ls 8) (h0 : ls[0]? = some (.val (va_rf (some b)))) (h1 : ls[1]? = some (.val (va_rf (some x)))) (h2 : ls[2]? = some (.val (va_rf (some mm)))) (h3 : ls[3]? = some (.val (va_rf (some out)))) (h4 : ls[4]? = some (.val (.int l4))) (hw : wp_law_c28 S x mm out xs L l4 K) : W p l e room_1 s m args below meth c H locs cells slots Qz (F0 m 1378 ls []) := by
  unfold wp_law_c28 at hw
  refine m_aldN C dL_law_1378 rfl h1 ?_
  obtain ⟨hk347, hw⟩ := hw
  refine m_rI (m_runV (As := []) (rest := []) C hW hS hL (c_X11_audit hw) v_L_163 ⟨rfl, rfl⟩ ⟨Nat.le_of_ble_eq_true rfl, Nat.le_of_ble_eq_true rfl⟩ rfl hk347 rfl rfl (Nat.le_of_ble_eq_true rfl) dL_law_1379 ⟨by show _ ≤ 601024; omega, by show _ ≤ 7293034; omega⟩) hS (fun r349 S348 H locs hw hW hS => ?_)
  refine m_aldN C dL_law_1382 rfl h2 ?_
  obtain ⟨hk350, hw⟩ := hw
  refine m_rI (m_runV (As := []) (rest := [.int r349]) C hW hS hL (c_X12_audit hw) v_L_166 ⟨rfl, rfl⟩ ⟨Nat.le_of_ble_eq_true rfl, Nat.le_of_ble_eq_true rfl⟩ rfl hk350 rfl rfl (Nat.le_of_ble_eq_true rfl) dL_law_1383 ⟨by show _ ≤ 601024; omega, by show _ ≤ 7293034; omega⟩) hS (fun r352 S351 H locs hw hW hS => ?_)
  refine lv_icmp_eq (tgt := 1416) C.1 C.2.1 dL_law_1386 (by decide) (fun hc353 => ?_) (fun hc353 => ?_)
  · have hw := hw.1 hc353
    refine W.widen (k := cells + 40) (n := slots + 2000) (by omega) (by omega) ?_
    exact kk _ _ _ _ hW hS hL h0 h1 h2 h3 h4 hw
  · have hw := hw.2 hc353
    refine lv_iconst (v := 0) C.1 C.2.1 dL_law_1389 (by decide) ?_
    exact False.elim hw
def wp_law_c29 (S : Hp) (x mm out : Nat) (xs : Nat → Int32) (L : Nat) (l4 : Int32) (K : Hp → Prop) : Prop := vp_in (l4 + 1) L ∧ hK S x = 13 ∧ wp_X11_count S x (xs ((l4 + 1) : Int32).toNatClampNeg) (fun r357 S356 => vp_in (l4 + 1) L ∧ hK S356 mm = 14 ∧ wp_X12_count S356 mm (xs ((l4 + 1) : Int32).toNatClampNeg) (fun r361 S360 => (r357 = r361 → K S360) ∧ (¬ (r357 = r361) → False)))
set_option maxRecDepth 100000 in
set_option maxHeartbeats 4000000 in
theorem w_law_c29 {p : Program} {l : Launch} (hl : l.stackTraces = false) {e : Env} {s : State} {m : MethodId} {args : Array Value} {below : List Frame} {meth : Method} {c : Code} {G : GX} {Qz : State → Prop} {b L : Nat} {xs : Nat → Int32} {x mm out : Nat} (C : Cx p s m args meth c cL_law 8 RL (some .boolean) "law" G) (hX : va_X b L xs s s.heap) (hbl : b < s.heap.size) (hbA : ¬ G.2.2.1 b) {cells slots : Nat} (hcc : cells + 40 ≤ 601024) (hss : slots + 2000 ≤ 7293034) {K : Hp → Prop} {l4 : Int32} (kk : ∀ (S : Hp) (H : Heap) (locs : List Loc) (ls : Array Slot), wd G S H → va_S G.2.2.1 s.heap H locs → LV ls 8 → ls[0]? = some (.val (va_rf (some b))) → ls[1]? = some (.val (va_rf (some x))) → ls[2]? = some (.val (va_rf (some mm))) → ls[3]? = some (.val (va_rf (some out))) → ls[4]? = some (.val (.int l4)) → K S → W p l e room_1 s m args below meth c H locs (cells + 40) (slots + 2000) Qz (F0 m 1416 ls []))
    {S : Hp} {H : Heap} {locs : List Loc} {ls : Array Slot} (hW : wd G S H) (hS : va_S G.2.2.1 s.heap H locs) (hL : LV ls 8) (h0 : ls[0]? = some (.val (va_rf (some b)))) (h1 : ls[1]? = some (.val (va_rf (some x)))) (h2 : ls[2]? = some (.val (va_rf (some mm)))) (h3 : ls[3]? = some (.val (va_rf (some out)))) (h4 : ls[4]? = some (.val (.int l4))) (hw : wp_law_c29 S x mm out xs L l4 K) : W p l e room_1 s m args below meth c H locs cells slots Qz (F0 m 1391 ls []) := by
  unfold wp_law_c29 at hw
  refine m_aldN C dL_law_1391 rfl h1 ?_
  refine m_aldN C dL_law_1392 rfl h0 ?_
  refine lv_iload C.1 C.2.1 dL_law_1393 h4 ?_
  refine lv_iconst (v := 1) C.1 C.2.1 dL_law_1395 (by decide) ?_
  refine lv_iadd C.1 C.2.1 dL_law_1396 ?_
  obtain ⟨hi354, hw⟩ := hw
  refine va_sld C.1 C.2.1 hX hbl hbA hS hi354 dL_law_1397 ?_
  obtain ⟨hk355, hw⟩ := hw
  refine m_rI (m_runV (As := [.int (xs ((l4 + 1) : Int32).toNatClampNeg)]) (rest := []) C hW hS hL (c_X11_count hw) v_L_167 ⟨rfl, rfl⟩ ⟨Nat.le_of_ble_eq_true rfl, Nat.le_of_ble_eq_true rfl⟩ rfl hk355 rfl rfl (Nat.le_of_ble_eq_true rfl) dL_law_1398 ⟨by show _ ≤ 601024; omega, by show _ ≤ 7293034; omega⟩) hS (fun r357 S356 H locs hw hW hS => ?_)
  refine m_aldN C dL_law_1401 rfl h2 ?_
  refine m_aldN C dL_law_1402 rfl h0 ?_
  refine lv_iload C.1 C.2.1 dL_law_1403 h4 ?_
  refine lv_iconst (v := 1) C.1 C.2.1 dL_law_1405 (by decide) ?_
  refine lv_iadd C.1 C.2.1 dL_law_1406 ?_
  obtain ⟨hi358, hw⟩ := hw
  refine va_sld C.1 C.2.1 hX hbl hbA hS hi358 dL_law_1407 ?_
  obtain ⟨hk359, hw⟩ := hw
  refine m_rI (m_runV (As := [.int (xs ((l4 + 1) : Int32).toNatClampNeg)]) (rest := [.int r357]) C hW hS hL (c_X12_count hw) v_L_170 ⟨rfl, rfl⟩ ⟨Nat.le_of_ble_eq_true rfl, Nat.le_of_ble_eq_true rfl⟩ rfl hk359 rfl rfl (Nat.le_of_ble_eq_true rfl) dL_law_1408 ⟨by show _ ≤ 601024; omega, by show _ ≤ 7293034; omega⟩) hS (fun r361 S360 H locs hw hW hS => ?_)
  refine lv_icmp_eq (tgt := 1416) C.1 C.2.1 dL_law_1411 (by decide) (fun hc362 => ?_) (fun hc362 => ?_)
  · have hw := hw.1 hc362
    refine W.widen (k := cells + 40) (n := slots + 2000) (by omega) (by omega) ?_
    exact kk _ _ _ _ hW hS hL h0 h1 h2 h3 h4 hw
  · have hw := hw.2 hc362
    refine lv_iconst (v := 0) C.1 C.2.1 dL_law_1414 (by decide) ?_
    exact False.elim hw
