set_option maxHeartbeats 4000000 in
set_option maxRecDepth 100000 in
theorem k_add {l : Launch} (hlt : l.stackTraces = false) {D : va_G} {ay : Nat → ClassId} {ad am : Nat → Nat} {oa od : Nat} {p : Program} {e : Env} {s : State} {m : MethodId} {b L : Nat} {xs : Nat → Int32} {below : List Frame} {meth : Method} {c : Code} {Q : State → Prop} {sd : Nat → Nat} {rt : Option FieldType} (X : CX D ay p s m #[.ref b] meth c cL_law 9 RL rt wsL_law) (hX : va_X b L xs s s.heap) (hb : b < s.heap.size) (hA : LA s.heap.size ad am oa od) (hT : TX (fun q => s.heap.size ≤ q) sd s) {σ : Mem} {τ : Mem × Int64} {ov : Int64} {dv : UInt64} (R : Rel σ τ) {cells slots : Nat} (hc : cells + 1 ≤ 601024) (hs : slots + 6 ≤ 7293034) {i : Int32} (i1 : vp_in (i + 1) L) (i2 : vp_in (i + 2) L)
    (K : ∀ (σ' : Mem) (τ' : Mem × Int64) (ov' : Int64) (dv' : UInt64) (H : Heap), Rel σ' τ' → LH D ay ad am oa od s σ' τ' ov' dv' H → ∀ ls : Array Slot, lv_has ls 9 [(0, .ref b), (1, .ref (ad 0)), (2, .ref (am 0)), (3, .ref oa), (4, .ref od), (5, .int i)] → W p l e room_1 s m #[.ref b] below meth c H [] (cells + 1) (slots + 6) Q (F0 m 1549 ls []))
    {H : Heap} (hH : LH D ay ad am oa od s σ τ ov dv H) {ls : Array Slot} (hl : lv_has ls 9 [(0, .ref b), (1, .ref (ad 0)), (2, .ref (am 0)), (3, .ref oa), (4, .ref od), (5, .int i)]) : W p l e room_1 s m #[.ref b] below meth c H [] cells slots Q (F0 m 160 ls []) := by
  obtain ⟨kc, σ', ov', mc, v, τ', hmc, hMet, hM, h5, h0, hR⟩ := p_add (D := D) (ay := ay) (sd := sd) hlt hA.1 hA.2.2.2.2.2.2.2.1 R ov (xs (i + 1).toNatClampNeg) (xs (i + 2).toNatClampNeg)
  refine lv_aload_n X.x X.b dL_law_160 rfl (lv_at hl 1 rfl) ?_
  refine lv_aload_n X.x X.b dL_law_161 rfl (lv_at hl 0 rfl) ?_
  refine lv_iload X.x X.b dL_law_162 (lv_at hl 5 rfl) ?_
  refine lv_iconst (v := 1) X.x X.b dL_law_164 (by decide) ?_
  refine lv_iadd X.x X.b dL_law_165 ?_
  refine lc_sld X hX hb hH i1 dL_law_166 ?_
  refine lv_aload_n X.x X.b dL_law_167 rfl (lv_at hl 0 rfl) ?_
  refine lv_iload X.x X.b dL_law_168 (lv_at hl 5 rfl) ?_
  refine lv_iconst (v := 2) X.x X.b dL_law_170 (by decide) ?_
  refine lv_iadd X.x X.b dL_law_171 ?_
  refine lc_sld X hX hb hH i2 dL_law_172 ?_
  refine lv_aload_n X.x X.b dL_law_173 rfl (lv_at hl 3 rfl) ?_
  refine lc_W X hA hT hH (As := [.ref (ad 0), .int (xs (i + 1).toNatClampNeg), .int (xs (i + 2).toNatClampNeg), .ref oa]) (rest := []) hMet (vx_cwSW 4 X.ts gL_law_L_add rfl rfl rfl (by decide +kernel) ⟨Nat.le_of_ble_eq_true rfl, Nat.le_of_ble_eq_true rfl⟩) rfl hl.1 rfl (Nat.le_of_ble_eq_true rfl) dL_law_174 (show cells + mc ≤ 601024 by omega) (show slots + 6 * mc ≤ 7293034 by omega) (fun H hH => ?_)
  refine lv_istore (lv' := [(6, _), (0, _), (1, _), (2, _), (3, _), (4, _), (5, _)]) X.x X.b dL_law_177 hl (by decide) rfl (fun ls hl => ?_)
  refine lv_aload_n X.x X.b dL_law_179 rfl (lv_at hl 3 rfl) ?_
  refine lv_aload_n X.x X.b dL_law_180 rfl (lv_at hl 1 rfl) ?_
  refine lv_iload X.x X.b dL_law_181 (lv_at hl 6 rfl) ?_
  refine lv_iconst (v := 1) X.x X.b dL_law_183 (by decide) ?_
  refine lv_iadd X.x X.b dL_law_184 ?_
  refine lc_sld X hX hb hH i1 dL_law_185 ?_
  refine lv_aload_n X.x X.b dL_law_186 rfl (lv_at hl 1 rfl) ?_
  refine lv_iload X.x X.b dL_law_187 (lv_at hl 6 rfl) ?_
  refine lv_iconst (v := 2) X.x X.b dL_law_189 (by decide) ?_
  refine lv_iadd X.x X.b dL_law_190 ?_
  refine lc_sld X hX hb hH i2 dL_law_191 ?_
  refine lc_MiE X hA hH (As := [.int (xs (i + 1).toNatClampNeg), .int (xs (i + 2).toNatClampNeg)]) (rest := []) (c_X4_add hA.2.1 hM) (cwV 2 X.ts gL_law_X4_add rfl rfl rfl (by decide +kernel) ⟨Nat.le_of_ble_eq_true rfl, Nat.le_of_ble_eq_true rfl⟩) rfl hl.1 rfl (Nat.le_of_ble_eq_true rfl) dL_law_192 (show cells + mc ≤ 601024 by omega) (show slots + 6 * mc ≤ 7293034 by omega) (fun H hH => ?_)
  refine lv_istore (lv' := [(7, _), (6, _), (0, _), (1, _), (2, _), (3, _), (4, _), (5, _)]) X.x X.b dL_law_195 hl (by decide) rfl (fun ls hl => ?_)
  refine lv_aload_n X.x X.b dL_law_197 rfl (lv_at hl 4 rfl) ?_
  refine lc_MiP X hA hH (As := []) (rest := []) (c_X4_thrown hA.2.1 (res := τ'.1 0 5) rfl) (cwV 0 X.ts gL_law_X4_thrown rfl rfl rfl (by decide +kernel) ⟨Nat.le_of_ble_eq_true rfl, Nat.le_of_ble_eq_true rfl⟩) rfl hl.1 rfl (Nat.le_of_ble_eq_true rfl) dL_law_198 (show cells + mc ≤ 601024 by omega) (show slots + 6 * mc ≤ 7293034 by omega) (fun H hH => ?_)
  refine lv_iload X.x X.b dL_law_201 (lv_at hl 1 rfl) ?_
  refine lv_icmp_eq (tgt := 208) X.x X.b dL_law_203 (by decide) (fun _ => ?_) (fun q => (q h5).elim)
  refine lv_iload X.x X.b dL_law_208 (lv_at hl 1 rfl) ?_
  refine lv_if_ne (tgt := 225) X.x X.b dL_law_210 (by decide) (fun _ => ?_) (fun q => ?_)
  · refine lv_goto (tgt := 1549) X.x X.b dL_law_225 (by decide) ?_
    exact W.widen (by omega) (by omega) (K σ' τ' ov' dv H hR hH ls (lv_sub hl [2, 3, 4, 5, 6, 7] rfl))
  have h0 := h0 q
  refine lv_aload_n X.x X.b dL_law_213 rfl (lv_at hl 5 rfl) ?_
  refine lv_iconst (v := 0) X.x X.b dL_law_214 (by decide) ?_
  refine lc_lald X hH dL_law_215 ?_
  refine lv_iload X.x X.b dL_law_216 (lv_at hl 0 rfl) ?_
  refine lv_i2l X.x X.b dL_law_218 rfl ?_
  refine W.lcmp X.x X.b dL_law_219 ?_
  refine lv_if_eq (tgt := 225) X.x X.b dL_law_220 (by decide) (fun _ => ?_) (fun q => (q (lg_cmp_same h0)).elim)
  refine lv_goto (tgt := 1549) X.x X.b dL_law_225 (by decide) ?_
  exact W.widen (by omega) (by omega) (K σ' τ' ov' dv H hR hH ls (lv_sub hl [2, 3, 4, 5, 6, 7] rfl))
set_option maxHeartbeats 4000000 in
set_option maxRecDepth 100000 in
theorem k_remove {l : Launch} (hlt : l.stackTraces = false) {D : va_G} {ay : Nat → ClassId} {ad am : Nat → Nat} {oa od : Nat} {p : Program} {e : Env} {s : State} {m : MethodId} {b L : Nat} {xs : Nat → Int32} {below : List Frame} {meth : Method} {c : Code} {Q : State → Prop} {sd : Nat → Nat} {rt : Option FieldType} (X : CX D ay p s m #[.ref b] meth c cL_law 9 RL rt wsL_law) (hX : va_X b L xs s s.heap) (hb : b < s.heap.size) (hA : LA s.heap.size ad am oa od) (hT : TX (fun q => s.heap.size ≤ q) sd s) {σ : Mem} {τ : Mem × Int64} {ov : Int64} {dv : UInt64} (R : Rel σ τ) {cells slots : Nat} (hc : cells + 1 ≤ 601024) (hs : slots + 6 ≤ 7293034) {i : Int32} (i1 : vp_in (i + 1) L)
    (K : ∀ (σ' : Mem) (τ' : Mem × Int64) (ov' : Int64) (dv' : UInt64) (H : Heap), Rel σ' τ' → LH D ay ad am oa od s σ' τ' ov' dv' H → ∀ ls : Array Slot, lv_has ls 9 [(0, .ref b), (1, .ref (ad 0)), (2, .ref (am 0)), (3, .ref oa), (4, .ref od), (5, .int i)] → W p l e room_1 s m #[.ref b] below meth c H [] (cells + 1) (slots + 6) Q (F0 m 1549 ls []))
    {H : Heap} (hH : LH D ay ad am oa od s σ τ ov dv H) {ls : Array Slot} (hl : lv_has ls 9 [(0, .ref b), (1, .ref (ad 0)), (2, .ref (am 0)), (3, .ref oa), (4, .ref od), (5, .int i)]) : W p l e room_1 s m #[.ref b] below meth c H [] cells slots Q (F0 m 228 ls []) := by
  obtain ⟨kc, σ', ov', mc, v, τ', hmc, hMet, hM, h5, h0, hR⟩ := p_remove (D := D) (ay := ay) (sd := sd) hlt hA.1 hA.2.2.2.2.2.2.2.1 R ov (xs (i + 1).toNatClampNeg)
  refine lv_aload_n X.x X.b dL_law_228 rfl (lv_at hl 1 rfl) ?_
  refine lv_aload_n X.x X.b dL_law_229 rfl (lv_at hl 0 rfl) ?_
  refine lv_iload X.x X.b dL_law_230 (lv_at hl 5 rfl) ?_
  refine lv_iconst (v := 1) X.x X.b dL_law_232 (by decide) ?_
  refine lv_iadd X.x X.b dL_law_233 ?_
  refine lc_sld X hX hb hH i1 dL_law_234 ?_
  refine lv_aload_n X.x X.b dL_law_235 rfl (lv_at hl 3 rfl) ?_
  refine lc_W X hA hT hH (As := [.ref (ad 0), .int (xs (i + 1).toNatClampNeg), .ref oa]) (rest := []) hMet (vx_cwSW 3 X.ts gL_law_L_remove rfl rfl rfl (by decide +kernel) ⟨Nat.le_of_ble_eq_true rfl, Nat.le_of_ble_eq_true rfl⟩) rfl hl.1 rfl (Nat.le_of_ble_eq_true rfl) dL_law_236 (show cells + mc ≤ 601024 by omega) (show slots + 6 * mc ≤ 7293034 by omega) (fun H hH => ?_)
  refine lv_istore (lv' := [(6, _), (0, _), (1, _), (2, _), (3, _), (4, _), (5, _)]) X.x X.b dL_law_239 hl (by decide) rfl (fun ls hl => ?_)
  refine lv_aload_n X.x X.b dL_law_241 rfl (lv_at hl 3 rfl) ?_
  refine lv_aload_n X.x X.b dL_law_242 rfl (lv_at hl 1 rfl) ?_
  refine lv_iload X.x X.b dL_law_243 (lv_at hl 6 rfl) ?_
  refine lv_iconst (v := 1) X.x X.b dL_law_245 (by decide) ?_
  refine lv_iadd X.x X.b dL_law_246 ?_
  refine lc_sld X hX hb hH i1 dL_law_247 ?_
  refine lc_MiE X hA hH (As := [.int (xs (i + 1).toNatClampNeg)]) (rest := []) (c_X4_remove hA.2.1 hM) (cwV 1 X.ts gL_law_X4_remove rfl rfl rfl (by decide +kernel) ⟨Nat.le_of_ble_eq_true rfl, Nat.le_of_ble_eq_true rfl⟩) rfl hl.1 rfl (Nat.le_of_ble_eq_true rfl) dL_law_248 (show cells + mc ≤ 601024 by omega) (show slots + 6 * mc ≤ 7293034 by omega) (fun H hH => ?_)
  refine lv_istore (lv' := [(7, _), (6, _), (0, _), (1, _), (2, _), (3, _), (4, _), (5, _)]) X.x X.b dL_law_251 hl (by decide) rfl (fun ls hl => ?_)
  refine lv_aload_n X.x X.b dL_law_253 rfl (lv_at hl 4 rfl) ?_
  refine lc_MiP X hA hH (As := []) (rest := []) (c_X4_thrown hA.2.1 (res := τ'.1 0 5) rfl) (cwV 0 X.ts gL_law_X4_thrown rfl rfl rfl (by decide +kernel) ⟨Nat.le_of_ble_eq_true rfl, Nat.le_of_ble_eq_true rfl⟩) rfl hl.1 rfl (Nat.le_of_ble_eq_true rfl) dL_law_254 (show cells + mc ≤ 601024 by omega) (show slots + 6 * mc ≤ 7293034 by omega) (fun H hH => ?_)
  refine lv_iload X.x X.b dL_law_257 (lv_at hl 1 rfl) ?_
  refine lv_icmp_eq (tgt := 264) X.x X.b dL_law_259 (by decide) (fun _ => ?_) (fun q => (q h5).elim)
  refine lv_iload X.x X.b dL_law_264 (lv_at hl 1 rfl) ?_
  refine lv_if_ne (tgt := 281) X.x X.b dL_law_266 (by decide) (fun _ => ?_) (fun q => ?_)
  · refine lv_goto (tgt := 1549) X.x X.b dL_law_281 (by decide) ?_
    exact W.widen (by omega) (by omega) (K σ' τ' ov' dv H hR hH ls (lv_sub hl [2, 3, 4, 5, 6, 7] rfl))
  have h0 := h0 q
  refine lv_aload_n X.x X.b dL_law_269 rfl (lv_at hl 5 rfl) ?_
  refine lv_iconst (v := 0) X.x X.b dL_law_270 (by decide) ?_
  refine lc_lald X hH dL_law_271 ?_
  refine lv_iload X.x X.b dL_law_272 (lv_at hl 0 rfl) ?_
  refine lv_i2l X.x X.b dL_law_274 rfl ?_
  refine W.lcmp X.x X.b dL_law_275 ?_
  refine lv_if_eq (tgt := 281) X.x X.b dL_law_276 (by decide) (fun _ => ?_) (fun q => (q (lg_cmp_same h0)).elim)
  refine lv_goto (tgt := 1549) X.x X.b dL_law_281 (by decide) ?_
  exact W.widen (by omega) (by omega) (K σ' τ' ov' dv H hR hH ls (lv_sub hl [2, 3, 4, 5, 6, 7] rfl))
set_option maxHeartbeats 4000000 in
set_option maxRecDepth 100000 in
theorem k_speed {l : Launch} (hlt : l.stackTraces = false) {D : va_G} {ay : Nat → ClassId} {ad am : Nat → Nat} {oa od : Nat} {p : Program} {e : Env} {s : State} {m : MethodId} {b L : Nat} {xs : Nat → Int32} {below : List Frame} {meth : Method} {c : Code} {Q : State → Prop} {sd : Nat → Nat} {rt : Option FieldType} (X : CX D ay p s m #[.ref b] meth c cL_law 9 RL rt wsL_law) (hX : va_X b L xs s s.heap) (hb : b < s.heap.size) (hA : LA s.heap.size ad am oa od) (hT : TX (fun q => s.heap.size ≤ q) sd s) {σ : Mem} {τ : Mem × Int64} {ov : Int64} {dv : UInt64} (R : Rel σ τ) {cells slots : Nat} (hc : cells + 1 ≤ 601024) (hs : slots + 6 ≤ 7293034) {i : Int32} (i1 : vp_in (i + 1) L) (i2 : vp_in (i + 2) L)
    (K : ∀ (σ' : Mem) (τ' : Mem × Int64) (ov' : Int64) (dv' : UInt64) (H : Heap), Rel σ' τ' → LH D ay ad am oa od s σ' τ' ov' dv' H → ∀ ls : Array Slot, lv_has ls 9 [(0, .ref b), (1, .ref (ad 0)), (2, .ref (am 0)), (3, .ref oa), (4, .ref od), (5, .int i)] → W p l e room_1 s m #[.ref b] below meth c H [] (cells + 1) (slots + 6) Q (F0 m 1549 ls []))
    {H : Heap} (hH : LH D ay ad am oa od s σ τ ov dv H) {ls : Array Slot} (hl : lv_has ls 9 [(0, .ref b), (1, .ref (ad 0)), (2, .ref (am 0)), (3, .ref oa), (4, .ref od), (5, .int i)]) : W p l e room_1 s m #[.ref b] below meth c H [] cells slots Q (F0 m 284 ls []) := by
  obtain ⟨kc, σ', ov', mc, v, τ', hmc, hMet, hM, h5, h0, hR⟩ := p_speed (D := D) (ay := ay) (sd := sd) hlt hA.1 hA.2.2.2.2.2.2.2.1 R ov (xs (i + 1).toNatClampNeg) (xs (i + 2).toNatClampNeg)
  refine lv_aload_n X.x X.b dL_law_284 rfl (lv_at hl 1 rfl) ?_
  refine lv_aload_n X.x X.b dL_law_285 rfl (lv_at hl 0 rfl) ?_
  refine lv_iload X.x X.b dL_law_286 (lv_at hl 5 rfl) ?_
  refine lv_iconst (v := 1) X.x X.b dL_law_288 (by decide) ?_
  refine lv_iadd X.x X.b dL_law_289 ?_
  refine lc_sld X hX hb hH i1 dL_law_290 ?_
  refine lv_aload_n X.x X.b dL_law_291 rfl (lv_at hl 0 rfl) ?_
  refine lv_iload X.x X.b dL_law_292 (lv_at hl 5 rfl) ?_
  refine lv_iconst (v := 2) X.x X.b dL_law_294 (by decide) ?_
  refine lv_iadd X.x X.b dL_law_295 ?_
  refine lc_sld X hX hb hH i2 dL_law_296 ?_
  refine lv_aload_n X.x X.b dL_law_297 rfl (lv_at hl 3 rfl) ?_
  refine lc_W X hA hT hH (As := [.ref (ad 0), .int (xs (i + 1).toNatClampNeg), .int (xs (i + 2).toNatClampNeg), .ref oa]) (rest := []) hMet (vx_cwSW 4 X.ts gL_law_L_speed rfl rfl rfl (by decide +kernel) ⟨Nat.le_of_ble_eq_true rfl, Nat.le_of_ble_eq_true rfl⟩) rfl hl.1 rfl (Nat.le_of_ble_eq_true rfl) dL_law_298 (show cells + mc ≤ 601024 by omega) (show slots + 6 * mc ≤ 7293034 by omega) (fun H hH => ?_)
  refine lv_istore (lv' := [(6, _), (0, _), (1, _), (2, _), (3, _), (4, _), (5, _)]) X.x X.b dL_law_301 hl (by decide) rfl (fun ls hl => ?_)
  refine lv_aload_n X.x X.b dL_law_303 rfl (lv_at hl 3 rfl) ?_
  refine lv_aload_n X.x X.b dL_law_304 rfl (lv_at hl 1 rfl) ?_
  refine lv_iload X.x X.b dL_law_305 (lv_at hl 6 rfl) ?_
  refine lv_iconst (v := 1) X.x X.b dL_law_307 (by decide) ?_
  refine lv_iadd X.x X.b dL_law_308 ?_
  refine lc_sld X hX hb hH i1 dL_law_309 ?_
  refine lv_aload_n X.x X.b dL_law_310 rfl (lv_at hl 1 rfl) ?_
  refine lv_iload X.x X.b dL_law_311 (lv_at hl 6 rfl) ?_
  refine lv_iconst (v := 2) X.x X.b dL_law_313 (by decide) ?_
  refine lv_iadd X.x X.b dL_law_314 ?_
  refine lc_sld X hX hb hH i2 dL_law_315 ?_
  refine lc_MiE X hA hH (As := [.int (xs (i + 1).toNatClampNeg), .int (xs (i + 2).toNatClampNeg)]) (rest := []) (c_X4_speed hA.2.1 hM) (cwV 2 X.ts gL_law_X4_speed rfl rfl rfl (by decide +kernel) ⟨Nat.le_of_ble_eq_true rfl, Nat.le_of_ble_eq_true rfl⟩) rfl hl.1 rfl (Nat.le_of_ble_eq_true rfl) dL_law_316 (show cells + mc ≤ 601024 by omega) (show slots + 6 * mc ≤ 7293034 by omega) (fun H hH => ?_)
  refine lv_istore (lv' := [(7, _), (6, _), (0, _), (1, _), (2, _), (3, _), (4, _), (5, _)]) X.x X.b dL_law_319 hl (by decide) rfl (fun ls hl => ?_)
  refine lv_aload_n X.x X.b dL_law_321 rfl (lv_at hl 4 rfl) ?_
  refine lc_MiP X hA hH (As := []) (rest := []) (c_X4_thrown hA.2.1 (res := τ'.1 0 5) rfl) (cwV 0 X.ts gL_law_X4_thrown rfl rfl rfl (by decide +kernel) ⟨Nat.le_of_ble_eq_true rfl, Nat.le_of_ble_eq_true rfl⟩) rfl hl.1 rfl (Nat.le_of_ble_eq_true rfl) dL_law_322 (show cells + mc ≤ 601024 by omega) (show slots + 6 * mc ≤ 7293034 by omega) (fun H hH => ?_)
  refine lv_iload X.x X.b dL_law_325 (lv_at hl 1 rfl) ?_
  refine lv_icmp_eq (tgt := 332) X.x X.b dL_law_327 (by decide) (fun _ => ?_) (fun q => (q h5).elim)
  refine lv_iload X.x X.b dL_law_332 (lv_at hl 1 rfl) ?_
  refine lv_if_ne (tgt := 349) X.x X.b dL_law_334 (by decide) (fun _ => ?_) (fun q => ?_)
  · refine lv_goto (tgt := 1549) X.x X.b dL_law_349 (by decide) ?_
    exact W.widen (by omega) (by omega) (K σ' τ' ov' dv H hR hH ls (lv_sub hl [2, 3, 4, 5, 6, 7] rfl))
  have h0 := h0 q
  refine lv_aload_n X.x X.b dL_law_337 rfl (lv_at hl 5 rfl) ?_
  refine lv_iconst (v := 0) X.x X.b dL_law_338 (by decide) ?_
  refine lc_lald X hH dL_law_339 ?_
  refine lv_iload X.x X.b dL_law_340 (lv_at hl 0 rfl) ?_
  refine lv_i2l X.x X.b dL_law_342 rfl ?_
  refine W.lcmp X.x X.b dL_law_343 ?_
  refine lv_if_eq (tgt := 349) X.x X.b dL_law_344 (by decide) (fun _ => ?_) (fun q => (q (lg_cmp_same h0)).elim)
  refine lv_goto (tgt := 1549) X.x X.b dL_law_349 (by decide) ?_
  exact W.widen (by omega) (by omega) (K σ' τ' ov' dv H hR hH ls (lv_sub hl [2, 3, 4, 5, 6, 7] rfl))
set_option maxHeartbeats 4000000 in
set_option maxRecDepth 100000 in
theorem k_jump {l : Launch} (hlt : l.stackTraces = false) {D : va_G} {ay : Nat → ClassId} {ad am : Nat → Nat} {oa od : Nat} {p : Program} {e : Env} {s : State} {m : MethodId} {b L : Nat} {xs : Nat → Int32} {below : List Frame} {meth : Method} {c : Code} {Q : State → Prop} {sd : Nat → Nat} {rt : Option FieldType} (X : CX D ay p s m #[.ref b] meth c cL_law 9 RL rt wsL_law) (hX : va_X b L xs s s.heap) (hb : b < s.heap.size) (hA : LA s.heap.size ad am oa od) (hT : TX (fun q => s.heap.size ≤ q) sd s) {σ : Mem} {τ : Mem × Int64} {ov : Int64} {dv : UInt64} (R : Rel σ τ) {cells slots : Nat} (hc : cells + 1 ≤ 601024) (hs : slots + 6 ≤ 7293034) {i : Int32} (i1 : vp_in (i + 1) L) (i2 : vp_in (i + 2) L)
    (K : ∀ (σ' : Mem) (τ' : Mem × Int64) (ov' : Int64) (dv' : UInt64) (H : Heap), Rel σ' τ' → LH D ay ad am oa od s σ' τ' ov' dv' H → ∀ ls : Array Slot, lv_has ls 9 [(0, .ref b), (1, .ref (ad 0)), (2, .ref (am 0)), (3, .ref oa), (4, .ref od), (5, .int i)] → W p l e room_1 s m #[.ref b] below meth c H [] (cells + 1) (slots + 6) Q (F0 m 1549 ls []))
    {H : Heap} (hH : LH D ay ad am oa od s σ τ ov dv H) {ls : Array Slot} (hl : lv_has ls 9 [(0, .ref b), (1, .ref (ad 0)), (2, .ref (am 0)), (3, .ref oa), (4, .ref od), (5, .int i)]) : W p l e room_1 s m #[.ref b] below meth c H [] cells slots Q (F0 m 352 ls []) := by
  obtain ⟨kc, σ', ov', mc, v, τ', hmc, hMet, hM, h5, h0, hR⟩ := p_jump (D := D) (ay := ay) (sd := sd) hlt hA.1 hA.2.2.2.2.2.2.2.1 R ov (xs (i + 1).toNatClampNeg) (xs (i + 2).toNatClampNeg)
  refine lv_aload_n X.x X.b dL_law_352 rfl (lv_at hl 1 rfl) ?_
  refine lv_aload_n X.x X.b dL_law_353 rfl (lv_at hl 0 rfl) ?_
  refine lv_iload X.x X.b dL_law_354 (lv_at hl 5 rfl) ?_
  refine lv_iconst (v := 1) X.x X.b dL_law_356 (by decide) ?_
  refine lv_iadd X.x X.b dL_law_357 ?_
  refine lc_sld X hX hb hH i1 dL_law_358 ?_
  refine lv_aload_n X.x X.b dL_law_359 rfl (lv_at hl 0 rfl) ?_
  refine lv_iload X.x X.b dL_law_360 (lv_at hl 5 rfl) ?_
  refine lv_iconst (v := 2) X.x X.b dL_law_362 (by decide) ?_
  refine lv_iadd X.x X.b dL_law_363 ?_
  refine lc_sld X hX hb hH i2 dL_law_364 ?_
  refine lv_aload_n X.x X.b dL_law_365 rfl (lv_at hl 3 rfl) ?_
  refine lc_W X hA hT hH (As := [.ref (ad 0), .int (xs (i + 1).toNatClampNeg), .int (xs (i + 2).toNatClampNeg), .ref oa]) (rest := []) hMet (vx_cwSW 4 X.ts gL_law_L_jump rfl rfl rfl (by decide +kernel) ⟨Nat.le_of_ble_eq_true rfl, Nat.le_of_ble_eq_true rfl⟩) rfl hl.1 rfl (Nat.le_of_ble_eq_true rfl) dL_law_366 (show cells + mc ≤ 601024 by omega) (show slots + 6 * mc ≤ 7293034 by omega) (fun H hH => ?_)
  refine lv_istore (lv' := [(6, _), (0, _), (1, _), (2, _), (3, _), (4, _), (5, _)]) X.x X.b dL_law_369 hl (by decide) rfl (fun ls hl => ?_)
  refine lv_aload_n X.x X.b dL_law_371 rfl (lv_at hl 3 rfl) ?_
  refine lv_aload_n X.x X.b dL_law_372 rfl (lv_at hl 1 rfl) ?_
  refine lv_iload X.x X.b dL_law_373 (lv_at hl 6 rfl) ?_
  refine lv_iconst (v := 1) X.x X.b dL_law_375 (by decide) ?_
  refine lv_iadd X.x X.b dL_law_376 ?_
  refine lc_sld X hX hb hH i1 dL_law_377 ?_
  refine lv_aload_n X.x X.b dL_law_378 rfl (lv_at hl 1 rfl) ?_
  refine lv_iload X.x X.b dL_law_379 (lv_at hl 6 rfl) ?_
  refine lv_iconst (v := 2) X.x X.b dL_law_381 (by decide) ?_
  refine lv_iadd X.x X.b dL_law_382 ?_
  refine lc_sld X hX hb hH i2 dL_law_383 ?_
  refine lc_MiE X hA hH (As := [.int (xs (i + 1).toNatClampNeg), .int (xs (i + 2).toNatClampNeg)]) (rest := []) (c_X4_jump hA.2.1 hM) (cwV 2 X.ts gL_law_X4_jump rfl rfl rfl (by decide +kernel) ⟨Nat.le_of_ble_eq_true rfl, Nat.le_of_ble_eq_true rfl⟩) rfl hl.1 rfl (Nat.le_of_ble_eq_true rfl) dL_law_384 (show cells + mc ≤ 601024 by omega) (show slots + 6 * mc ≤ 7293034 by omega) (fun H hH => ?_)
  refine lv_istore (lv' := [(7, _), (6, _), (0, _), (1, _), (2, _), (3, _), (4, _), (5, _)]) X.x X.b dL_law_387 hl (by decide) rfl (fun ls hl => ?_)
  refine lv_aload_n X.x X.b dL_law_389 rfl (lv_at hl 4 rfl) ?_
  refine lc_MiP X hA hH (As := []) (rest := []) (c_X4_thrown hA.2.1 (res := τ'.1 0 5) rfl) (cwV 0 X.ts gL_law_X4_thrown rfl rfl rfl (by decide +kernel) ⟨Nat.le_of_ble_eq_true rfl, Nat.le_of_ble_eq_true rfl⟩) rfl hl.1 rfl (Nat.le_of_ble_eq_true rfl) dL_law_390 (show cells + mc ≤ 601024 by omega) (show slots + 6 * mc ≤ 7293034 by omega) (fun H hH => ?_)
  refine lv_iload X.x X.b dL_law_393 (lv_at hl 1 rfl) ?_
  refine lv_icmp_eq (tgt := 400) X.x X.b dL_law_395 (by decide) (fun _ => ?_) (fun q => (q h5).elim)
  refine lv_iload X.x X.b dL_law_400 (lv_at hl 1 rfl) ?_
  refine lv_if_ne (tgt := 417) X.x X.b dL_law_402 (by decide) (fun _ => ?_) (fun q => ?_)
  · refine lv_goto (tgt := 1549) X.x X.b dL_law_417 (by decide) ?_
    exact W.widen (by omega) (by omega) (K σ' τ' ov' dv H hR hH ls (lv_sub hl [2, 3, 4, 5, 6, 7] rfl))
  have h0 := h0 q
  refine lv_aload_n X.x X.b dL_law_405 rfl (lv_at hl 5 rfl) ?_
  refine lv_iconst (v := 0) X.x X.b dL_law_406 (by decide) ?_
  refine lc_lald X hH dL_law_407 ?_
  refine lv_iload X.x X.b dL_law_408 (lv_at hl 0 rfl) ?_
  refine lv_i2l X.x X.b dL_law_410 rfl ?_
  refine W.lcmp X.x X.b dL_law_411 ?_
  refine lv_if_eq (tgt := 417) X.x X.b dL_law_412 (by decide) (fun _ => ?_) (fun q => (q (lg_cmp_same h0)).elim)
  refine lv_goto (tgt := 1549) X.x X.b dL_law_417 (by decide) ?_
  exact W.widen (by omega) (by omega) (K σ' τ' ov' dv H hR hH ls (lv_sub hl [2, 3, 4, 5, 6, 7] rfl))
set_option maxHeartbeats 4000000 in
set_option maxRecDepth 100000 in
theorem k_swap {l : Launch} (hlt : l.stackTraces = false) {D : va_G} {ay : Nat → ClassId} {ad am : Nat → Nat} {oa od : Nat} {p : Program} {e : Env} {s : State} {m : MethodId} {b L : Nat} {xs : Nat → Int32} {below : List Frame} {meth : Method} {c : Code} {Q : State → Prop} {sd : Nat → Nat} {rt : Option FieldType} (X : CX D ay p s m #[.ref b] meth c cL_law 9 RL rt wsL_law) (hX : va_X b L xs s s.heap) (hb : b < s.heap.size) (hA : LA s.heap.size ad am oa od) (hT : TX (fun q => s.heap.size ≤ q) sd s) {σ : Mem} {τ : Mem × Int64} {ov : Int64} {dv : UInt64} (R : Rel σ τ) {cells slots : Nat} (hc : cells + 1 ≤ 601024) (hs : slots + 6 ≤ 7293034) {i : Int32} (i1 : vp_in (i + 1) L) (i2 : vp_in (i + 2) L)
    (K : ∀ (σ' : Mem) (τ' : Mem × Int64) (ov' : Int64) (dv' : UInt64) (H : Heap), Rel σ' τ' → LH D ay ad am oa od s σ' τ' ov' dv' H → ∀ ls : Array Slot, lv_has ls 9 [(0, .ref b), (1, .ref (ad 0)), (2, .ref (am 0)), (3, .ref oa), (4, .ref od), (5, .int i)] → W p l e room_1 s m #[.ref b] below meth c H [] (cells + 1) (slots + 6) Q (F0 m 1549 ls []))
    {H : Heap} (hH : LH D ay ad am oa od s σ τ ov dv H) {ls : Array Slot} (hl : lv_has ls 9 [(0, .ref b), (1, .ref (ad 0)), (2, .ref (am 0)), (3, .ref oa), (4, .ref od), (5, .int i)]) : W p l e room_1 s m #[.ref b] below meth c H [] cells slots Q (F0 m 420 ls []) := by
  obtain ⟨kc, σ', ov', mc, v, τ', hmc, hMet, hM, h5, h0, hR⟩ := p_swap (D := D) (ay := ay) (sd := sd) hlt hA.1 hA.2.2.2.2.2.2.2.1 R ov (xs (i + 1).toNatClampNeg) (xs (i + 2).toNatClampNeg)
  refine lv_aload_n X.x X.b dL_law_420 rfl (lv_at hl 1 rfl) ?_
  refine lv_aload_n X.x X.b dL_law_421 rfl (lv_at hl 0 rfl) ?_
  refine lv_iload X.x X.b dL_law_422 (lv_at hl 5 rfl) ?_
  refine lv_iconst (v := 1) X.x X.b dL_law_424 (by decide) ?_
  refine lv_iadd X.x X.b dL_law_425 ?_
  refine lc_sld X hX hb hH i1 dL_law_426 ?_
  refine lv_aload_n X.x X.b dL_law_427 rfl (lv_at hl 0 rfl) ?_
  refine lv_iload X.x X.b dL_law_428 (lv_at hl 5 rfl) ?_
  refine lv_iconst (v := 2) X.x X.b dL_law_430 (by decide) ?_
  refine lv_iadd X.x X.b dL_law_431 ?_
  refine lc_sld X hX hb hH i2 dL_law_432 ?_
  refine lv_aload_n X.x X.b dL_law_433 rfl (lv_at hl 3 rfl) ?_
  refine lc_W X hA hT hH (As := [.ref (ad 0), .int (xs (i + 1).toNatClampNeg), .int (xs (i + 2).toNatClampNeg), .ref oa]) (rest := []) hMet (vx_cwSW 4 X.ts gL_law_L_swap rfl rfl rfl (by decide +kernel) ⟨Nat.le_of_ble_eq_true rfl, Nat.le_of_ble_eq_true rfl⟩) rfl hl.1 rfl (Nat.le_of_ble_eq_true rfl) dL_law_434 (show cells + mc ≤ 601024 by omega) (show slots + 6 * mc ≤ 7293034 by omega) (fun H hH => ?_)
  refine lv_istore (lv' := [(6, _), (0, _), (1, _), (2, _), (3, _), (4, _), (5, _)]) X.x X.b dL_law_437 hl (by decide) rfl (fun ls hl => ?_)
  refine lv_aload_n X.x X.b dL_law_439 rfl (lv_at hl 3 rfl) ?_
  refine lv_aload_n X.x X.b dL_law_440 rfl (lv_at hl 1 rfl) ?_
  refine lv_iload X.x X.b dL_law_441 (lv_at hl 6 rfl) ?_
  refine lv_iconst (v := 1) X.x X.b dL_law_443 (by decide) ?_
  refine lv_iadd X.x X.b dL_law_444 ?_
  refine lc_sld X hX hb hH i1 dL_law_445 ?_
  refine lv_aload_n X.x X.b dL_law_446 rfl (lv_at hl 1 rfl) ?_
  refine lv_iload X.x X.b dL_law_447 (lv_at hl 6 rfl) ?_
  refine lv_iconst (v := 2) X.x X.b dL_law_449 (by decide) ?_
  refine lv_iadd X.x X.b dL_law_450 ?_
  refine lc_sld X hX hb hH i2 dL_law_451 ?_
  refine lc_MiE X hA hH (As := [.int (xs (i + 1).toNatClampNeg), .int (xs (i + 2).toNatClampNeg)]) (rest := []) (c_X4_swap hA.2.1 hM) (cwV 2 X.ts gL_law_X4_swap rfl rfl rfl (by decide +kernel) ⟨Nat.le_of_ble_eq_true rfl, Nat.le_of_ble_eq_true rfl⟩) rfl hl.1 rfl (Nat.le_of_ble_eq_true rfl) dL_law_452 (show cells + mc ≤ 601024 by omega) (show slots + 6 * mc ≤ 7293034 by omega) (fun H hH => ?_)
  refine lv_istore (lv' := [(7, _), (6, _), (0, _), (1, _), (2, _), (3, _), (4, _), (5, _)]) X.x X.b dL_law_455 hl (by decide) rfl (fun ls hl => ?_)
  refine lv_aload_n X.x X.b dL_law_457 rfl (lv_at hl 4 rfl) ?_
  refine lc_MiP X hA hH (As := []) (rest := []) (c_X4_thrown hA.2.1 (res := τ'.1 0 5) rfl) (cwV 0 X.ts gL_law_X4_thrown rfl rfl rfl (by decide +kernel) ⟨Nat.le_of_ble_eq_true rfl, Nat.le_of_ble_eq_true rfl⟩) rfl hl.1 rfl (Nat.le_of_ble_eq_true rfl) dL_law_458 (show cells + mc ≤ 601024 by omega) (show slots + 6 * mc ≤ 7293034 by omega) (fun H hH => ?_)
  refine lv_iload X.x X.b dL_law_461 (lv_at hl 1 rfl) ?_
  refine lv_icmp_eq (tgt := 468) X.x X.b dL_law_463 (by decide) (fun _ => ?_) (fun q => (q h5).elim)
  refine lv_iload X.x X.b dL_law_468 (lv_at hl 1 rfl) ?_
  refine lv_if_ne (tgt := 485) X.x X.b dL_law_470 (by decide) (fun _ => ?_) (fun q => ?_)
  · refine lv_goto (tgt := 1549) X.x X.b dL_law_485 (by decide) ?_
    exact W.widen (by omega) (by omega) (K σ' τ' ov' dv H hR hH ls (lv_sub hl [2, 3, 4, 5, 6, 7] rfl))
  have h0 := h0 q
  refine lv_aload_n X.x X.b dL_law_473 rfl (lv_at hl 5 rfl) ?_
  refine lv_iconst (v := 0) X.x X.b dL_law_474 (by decide) ?_
  refine lc_lald X hH dL_law_475 ?_
  refine lv_iload X.x X.b dL_law_476 (lv_at hl 0 rfl) ?_
  refine lv_i2l X.x X.b dL_law_478 rfl ?_
  refine W.lcmp X.x X.b dL_law_479 ?_
  refine lv_if_eq (tgt := 485) X.x X.b dL_law_480 (by decide) (fun _ => ?_) (fun q => (q (lg_cmp_same h0)).elim)
  refine lv_goto (tgt := 1549) X.x X.b dL_law_485 (by decide) ?_
  exact W.widen (by omega) (by omega) (K σ' τ' ov' dv H hR hH ls (lv_sub hl [2, 3, 4, 5, 6, 7] rfl))
set_option maxHeartbeats 4000000 in
set_option maxRecDepth 100000 in
theorem k_pass {l : Launch} (hlt : l.stackTraces = false) {D : va_G} {ay : Nat → ClassId} {ad am : Nat → Nat} {oa od : Nat} {p : Program} {e : Env} {s : State} {m : MethodId} {b L : Nat} {xs : Nat → Int32} {below : List Frame} {meth : Method} {c : Code} {Q : State → Prop} {sd : Nat → Nat} {rt : Option FieldType} (X : CX D ay p s m #[.ref b] meth c cL_law 9 RL rt wsL_law) (hX : va_X b L xs s s.heap) (hb : b < s.heap.size) (hA : LA s.heap.size ad am oa od) (hT : TX (fun q => s.heap.size ≤ q) sd s) {σ : Mem} {τ : Mem × Int64} {ov : Int64} {dv : UInt64} (R : Rel σ τ) {cells slots : Nat} (hc : cells + 1 ≤ 601024) (hs : slots + 6 ≤ 7293034) {i : Int32} (i1 : vp_in (i + 1) L)
    (K : ∀ (σ' : Mem) (τ' : Mem × Int64) (ov' : Int64) (dv' : UInt64) (H : Heap), Rel σ' τ' → LH D ay ad am oa od s σ' τ' ov' dv' H → ∀ ls : Array Slot, lv_has ls 9 [(0, .ref b), (1, .ref (ad 0)), (2, .ref (am 0)), (3, .ref oa), (4, .ref od), (5, .int i)] → W p l e room_1 s m #[.ref b] below meth c H [] (cells + 1) (slots + 6) Q (F0 m 1549 ls []))
    {H : Heap} (hH : LH D ay ad am oa od s σ τ ov dv H) {ls : Array Slot} (hl : lv_has ls 9 [(0, .ref b), (1, .ref (ad 0)), (2, .ref (am 0)), (3, .ref oa), (4, .ref od), (5, .int i)]) : W p l e room_1 s m #[.ref b] below meth c H [] cells slots Q (F0 m 488 ls []) := by
  obtain ⟨kc, σ', ov', mc, v, τ', hmc, hMet, hM, h5, h0, hR⟩ := p_pass (D := D) (ay := ay) (sd := sd) hlt hA.1 hA.2.2.2.2.2.2.2.1 R ov (xs (i + 1).toNatClampNeg)
  refine lv_aload_n X.x X.b dL_law_488 rfl (lv_at hl 1 rfl) ?_
  refine lv_aload_n X.x X.b dL_law_489 rfl (lv_at hl 0 rfl) ?_
  refine lv_iload X.x X.b dL_law_490 (lv_at hl 5 rfl) ?_
  refine lv_iconst (v := 1) X.x X.b dL_law_492 (by decide) ?_
  refine lv_iadd X.x X.b dL_law_493 ?_
  refine lc_sld X hX hb hH i1 dL_law_494 ?_
  refine lv_aload_n X.x X.b dL_law_495 rfl (lv_at hl 3 rfl) ?_
  refine lc_W X hA hT hH (As := [.ref (ad 0), .int (xs (i + 1).toNatClampNeg), .ref oa]) (rest := []) hMet (vx_cwSW 3 X.ts gL_law_L_pass rfl rfl rfl (by decide +kernel) ⟨Nat.le_of_ble_eq_true rfl, Nat.le_of_ble_eq_true rfl⟩) rfl hl.1 rfl (Nat.le_of_ble_eq_true rfl) dL_law_496 (show cells + mc ≤ 601024 by omega) (show slots + 6 * mc ≤ 7293034 by omega) (fun H hH => ?_)
  refine lv_istore (lv' := [(6, _), (0, _), (1, _), (2, _), (3, _), (4, _), (5, _)]) X.x X.b dL_law_499 hl (by decide) rfl (fun ls hl => ?_)
  refine lv_aload_n X.x X.b dL_law_501 rfl (lv_at hl 3 rfl) ?_
  refine lv_aload_n X.x X.b dL_law_502 rfl (lv_at hl 1 rfl) ?_
  refine lv_iload X.x X.b dL_law_503 (lv_at hl 6 rfl) ?_
  refine lv_iconst (v := 1) X.x X.b dL_law_505 (by decide) ?_
  refine lv_iadd X.x X.b dL_law_506 ?_
  refine lc_sld X hX hb hH i1 dL_law_507 ?_
  refine lc_MiE X hA hH (As := [.int (xs (i + 1).toNatClampNeg)]) (rest := []) (c_X4_pass hA.2.1 hM) (cwV 1 X.ts gL_law_X4_pass rfl rfl rfl (by decide +kernel) ⟨Nat.le_of_ble_eq_true rfl, Nat.le_of_ble_eq_true rfl⟩) rfl hl.1 rfl (Nat.le_of_ble_eq_true rfl) dL_law_508 (show cells + mc ≤ 601024 by omega) (show slots + 6 * mc ≤ 7293034 by omega) (fun H hH => ?_)
  refine lv_istore (lv' := [(7, _), (6, _), (0, _), (1, _), (2, _), (3, _), (4, _), (5, _)]) X.x X.b dL_law_511 hl (by decide) rfl (fun ls hl => ?_)
  refine lv_aload_n X.x X.b dL_law_513 rfl (lv_at hl 4 rfl) ?_
  refine lc_MiP X hA hH (As := []) (rest := []) (c_X4_thrown hA.2.1 (res := τ'.1 0 5) rfl) (cwV 0 X.ts gL_law_X4_thrown rfl rfl rfl (by decide +kernel) ⟨Nat.le_of_ble_eq_true rfl, Nat.le_of_ble_eq_true rfl⟩) rfl hl.1 rfl (Nat.le_of_ble_eq_true rfl) dL_law_514 (show cells + mc ≤ 601024 by omega) (show slots + 6 * mc ≤ 7293034 by omega) (fun H hH => ?_)
  refine lv_iload X.x X.b dL_law_517 (lv_at hl 1 rfl) ?_
  refine lv_icmp_eq (tgt := 524) X.x X.b dL_law_519 (by decide) (fun _ => ?_) (fun q => (q h5).elim)
  refine lv_iload X.x X.b dL_law_524 (lv_at hl 1 rfl) ?_
  refine lv_if_ne (tgt := 541) X.x X.b dL_law_526 (by decide) (fun _ => ?_) (fun q => ?_)
  · refine lv_goto (tgt := 1549) X.x X.b dL_law_541 (by decide) ?_
    exact W.widen (by omega) (by omega) (K σ' τ' ov' dv H hR hH ls (lv_sub hl [2, 3, 4, 5, 6, 7] rfl))
  have h0 := h0 q
  refine lv_aload_n X.x X.b dL_law_529 rfl (lv_at hl 5 rfl) ?_
  refine lv_iconst (v := 0) X.x X.b dL_law_530 (by decide) ?_
  refine lc_lald X hH dL_law_531 ?_
  refine lv_iload X.x X.b dL_law_532 (lv_at hl 0 rfl) ?_
  refine lv_i2l X.x X.b dL_law_534 rfl ?_
  refine W.lcmp X.x X.b dL_law_535 ?_
  refine lv_if_eq (tgt := 541) X.x X.b dL_law_536 (by decide) (fun _ => ?_) (fun q => (q (lg_cmp_same h0)).elim)
  refine lv_goto (tgt := 1549) X.x X.b dL_law_541 (by decide) ?_
  exact W.widen (by omega) (by omega) (K σ' τ' ov' dv H hR hH ls (lv_sub hl [2, 3, 4, 5, 6, 7] rfl))
set_option maxHeartbeats 4000000 in
set_option maxRecDepth 100000 in
theorem k_passToTurn {l : Launch} (hlt : l.stackTraces = false) {D : va_G} {ay : Nat → ClassId} {ad am : Nat → Nat} {oa od : Nat} {p : Program} {e : Env} {s : State} {m : MethodId} {b L : Nat} {xs : Nat → Int32} {below : List Frame} {meth : Method} {c : Code} {Q : State → Prop} {sd : Nat → Nat} {rt : Option FieldType} (X : CX D ay p s m #[.ref b] meth c cL_law 9 RL rt wsL_law) (hX : va_X b L xs s s.heap) (hb : b < s.heap.size) (hA : LA s.heap.size ad am oa od) (hT : TX (fun q => s.heap.size ≤ q) sd s) {σ : Mem} {τ : Mem × Int64} {ov : Int64} {dv : UInt64} (R : Rel σ τ) {cells slots : Nat} (hc : cells + 1 ≤ 601024) (hs : slots + 6 ≤ 7293034) {i : Int32}
    (K : ∀ (σ' : Mem) (τ' : Mem × Int64) (ov' : Int64) (dv' : UInt64) (H : Heap), Rel σ' τ' → LH D ay ad am oa od s σ' τ' ov' dv' H → ∀ ls : Array Slot, lv_has ls 9 [(0, .ref b), (1, .ref (ad 0)), (2, .ref (am 0)), (3, .ref oa), (4, .ref od), (5, .int i)] → W p l e room_1 s m #[.ref b] below meth c H [] (cells + 1) (slots + 6) Q (F0 m 1549 ls []))
    {H : Heap} (hH : LH D ay ad am oa od s σ τ ov dv H) {ls : Array Slot} (hl : lv_has ls 9 [(0, .ref b), (1, .ref (ad 0)), (2, .ref (am 0)), (3, .ref oa), (4, .ref od), (5, .int i)]) : W p l e room_1 s m #[.ref b] below meth c H [] cells slots Q (F0 m 544 ls []) := by
  obtain ⟨kc, σ', ov', mc, v, τ', hmc, hMet, hM, h5, h0, hR⟩ := p_passToTurn (D := D) (ay := ay) (sd := sd) hlt hA.1 hA.2.2.2.2.2.2.2.1 R ov 
  refine lv_aload_n X.x X.b dL_law_544 rfl (lv_at hl 1 rfl) ?_
  refine lv_aload_n X.x X.b dL_law_545 rfl (lv_at hl 3 rfl) ?_
  refine lc_W X hA hT hH (As := [.ref (ad 0), .ref oa]) (rest := []) hMet (vx_cwSW 2 X.ts gL_law_L_passToTurn rfl rfl rfl (by decide +kernel) ⟨Nat.le_of_ble_eq_true rfl, Nat.le_of_ble_eq_true rfl⟩) rfl hl.1 rfl (Nat.le_of_ble_eq_true rfl) dL_law_546 (show cells + mc ≤ 601024 by omega) (show slots + 6 * mc ≤ 7293034 by omega) (fun H hH => ?_)
  refine lv_istore (lv' := [(6, _), (0, _), (1, _), (2, _), (3, _), (4, _), (5, _)]) X.x X.b dL_law_549 hl (by decide) rfl (fun ls hl => ?_)
  refine lv_aload_n X.x X.b dL_law_551 rfl (lv_at hl 3 rfl) ?_
  refine lc_MiE X hA hH (As := []) (rest := []) (c_X4_passToTurn hA.2.1 hM) (cwV 0 X.ts gL_law_X4_passToTurn rfl rfl rfl (by decide +kernel) ⟨Nat.le_of_ble_eq_true rfl, Nat.le_of_ble_eq_true rfl⟩) rfl hl.1 rfl (Nat.le_of_ble_eq_true rfl) dL_law_552 (show cells + mc ≤ 601024 by omega) (show slots + 6 * mc ≤ 7293034 by omega) (fun H hH => ?_)
  refine lv_istore (lv' := [(7, _), (6, _), (0, _), (1, _), (2, _), (3, _), (4, _), (5, _)]) X.x X.b dL_law_555 hl (by decide) rfl (fun ls hl => ?_)
  refine lv_aload_n X.x X.b dL_law_557 rfl (lv_at hl 4 rfl) ?_
  refine lc_MiP X hA hH (As := []) (rest := []) (c_X4_thrown hA.2.1 (res := τ'.1 0 5) rfl) (cwV 0 X.ts gL_law_X4_thrown rfl rfl rfl (by decide +kernel) ⟨Nat.le_of_ble_eq_true rfl, Nat.le_of_ble_eq_true rfl⟩) rfl hl.1 rfl (Nat.le_of_ble_eq_true rfl) dL_law_558 (show cells + mc ≤ 601024 by omega) (show slots + 6 * mc ≤ 7293034 by omega) (fun H hH => ?_)
  refine lv_iload X.x X.b dL_law_561 (lv_at hl 1 rfl) ?_
  refine lv_icmp_eq (tgt := 568) X.x X.b dL_law_563 (by decide) (fun _ => ?_) (fun q => (q h5).elim)
  refine lv_iload X.x X.b dL_law_568 (lv_at hl 1 rfl) ?_
  refine lv_if_ne (tgt := 585) X.x X.b dL_law_570 (by decide) (fun _ => ?_) (fun q => ?_)
  · refine lv_goto (tgt := 1549) X.x X.b dL_law_585 (by decide) ?_
    exact W.widen (by omega) (by omega) (K σ' τ' ov' dv H hR hH ls (lv_sub hl [2, 3, 4, 5, 6, 7] rfl))
  have h0 := h0 q
  refine lv_aload_n X.x X.b dL_law_573 rfl (lv_at hl 5 rfl) ?_
  refine lv_iconst (v := 0) X.x X.b dL_law_574 (by decide) ?_
  refine lc_lald X hH dL_law_575 ?_
  refine lv_iload X.x X.b dL_law_576 (lv_at hl 0 rfl) ?_
  refine lv_i2l X.x X.b dL_law_578 rfl ?_
  refine W.lcmp X.x X.b dL_law_579 ?_
  refine lv_if_eq (tgt := 585) X.x X.b dL_law_580 (by decide) (fun _ => ?_) (fun q => (q (lg_cmp_same h0)).elim)
  refine lv_goto (tgt := 1549) X.x X.b dL_law_585 (by decide) ?_
  exact W.widen (by omega) (by omega) (K σ' τ' ov' dv H hR hH ls (lv_sub hl [2, 3, 4, 5, 6, 7] rfl))
set_option maxHeartbeats 4000000 in
set_option maxRecDepth 100000 in
theorem k_set {l : Launch} (hlt : l.stackTraces = false) {D : va_G} {ay : Nat → ClassId} {ad am : Nat → Nat} {oa od : Nat} {p : Program} {e : Env} {s : State} {m : MethodId} {b L : Nat} {xs : Nat → Int32} {below : List Frame} {meth : Method} {c : Code} {Q : State → Prop} {sd : Nat → Nat} {rt : Option FieldType} (X : CX D ay p s m #[.ref b] meth c cL_law 9 RL rt wsL_law) (hX : va_X b L xs s s.heap) (hb : b < s.heap.size) (hA : LA s.heap.size ad am oa od) (hT : TX (fun q => s.heap.size ≤ q) sd s) {σ : Mem} {τ : Mem × Int64} {ov : Int64} {dv : UInt64} (R : Rel σ τ) {cells slots : Nat} (hc : cells + 1 ≤ 601024) (hs : slots + 6 ≤ 7293034) {i : Int32} (i1 : vp_in (i + 1) L) (i2 : vp_in (i + 2) L)
    (K : ∀ (σ' : Mem) (τ' : Mem × Int64) (ov' : Int64) (dv' : UInt64) (H : Heap), Rel σ' τ' → LH D ay ad am oa od s σ' τ' ov' dv' H → ∀ ls : Array Slot, lv_has ls 9 [(0, .ref b), (1, .ref (ad 0)), (2, .ref (am 0)), (3, .ref oa), (4, .ref od), (5, .int i)] → W p l e room_1 s m #[.ref b] below meth c H [] (cells + 1) (slots + 6) Q (F0 m 1549 ls []))
    {H : Heap} (hH : LH D ay ad am oa od s σ τ ov dv H) {ls : Array Slot} (hl : lv_has ls 9 [(0, .ref b), (1, .ref (ad 0)), (2, .ref (am 0)), (3, .ref oa), (4, .ref od), (5, .int i)]) : W p l e room_1 s m #[.ref b] below meth c H [] cells slots Q (F0 m 588 ls []) := by
  obtain ⟨kc, σ', ov', mc, v, τ', hmc, hMet, hM, h5, h0, hR⟩ := p_set (D := D) (ay := ay) (sd := sd) hlt hA.1 hA.2.2.2.2.2.2.2.1 R ov (xs (i + 1).toNatClampNeg) (xs (i + 2).toNatClampNeg)
  refine lv_aload_n X.x X.b dL_law_588 rfl (lv_at hl 1 rfl) ?_
  refine lv_aload_n X.x X.b dL_law_589 rfl (lv_at hl 0 rfl) ?_
  refine lv_iload X.x X.b dL_law_590 (lv_at hl 5 rfl) ?_
  refine lv_iconst (v := 1) X.x X.b dL_law_592 (by decide) ?_
  refine lv_iadd X.x X.b dL_law_593 ?_
  refine lc_sld X hX hb hH i1 dL_law_594 ?_
  refine lv_aload_n X.x X.b dL_law_595 rfl (lv_at hl 0 rfl) ?_
  refine lv_iload X.x X.b dL_law_596 (lv_at hl 5 rfl) ?_
  refine lv_iconst (v := 2) X.x X.b dL_law_598 (by decide) ?_
  refine lv_iadd X.x X.b dL_law_599 ?_
  refine lc_sld X hX hb hH i2 dL_law_600 ?_
  refine lv_aload_n X.x X.b dL_law_601 rfl (lv_at hl 3 rfl) ?_
  refine lc_W X hA hT hH (As := [.ref (ad 0), .int (xs (i + 1).toNatClampNeg), .int (xs (i + 2).toNatClampNeg), .ref oa]) (rest := []) hMet (vx_cwSW 4 X.ts gL_law_L_set rfl rfl rfl (by decide +kernel) ⟨Nat.le_of_ble_eq_true rfl, Nat.le_of_ble_eq_true rfl⟩) rfl hl.1 rfl (Nat.le_of_ble_eq_true rfl) dL_law_602 (show cells + mc ≤ 601024 by omega) (show slots + 6 * mc ≤ 7293034 by omega) (fun H hH => ?_)
  refine lv_istore (lv' := [(6, _), (0, _), (1, _), (2, _), (3, _), (4, _), (5, _)]) X.x X.b dL_law_605 hl (by decide) rfl (fun ls hl => ?_)
  refine lv_aload_n X.x X.b dL_law_607 rfl (lv_at hl 3 rfl) ?_
  refine lv_aload_n X.x X.b dL_law_608 rfl (lv_at hl 1 rfl) ?_
  refine lv_iload X.x X.b dL_law_609 (lv_at hl 6 rfl) ?_
  refine lv_iconst (v := 1) X.x X.b dL_law_611 (by decide) ?_
  refine lv_iadd X.x X.b dL_law_612 ?_
  refine lc_sld X hX hb hH i1 dL_law_613 ?_
  refine lv_aload_n X.x X.b dL_law_614 rfl (lv_at hl 1 rfl) ?_
  refine lv_iload X.x X.b dL_law_615 (lv_at hl 6 rfl) ?_
  refine lv_iconst (v := 2) X.x X.b dL_law_617 (by decide) ?_
  refine lv_iadd X.x X.b dL_law_618 ?_
  refine lc_sld X hX hb hH i2 dL_law_619 ?_
  refine lc_MiE X hA hH (As := [.int (xs (i + 1).toNatClampNeg), .int (xs (i + 2).toNatClampNeg)]) (rest := []) (c_X4_set hA.2.1 hM) (cwV 2 X.ts gL_law_X4_set rfl rfl rfl (by decide +kernel) ⟨Nat.le_of_ble_eq_true rfl, Nat.le_of_ble_eq_true rfl⟩) rfl hl.1 rfl (Nat.le_of_ble_eq_true rfl) dL_law_620 (show cells + mc ≤ 601024 by omega) (show slots + 6 * mc ≤ 7293034 by omega) (fun H hH => ?_)
  refine lv_istore (lv' := [(7, _), (6, _), (0, _), (1, _), (2, _), (3, _), (4, _), (5, _)]) X.x X.b dL_law_623 hl (by decide) rfl (fun ls hl => ?_)
  refine lv_aload_n X.x X.b dL_law_625 rfl (lv_at hl 4 rfl) ?_
  refine lc_MiP X hA hH (As := []) (rest := []) (c_X4_thrown hA.2.1 (res := τ'.1 0 5) rfl) (cwV 0 X.ts gL_law_X4_thrown rfl rfl rfl (by decide +kernel) ⟨Nat.le_of_ble_eq_true rfl, Nat.le_of_ble_eq_true rfl⟩) rfl hl.1 rfl (Nat.le_of_ble_eq_true rfl) dL_law_626 (show cells + mc ≤ 601024 by omega) (show slots + 6 * mc ≤ 7293034 by omega) (fun H hH => ?_)
  refine lv_iload X.x X.b dL_law_629 (lv_at hl 1 rfl) ?_
  refine lv_icmp_eq (tgt := 636) X.x X.b dL_law_631 (by decide) (fun _ => ?_) (fun q => (q h5).elim)
  refine lv_iload X.x X.b dL_law_636 (lv_at hl 1 rfl) ?_
  refine lv_if_ne (tgt := 653) X.x X.b dL_law_638 (by decide) (fun _ => ?_) (fun q => ?_)
  · refine lv_goto (tgt := 1549) X.x X.b dL_law_653 (by decide) ?_
    exact W.widen (by omega) (by omega) (K σ' τ' ov' dv H hR hH ls (lv_sub hl [2, 3, 4, 5, 6, 7] rfl))
  have h0 := h0 q
  refine lv_aload_n X.x X.b dL_law_641 rfl (lv_at hl 5 rfl) ?_
  refine lv_iconst (v := 0) X.x X.b dL_law_642 (by decide) ?_
  refine lc_lald X hH dL_law_643 ?_
  refine lv_iload X.x X.b dL_law_644 (lv_at hl 0 rfl) ?_
  refine lv_i2l X.x X.b dL_law_646 rfl ?_
  refine W.lcmp X.x X.b dL_law_647 ?_
  refine lv_if_eq (tgt := 653) X.x X.b dL_law_648 (by decide) (fun _ => ?_) (fun q => (q (lg_cmp_same h0)).elim)
  refine lv_goto (tgt := 1549) X.x X.b dL_law_653 (by decide) ?_
  exact W.widen (by omega) (by omega) (K σ' τ' ov' dv H hR hH ls (lv_sub hl [2, 3, 4, 5, 6, 7] rfl))
set_option maxHeartbeats 4000000 in
set_option maxRecDepth 100000 in
theorem k_append {l : Launch} (hlt : l.stackTraces = false) {D : va_G} {ay : Nat → ClassId} {ad am : Nat → Nat} {oa od : Nat} {p : Program} {e : Env} {s : State} {m : MethodId} {b L : Nat} {xs : Nat → Int32} {below : List Frame} {meth : Method} {c : Code} {Q : State → Prop} {sd : Nat → Nat} {rt : Option FieldType} (X : CX D ay p s m #[.ref b] meth c cL_law 9 RL rt wsL_law) (hX : va_X b L xs s s.heap) (hb : b < s.heap.size) (hA : LA s.heap.size ad am oa od) (hT : TX (fun q => s.heap.size ≤ q) sd s) {σ : Mem} {τ : Mem × Int64} {ov : Int64} {dv : UInt64} (R : Rel σ τ) {cells slots : Nat} (hc : cells + 1 ≤ 601024) (hs : slots + 6 ≤ 7293034) {i : Int32} (i1 : vp_in (i + 1) L)
    (K : ∀ (σ' : Mem) (τ' : Mem × Int64) (ov' : Int64) (dv' : UInt64) (H : Heap), Rel σ' τ' → LH D ay ad am oa od s σ' τ' ov' dv' H → ∀ ls : Array Slot, lv_has ls 9 [(0, .ref b), (1, .ref (ad 0)), (2, .ref (am 0)), (3, .ref oa), (4, .ref od), (5, .int i)] → W p l e room_1 s m #[.ref b] below meth c H [] (cells + 1) (slots + 6) Q (F0 m 1549 ls []))
    {H : Heap} (hH : LH D ay ad am oa od s σ τ ov dv H) {ls : Array Slot} (hl : lv_has ls 9 [(0, .ref b), (1, .ref (ad 0)), (2, .ref (am 0)), (3, .ref oa), (4, .ref od), (5, .int i)]) : W p l e room_1 s m #[.ref b] below meth c H [] cells slots Q (F0 m 656 ls []) := by
  obtain ⟨kc, σ', ov', mc, v, τ', hmc, hMet, hM, h5, h0, hR⟩ := p_append (D := D) (ay := ay) (sd := sd) hlt hA.1 hA.2.2.2.2.2.2.2.1 R ov (xs (i + 1).toNatClampNeg)
  refine lv_aload_n X.x X.b dL_law_656 rfl (lv_at hl 1 rfl) ?_
  refine lv_aload_n X.x X.b dL_law_657 rfl (lv_at hl 0 rfl) ?_
  refine lv_iload X.x X.b dL_law_658 (lv_at hl 5 rfl) ?_
  refine lv_iconst (v := 1) X.x X.b dL_law_660 (by decide) ?_
  refine lv_iadd X.x X.b dL_law_661 ?_
  refine lc_sld X hX hb hH i1 dL_law_662 ?_
  refine lv_aload_n X.x X.b dL_law_663 rfl (lv_at hl 3 rfl) ?_
  refine lc_W X hA hT hH (As := [.ref (ad 0), .int (xs (i + 1).toNatClampNeg), .ref oa]) (rest := []) hMet (vx_cwSW 3 X.ts gL_law_L_append rfl rfl rfl (by decide +kernel) ⟨Nat.le_of_ble_eq_true rfl, Nat.le_of_ble_eq_true rfl⟩) rfl hl.1 rfl (Nat.le_of_ble_eq_true rfl) dL_law_664 (show cells + mc ≤ 601024 by omega) (show slots + 6 * mc ≤ 7293034 by omega) (fun H hH => ?_)
  refine lv_istore (lv' := [(6, _), (0, _), (1, _), (2, _), (3, _), (4, _), (5, _)]) X.x X.b dL_law_667 hl (by decide) rfl (fun ls hl => ?_)
  refine lv_aload_n X.x X.b dL_law_669 rfl (lv_at hl 3 rfl) ?_
  refine lv_aload_n X.x X.b dL_law_670 rfl (lv_at hl 1 rfl) ?_
  refine lv_iload X.x X.b dL_law_671 (lv_at hl 6 rfl) ?_
  refine lv_iconst (v := 1) X.x X.b dL_law_673 (by decide) ?_
  refine lv_iadd X.x X.b dL_law_674 ?_
  refine lc_sld X hX hb hH i1 dL_law_675 ?_
  refine lc_MiE X hA hH (As := [.int (xs (i + 1).toNatClampNeg)]) (rest := []) (c_X4_append hA.2.1 hM) (cwV 1 X.ts gL_law_X4_append rfl rfl rfl (by decide +kernel) ⟨Nat.le_of_ble_eq_true rfl, Nat.le_of_ble_eq_true rfl⟩) rfl hl.1 rfl (Nat.le_of_ble_eq_true rfl) dL_law_676 (show cells + mc ≤ 601024 by omega) (show slots + 6 * mc ≤ 7293034 by omega) (fun H hH => ?_)
  refine lv_istore (lv' := [(7, _), (6, _), (0, _), (1, _), (2, _), (3, _), (4, _), (5, _)]) X.x X.b dL_law_679 hl (by decide) rfl (fun ls hl => ?_)
  refine lv_aload_n X.x X.b dL_law_681 rfl (lv_at hl 4 rfl) ?_
  refine lc_MiP X hA hH (As := []) (rest := []) (c_X4_thrown hA.2.1 (res := τ'.1 0 5) rfl) (cwV 0 X.ts gL_law_X4_thrown rfl rfl rfl (by decide +kernel) ⟨Nat.le_of_ble_eq_true rfl, Nat.le_of_ble_eq_true rfl⟩) rfl hl.1 rfl (Nat.le_of_ble_eq_true rfl) dL_law_682 (show cells + mc ≤ 601024 by omega) (show slots + 6 * mc ≤ 7293034 by omega) (fun H hH => ?_)
  refine lv_iload X.x X.b dL_law_685 (lv_at hl 1 rfl) ?_
  refine lv_icmp_eq (tgt := 692) X.x X.b dL_law_687 (by decide) (fun _ => ?_) (fun q => (q h5).elim)
  refine lv_iload X.x X.b dL_law_692 (lv_at hl 1 rfl) ?_
  refine lv_if_ne (tgt := 709) X.x X.b dL_law_694 (by decide) (fun _ => ?_) (fun q => ?_)
  · refine lv_goto (tgt := 1549) X.x X.b dL_law_709 (by decide) ?_
    exact W.widen (by omega) (by omega) (K σ' τ' ov' dv H hR hH ls (lv_sub hl [2, 3, 4, 5, 6, 7] rfl))
  have h0 := h0 q
  refine lv_aload_n X.x X.b dL_law_697 rfl (lv_at hl 5 rfl) ?_
  refine lv_iconst (v := 0) X.x X.b dL_law_698 (by decide) ?_
  refine lc_lald X hH dL_law_699 ?_
  refine lv_iload X.x X.b dL_law_700 (lv_at hl 0 rfl) ?_
  refine lv_i2l X.x X.b dL_law_702 rfl ?_
  refine W.lcmp X.x X.b dL_law_703 ?_
  refine lv_if_eq (tgt := 709) X.x X.b dL_law_704 (by decide) (fun _ => ?_) (fun q => (q (lg_cmp_same h0)).elim)
  refine lv_goto (tgt := 1549) X.x X.b dL_law_709 (by decide) ?_
  exact W.widen (by omega) (by omega) (K σ' τ' ov' dv H hR hH ls (lv_sub hl [2, 3, 4, 5, 6, 7] rfl))
set_option maxHeartbeats 4000000 in
set_option maxRecDepth 100000 in
theorem k_clearBuffer {l : Launch} (hlt : l.stackTraces = false) {D : va_G} {ay : Nat → ClassId} {ad am : Nat → Nat} {oa od : Nat} {p : Program} {e : Env} {s : State} {m : MethodId} {b L : Nat} {xs : Nat → Int32} {below : List Frame} {meth : Method} {c : Code} {Q : State → Prop} {sd : Nat → Nat} {rt : Option FieldType} (X : CX D ay p s m #[.ref b] meth c cL_law 9 RL rt wsL_law) (hX : va_X b L xs s s.heap) (hb : b < s.heap.size) (hA : LA s.heap.size ad am oa od) (hT : TX (fun q => s.heap.size ≤ q) sd s) {σ : Mem} {τ : Mem × Int64} {ov : Int64} {dv : UInt64} (R : Rel σ τ) {cells slots : Nat} (hc : cells + 1 ≤ 601024) (hs : slots + 6 ≤ 7293034) {i : Int32}
    (K : ∀ (σ' : Mem) (τ' : Mem × Int64) (ov' : Int64) (dv' : UInt64) (H : Heap), Rel σ' τ' → LH D ay ad am oa od s σ' τ' ov' dv' H → ∀ ls : Array Slot, lv_has ls 9 [(0, .ref b), (1, .ref (ad 0)), (2, .ref (am 0)), (3, .ref oa), (4, .ref od), (5, .int i)] → W p l e room_1 s m #[.ref b] below meth c H [] (cells + 1) (slots + 6) Q (F0 m 1549 ls []))
    {H : Heap} (hH : LH D ay ad am oa od s σ τ ov dv H) {ls : Array Slot} (hl : lv_has ls 9 [(0, .ref b), (1, .ref (ad 0)), (2, .ref (am 0)), (3, .ref oa), (4, .ref od), (5, .int i)]) : W p l e room_1 s m #[.ref b] below meth c H [] cells slots Q (F0 m 712 ls []) := by
  obtain ⟨v, σ', τ', hF, hM, hR⟩ := o_clear R
  refine lv_aload_n X.x X.b dL_law_712 rfl (lv_at hl 1 rfl) ?_
  refine lc_CiE X hA hH (As := []) (rest := []) (c_X3_clearBuffer hA.1 hF) (cwV 0 X.ts gL_law_X3_clearBuffer rfl rfl rfl (by decide +kernel) ⟨Nat.le_of_ble_eq_true rfl, Nat.le_of_ble_eq_true rfl⟩) rfl hl.1 rfl (Nat.le_of_ble_eq_true rfl) dL_law_713 (show cells ≤ 601024 by omega) (show slots ≤ 7293034 by omega) (fun H hH => ?_)
  refine lv_aload_n X.x X.b dL_law_716 rfl (lv_at hl 2 rfl) ?_
  refine lc_MiE X hA hH (As := []) (rest := [.int v]) (c_X4_clearBuffer hA.2.1 hM) (cwV 0 X.ts gL_law_X4_clearBuffer rfl rfl rfl (by decide +kernel) ⟨Nat.le_of_ble_eq_true rfl, Nat.le_of_ble_eq_true rfl⟩) rfl hl.1 rfl (Nat.le_of_ble_eq_true rfl) dL_law_717 (show cells ≤ 601024 by omega) (show slots ≤ 7293034 by omega) (fun H hH => ?_)
  refine lv_icmp_eq (tgt := 1549) X.x X.b dL_law_720 (by decide) (fun _ => ?_) (fun q => (q rfl).elim)
  exact W.widen (by omega) (by omega) (K σ' τ' ov dv H hR hH ls (lv_sub hl [0, 1, 2, 3, 4, 5] rfl))
set_option maxHeartbeats 4000000 in
set_option maxRecDepth 100000 in
theorem k_firstError {l : Launch} (hlt : l.stackTraces = false) {D : va_G} {ay : Nat → ClassId} {ad am : Nat → Nat} {oa od : Nat} {p : Program} {e : Env} {s : State} {m : MethodId} {b L : Nat} {xs : Nat → Int32} {below : List Frame} {meth : Method} {c : Code} {Q : State → Prop} {sd : Nat → Nat} {rt : Option FieldType} (X : CX D ay p s m #[.ref b] meth c cL_law 9 RL rt wsL_law) (hX : va_X b L xs s s.heap) (hb : b < s.heap.size) (hA : LA s.heap.size ad am oa od) (hT : TX (fun q => s.heap.size ≤ q) sd s) {σ : Mem} {τ : Mem × Int64} {ov : Int64} {dv : UInt64} (R : Rel σ τ) {cells slots : Nat} (hc : cells + 1 ≤ 601024) (hs : slots + 6 ≤ 7293034) {i : Int32}
    (K : ∀ (σ' : Mem) (τ' : Mem × Int64) (ov' : Int64) (dv' : UInt64) (H : Heap), Rel σ' τ' → LH D ay ad am oa od s σ' τ' ov' dv' H → ∀ ls : Array Slot, lv_has ls 9 [(0, .ref b), (1, .ref (ad 0)), (2, .ref (am 0)), (3, .ref oa), (4, .ref od), (5, .int i)] → W p l e room_1 s m #[.ref b] below meth c H [] (cells + 1) (slots + 6) Q (F0 m 1549 ls []))
    {H : Heap} (hH : LH D ay ad am oa od s σ τ ov dv H) {ls : Array Slot} (hl : lv_has ls 9 [(0, .ref b), (1, .ref (ad 0)), (2, .ref (am 0)), (3, .ref oa), (4, .ref od), (5, .int i)]) : W p l e room_1 s m #[.ref b] below meth c H [] cells slots Q (F0 m 725 ls []) := by
  obtain ⟨v, τ', hF, hM, hK⟩ := o_firstError R
  have hR : Rel σ τ' := hK.rel R
  refine lv_aload_n X.x X.b dL_law_725 rfl (lv_at hl 1 rfl) ?_
  refine lc_CiP X hA hH (As := []) (rest := []) (c_X3_firstError hA.1 hF) (cwV 0 X.ts gL_law_X3_firstError rfl rfl rfl (by decide +kernel) ⟨Nat.le_of_ble_eq_true rfl, Nat.le_of_ble_eq_true rfl⟩) rfl hl.1 rfl (Nat.le_of_ble_eq_true rfl) dL_law_726 (show cells ≤ 601024 by omega) (show slots ≤ 7293034 by omega) (fun H hH => ?_)
  refine lv_aload_n X.x X.b dL_law_729 rfl (lv_at hl 2 rfl) ?_
  refine lc_MiE X hA hH (As := []) (rest := [.int v]) (c_X4_firstError hA.2.1 hM) (cwV 0 X.ts gL_law_X4_firstError rfl rfl rfl (by decide +kernel) ⟨Nat.le_of_ble_eq_true rfl, Nat.le_of_ble_eq_true rfl⟩) rfl hl.1 rfl (Nat.le_of_ble_eq_true rfl) dL_law_730 (show cells ≤ 601024 by omega) (show slots ≤ 7293034 by omega) (fun H hH => ?_)
  refine lv_icmp_eq (tgt := 1549) X.x X.b dL_law_733 (by decide) (fun _ => ?_) (fun q => (q rfl).elim)
  exact W.widen (by omega) (by omega) (K σ τ' ov dv H hR hH ls (lv_sub hl [0, 1, 2, 3, 4, 5] rfl))
set_option maxHeartbeats 4000000 in
set_option maxRecDepth 100000 in
theorem k_addAll {l : Launch} (hlt : l.stackTraces = false) {D : va_G} {ay : Nat → ClassId} {ad am : Nat → Nat} {oa od : Nat} {p : Program} {e : Env} {s : State} {m : MethodId} {b L : Nat} {xs : Nat → Int32} {below : List Frame} {meth : Method} {c : Code} {Q : State → Prop} {sd : Nat → Nat} {rt : Option FieldType} (X : CX D ay p s m #[.ref b] meth c cL_law 9 RL rt wsL_law) (hX : va_X b L xs s s.heap) (hb : b < s.heap.size) (hA : LA s.heap.size ad am oa od) (hT : TX (fun q => s.heap.size ≤ q) sd s) {σ : Mem} {τ : Mem × Int64} {ov : Int64} {dv : UInt64} (R : Rel σ τ) {cells slots : Nat} (hc : cells + 1 ≤ 601024) (hs : slots + 6 ≤ 7293034) {i : Int32}
    (K : ∀ (σ' : Mem) (τ' : Mem × Int64) (ov' : Int64) (dv' : UInt64) (H : Heap), Rel σ' τ' → LH D ay ad am oa od s σ' τ' ov' dv' H → ∀ ls : Array Slot, lv_has ls 9 [(0, .ref b), (1, .ref (ad 0)), (2, .ref (am 0)), (3, .ref oa), (4, .ref od), (5, .int i)] → W p l e room_1 s m #[.ref b] below meth c H [] (cells + 1) (slots + 6) Q (F0 m 1549 ls []))
    {H : Heap} (hH : LH D ay ad am oa od s σ τ ov dv H) {ls : Array Slot} (hl : lv_has ls 9 [(0, .ref b), (1, .ref (ad 0)), (2, .ref (am 0)), (3, .ref oa), (4, .ref od), (5, .int i)]) : W p l e room_1 s m #[.ref b] below meth c H [] cells slots Q (F0 m 738 ls []) := by
  obtain ⟨kc, σ', ov', mc, v, τ', hmc, hMet, hM, h5, h0, hR⟩ := p_addAll (D := D) (ay := ay) (sd := sd) hlt hA.1 hA.2.2.2.2.2.2.2.1 R ov 
  refine lv_aload_n X.x X.b dL_law_738 rfl (lv_at hl 1 rfl) ?_
  refine lv_aload_n X.x X.b dL_law_739 rfl (lv_at hl 3 rfl) ?_
  refine lc_W X hA hT hH (As := [.ref (ad 0), .ref oa]) (rest := []) hMet (vx_cwSW 2 X.ts gL_law_L_addAll rfl rfl rfl (by decide +kernel) ⟨Nat.le_of_ble_eq_true rfl, Nat.le_of_ble_eq_true rfl⟩) rfl hl.1 rfl (Nat.le_of_ble_eq_true rfl) dL_law_740 (show cells + mc ≤ 601024 by omega) (show slots + 6 * mc ≤ 7293034 by omega) (fun H hH => ?_)
  refine lv_istore (lv' := [(6, _), (0, _), (1, _), (2, _), (3, _), (4, _), (5, _)]) X.x X.b dL_law_743 hl (by decide) rfl (fun ls hl => ?_)
  refine lv_aload_n X.x X.b dL_law_745 rfl (lv_at hl 3 rfl) ?_
  refine lc_MiE X hA hH (As := []) (rest := []) (c_X4_addAll hA.2.1 hM) (cwV 0 X.ts gL_law_X4_addAll rfl rfl rfl (by decide +kernel) ⟨Nat.le_of_ble_eq_true rfl, Nat.le_of_ble_eq_true rfl⟩) rfl hl.1 rfl (Nat.le_of_ble_eq_true rfl) dL_law_746 (show cells + mc ≤ 601024 by omega) (show slots + 6 * mc ≤ 7293034 by omega) (fun H hH => ?_)
  refine lv_istore (lv' := [(7, _), (6, _), (0, _), (1, _), (2, _), (3, _), (4, _), (5, _)]) X.x X.b dL_law_749 hl (by decide) rfl (fun ls hl => ?_)
  refine lv_aload_n X.x X.b dL_law_751 rfl (lv_at hl 4 rfl) ?_
  refine lc_MiP X hA hH (As := []) (rest := []) (c_X4_thrown hA.2.1 (res := τ'.1 0 5) rfl) (cwV 0 X.ts gL_law_X4_thrown rfl rfl rfl (by decide +kernel) ⟨Nat.le_of_ble_eq_true rfl, Nat.le_of_ble_eq_true rfl⟩) rfl hl.1 rfl (Nat.le_of_ble_eq_true rfl) dL_law_752 (show cells + mc ≤ 601024 by omega) (show slots + 6 * mc ≤ 7293034 by omega) (fun H hH => ?_)
  refine lv_iload X.x X.b dL_law_755 (lv_at hl 1 rfl) ?_
  refine lv_icmp_eq (tgt := 762) X.x X.b dL_law_757 (by decide) (fun _ => ?_) (fun q => (q h5).elim)
  refine lv_iload X.x X.b dL_law_762 (lv_at hl 1 rfl) ?_
  refine lv_if_ne (tgt := 779) X.x X.b dL_law_764 (by decide) (fun _ => ?_) (fun q => ?_)
  · refine lv_goto (tgt := 1549) X.x X.b dL_law_779 (by decide) ?_
    exact W.widen (by omega) (by omega) (K σ' τ' ov' dv H hR hH ls (lv_sub hl [2, 3, 4, 5, 6, 7] rfl))
  have h0 := h0 q
  refine lv_aload_n X.x X.b dL_law_767 rfl (lv_at hl 5 rfl) ?_
  refine lv_iconst (v := 0) X.x X.b dL_law_768 (by decide) ?_
  refine lc_lald X hH dL_law_769 ?_
  refine lv_iload X.x X.b dL_law_770 (lv_at hl 0 rfl) ?_
  refine lv_i2l X.x X.b dL_law_772 rfl ?_
  refine W.lcmp X.x X.b dL_law_773 ?_
  refine lv_if_eq (tgt := 779) X.x X.b dL_law_774 (by decide) (fun _ => ?_) (fun q => (q (lg_cmp_same h0)).elim)
  refine lv_goto (tgt := 1549) X.x X.b dL_law_779 (by decide) ?_
  exact W.widen (by omega) (by omega) (K σ' τ' ov' dv H hR hH ls (lv_sub hl [2, 3, 4, 5, 6, 7] rfl))
set_option maxHeartbeats 4000000 in
set_option maxRecDepth 100000 in
theorem k_undo {l : Launch} (hlt : l.stackTraces = false) {D : va_G} {ay : Nat → ClassId} {ad am : Nat → Nat} {oa od : Nat} {p : Program} {e : Env} {s : State} {m : MethodId} {b L : Nat} {xs : Nat → Int32} {below : List Frame} {meth : Method} {c : Code} {Q : State → Prop} {sd : Nat → Nat} {rt : Option FieldType} (X : CX D ay p s m #[.ref b] meth c cL_law 9 RL rt wsL_law) (hX : va_X b L xs s s.heap) (hb : b < s.heap.size) (hA : LA s.heap.size ad am oa od) (hT : TX (fun q => s.heap.size ≤ q) sd s) {σ : Mem} {τ : Mem × Int64} {ov : Int64} {dv : UInt64} (R : Rel σ τ) {cells slots : Nat} (hc : cells + 1 ≤ 601024) (hs : slots + 6 ≤ 7293034) {i : Int32}
    (K : ∀ (σ' : Mem) (τ' : Mem × Int64) (ov' : Int64) (dv' : UInt64) (H : Heap), Rel σ' τ' → LH D ay ad am oa od s σ' τ' ov' dv' H → ∀ ls : Array Slot, lv_has ls 9 [(0, .ref b), (1, .ref (ad 0)), (2, .ref (am 0)), (3, .ref oa), (4, .ref od), (5, .int i)] → W p l e room_1 s m #[.ref b] below meth c H [] (cells + 1) (slots + 6) Q (F0 m 1549 ls []))
    {H : Heap} (hH : LH D ay ad am oa od s σ τ ov dv H) {ls : Array Slot} (hl : lv_has ls 9 [(0, .ref b), (1, .ref (ad 0)), (2, .ref (am 0)), (3, .ref oa), (4, .ref od), (5, .int i)]) : W p l e room_1 s m #[.ref b] below meth c H [] cells slots Q (F0 m 782 ls []) := by
  obtain ⟨kc, σ', ov', mc, v, τ', hmc, hMet, hM, h5, h0, hR⟩ := p_undo (D := D) (ay := ay) (sd := sd) hlt hA.1 hA.2.2.2.2.2.2.2.1 R ov 
  refine lv_aload_n X.x X.b dL_law_782 rfl (lv_at hl 1 rfl) ?_
  refine lv_aload_n X.x X.b dL_law_783 rfl (lv_at hl 3 rfl) ?_
  refine lc_W X hA hT hH (As := [.ref (ad 0), .ref oa]) (rest := []) hMet (vx_cwSW 2 X.ts gL_law_L_undo rfl rfl rfl (by decide +kernel) ⟨Nat.le_of_ble_eq_true rfl, Nat.le_of_ble_eq_true rfl⟩) rfl hl.1 rfl (Nat.le_of_ble_eq_true rfl) dL_law_784 (show cells + mc ≤ 601024 by omega) (show slots + 6 * mc ≤ 7293034 by omega) (fun H hH => ?_)
  refine lv_istore (lv' := [(6, _), (0, _), (1, _), (2, _), (3, _), (4, _), (5, _)]) X.x X.b dL_law_787 hl (by decide) rfl (fun ls hl => ?_)
  refine lv_aload_n X.x X.b dL_law_789 rfl (lv_at hl 3 rfl) ?_
  refine lc_MiE X hA hH (As := []) (rest := []) (c_X4_undo hA.2.1 hM) (cwV 0 X.ts gL_law_X4_undo rfl rfl rfl (by decide +kernel) ⟨Nat.le_of_ble_eq_true rfl, Nat.le_of_ble_eq_true rfl⟩) rfl hl.1 rfl (Nat.le_of_ble_eq_true rfl) dL_law_790 (show cells + mc ≤ 601024 by omega) (show slots + 6 * mc ≤ 7293034 by omega) (fun H hH => ?_)
  refine lv_istore (lv' := [(7, _), (6, _), (0, _), (1, _), (2, _), (3, _), (4, _), (5, _)]) X.x X.b dL_law_793 hl (by decide) rfl (fun ls hl => ?_)
  refine lv_aload_n X.x X.b dL_law_795 rfl (lv_at hl 4 rfl) ?_
  refine lc_MiP X hA hH (As := []) (rest := []) (c_X4_thrown hA.2.1 (res := τ'.1 0 5) rfl) (cwV 0 X.ts gL_law_X4_thrown rfl rfl rfl (by decide +kernel) ⟨Nat.le_of_ble_eq_true rfl, Nat.le_of_ble_eq_true rfl⟩) rfl hl.1 rfl (Nat.le_of_ble_eq_true rfl) dL_law_796 (show cells + mc ≤ 601024 by omega) (show slots + 6 * mc ≤ 7293034 by omega) (fun H hH => ?_)
  refine lv_iload X.x X.b dL_law_799 (lv_at hl 1 rfl) ?_
  refine lv_icmp_eq (tgt := 806) X.x X.b dL_law_801 (by decide) (fun _ => ?_) (fun q => (q h5).elim)
  refine lv_iload X.x X.b dL_law_806 (lv_at hl 1 rfl) ?_
  refine lv_if_ne (tgt := 823) X.x X.b dL_law_808 (by decide) (fun _ => ?_) (fun q => ?_)
  · refine lv_goto (tgt := 1549) X.x X.b dL_law_823 (by decide) ?_
    exact W.widen (by omega) (by omega) (K σ' τ' ov' dv H hR hH ls (lv_sub hl [2, 3, 4, 5, 6, 7] rfl))
  have h0 := h0 q
  refine lv_aload_n X.x X.b dL_law_811 rfl (lv_at hl 5 rfl) ?_
  refine lv_iconst (v := 0) X.x X.b dL_law_812 (by decide) ?_
  refine lc_lald X hH dL_law_813 ?_
  refine lv_iload X.x X.b dL_law_814 (lv_at hl 0 rfl) ?_
  refine lv_i2l X.x X.b dL_law_816 rfl ?_
  refine W.lcmp X.x X.b dL_law_817 ?_
  refine lv_if_eq (tgt := 823) X.x X.b dL_law_818 (by decide) (fun _ => ?_) (fun q => (q (lg_cmp_same h0)).elim)
  refine lv_goto (tgt := 1549) X.x X.b dL_law_823 (by decide) ?_
  exact W.widen (by omega) (by omega) (K σ' τ' ov' dv H hR hH ls (lv_sub hl [2, 3, 4, 5, 6, 7] rfl))
set_option maxHeartbeats 4000000 in
set_option maxRecDepth 100000 in
theorem k_mover {l : Launch} (hlt : l.stackTraces = false) {D : va_G} {ay : Nat → ClassId} {ad am : Nat → Nat} {oa od : Nat} {p : Program} {e : Env} {s : State} {m : MethodId} {b L : Nat} {xs : Nat → Int32} {below : List Frame} {meth : Method} {c : Code} {Q : State → Prop} {sd : Nat → Nat} {rt : Option FieldType} (X : CX D ay p s m #[.ref b] meth c cL_law 9 RL rt wsL_law) (hX : va_X b L xs s s.heap) (hb : b < s.heap.size) (hA : LA s.heap.size ad am oa od) (hT : TX (fun q => s.heap.size ≤ q) sd s) {σ : Mem} {τ : Mem × Int64} {ov : Int64} {dv : UInt64} (R : Rel σ τ) {cells slots : Nat} (hc : cells + 1 ≤ 601024) (hs : slots + 6 ≤ 7293034) {i : Int32} (i1 : vp_in (i + 1) L) (i2 : vp_in (i + 2) L)
    (K : ∀ (σ' : Mem) (τ' : Mem × Int64) (ov' : Int64) (dv' : UInt64) (H : Heap), Rel σ' τ' → LH D ay ad am oa od s σ' τ' ov' dv' H → ∀ ls : Array Slot, lv_has ls 9 [(0, .ref b), (1, .ref (ad 0)), (2, .ref (am 0)), (3, .ref oa), (4, .ref od), (5, .int i)] → W p l e room_1 s m #[.ref b] below meth c H [] (cells + 1) (slots + 6) Q (F0 m 1549 ls []))
    {H : Heap} (hH : LH D ay ad am oa od s σ τ ov dv H) {ls : Array Slot} (hl : lv_has ls 9 [(0, .ref b), (1, .ref (ad 0)), (2, .ref (am 0)), (3, .ref oa), (4, .ref od), (5, .int i)]) : W p l e room_1 s m #[.ref b] below meth c H [] cells slots Q (F0 m 826 ls []) := by
  obtain ⟨kc, σ', ov', mc, v, τ', hmc, hMet, hM, h5, h0, hR⟩ := p_mover (D := D) (ay := ay) (sd := sd) hlt hA.1 hA.2.2.2.2.2.2.2.1 R ov (xs (i + 1).toNatClampNeg) (xs (i + 2).toNatClampNeg)
  refine lv_aload_n X.x X.b dL_law_826 rfl (lv_at hl 1 rfl) ?_
  refine lv_aload_n X.x X.b dL_law_827 rfl (lv_at hl 0 rfl) ?_
  refine lv_iload X.x X.b dL_law_828 (lv_at hl 5 rfl) ?_
  refine lv_iconst (v := 1) X.x X.b dL_law_830 (by decide) ?_
  refine lv_iadd X.x X.b dL_law_831 ?_
  refine lc_sld X hX hb hH i1 dL_law_832 ?_
  refine lv_aload_n X.x X.b dL_law_833 rfl (lv_at hl 0 rfl) ?_
  refine lv_iload X.x X.b dL_law_834 (lv_at hl 5 rfl) ?_
  refine lv_iconst (v := 2) X.x X.b dL_law_836 (by decide) ?_
  refine lv_iadd X.x X.b dL_law_837 ?_
  refine lc_sld X hX hb hH i2 dL_law_838 ?_
  refine lv_aload_n X.x X.b dL_law_839 rfl (lv_at hl 3 rfl) ?_
  refine lc_W X hA hT hH (As := [.ref (ad 0), .int (xs (i + 1).toNatClampNeg), .int (xs (i + 2).toNatClampNeg), .ref oa]) (rest := []) hMet (vx_cwSW 4 X.ts gL_law_L_mover rfl rfl rfl (by decide +kernel) ⟨Nat.le_of_ble_eq_true rfl, Nat.le_of_ble_eq_true rfl⟩) rfl hl.1 rfl (Nat.le_of_ble_eq_true rfl) dL_law_840 (show cells + mc ≤ 601024 by omega) (show slots + 6 * mc ≤ 7293034 by omega) (fun H hH => ?_)
  refine lv_istore (lv' := [(6, _), (0, _), (1, _), (2, _), (3, _), (4, _), (5, _)]) X.x X.b dL_law_843 hl (by decide) rfl (fun ls hl => ?_)
  refine lv_aload_n X.x X.b dL_law_845 rfl (lv_at hl 3 rfl) ?_
  refine lv_aload_n X.x X.b dL_law_846 rfl (lv_at hl 1 rfl) ?_
  refine lv_iload X.x X.b dL_law_847 (lv_at hl 6 rfl) ?_
  refine lv_iconst (v := 1) X.x X.b dL_law_849 (by decide) ?_
  refine lv_iadd X.x X.b dL_law_850 ?_
  refine lc_sld X hX hb hH i1 dL_law_851 ?_
  refine lv_aload_n X.x X.b dL_law_852 rfl (lv_at hl 1 rfl) ?_
  refine lv_iload X.x X.b dL_law_853 (lv_at hl 6 rfl) ?_
  refine lv_iconst (v := 2) X.x X.b dL_law_855 (by decide) ?_
  refine lv_iadd X.x X.b dL_law_856 ?_
  refine lc_sld X hX hb hH i2 dL_law_857 ?_
  refine lc_MiE X hA hH (As := [.int (xs (i + 1).toNatClampNeg), .int (xs (i + 2).toNatClampNeg)]) (rest := []) (c_X4_mover hA.2.1 hM) (cwV 2 X.ts gL_law_X4_mover rfl rfl rfl (by decide +kernel) ⟨Nat.le_of_ble_eq_true rfl, Nat.le_of_ble_eq_true rfl⟩) rfl hl.1 rfl (Nat.le_of_ble_eq_true rfl) dL_law_858 (show cells + mc ≤ 601024 by omega) (show slots + 6 * mc ≤ 7293034 by omega) (fun H hH => ?_)
  refine lv_istore (lv' := [(7, _), (6, _), (0, _), (1, _), (2, _), (3, _), (4, _), (5, _)]) X.x X.b dL_law_861 hl (by decide) rfl (fun ls hl => ?_)
  refine lv_aload_n X.x X.b dL_law_863 rfl (lv_at hl 4 rfl) ?_
  refine lc_MiP X hA hH (As := []) (rest := []) (c_X4_thrown hA.2.1 (res := τ'.1 0 5) rfl) (cwV 0 X.ts gL_law_X4_thrown rfl rfl rfl (by decide +kernel) ⟨Nat.le_of_ble_eq_true rfl, Nat.le_of_ble_eq_true rfl⟩) rfl hl.1 rfl (Nat.le_of_ble_eq_true rfl) dL_law_864 (show cells + mc ≤ 601024 by omega) (show slots + 6 * mc ≤ 7293034 by omega) (fun H hH => ?_)
  refine lv_iload X.x X.b dL_law_867 (lv_at hl 1 rfl) ?_
  refine lv_icmp_eq (tgt := 874) X.x X.b dL_law_869 (by decide) (fun _ => ?_) (fun q => (q h5).elim)
  refine lv_iload X.x X.b dL_law_874 (lv_at hl 1 rfl) ?_
  refine lv_if_ne (tgt := 891) X.x X.b dL_law_876 (by decide) (fun _ => ?_) (fun q => ?_)
  · refine lv_goto (tgt := 1549) X.x X.b dL_law_891 (by decide) ?_
    exact W.widen (by omega) (by omega) (K σ' τ' ov' dv H hR hH ls (lv_sub hl [2, 3, 4, 5, 6, 7] rfl))
  have h0 := h0 q
  refine lv_aload_n X.x X.b dL_law_879 rfl (lv_at hl 5 rfl) ?_
  refine lv_iconst (v := 0) X.x X.b dL_law_880 (by decide) ?_
  refine lc_lald X hH dL_law_881 ?_
  refine lv_iload X.x X.b dL_law_882 (lv_at hl 0 rfl) ?_
  refine lv_i2l X.x X.b dL_law_884 rfl ?_
  refine W.lcmp X.x X.b dL_law_885 ?_
  refine lv_if_eq (tgt := 891) X.x X.b dL_law_886 (by decide) (fun _ => ?_) (fun q => (q (lg_cmp_same h0)).elim)
  refine lv_goto (tgt := 1549) X.x X.b dL_law_891 (by decide) ?_
  exact W.widen (by omega) (by omega) (K σ' τ' ov' dv H hR hH ls (lv_sub hl [2, 3, 4, 5, 6, 7] rfl))
set_option maxHeartbeats 4000000 in
set_option maxRecDepth 100000 in
theorem k_contest {l : Launch} (hlt : l.stackTraces = false) {D : va_G} {ay : Nat → ClassId} {ad am : Nat → Nat} {oa od : Nat} {p : Program} {e : Env} {s : State} {m : MethodId} {b L : Nat} {xs : Nat → Int32} {below : List Frame} {meth : Method} {c : Code} {Q : State → Prop} {sd : Nat → Nat} {rt : Option FieldType} (X : CX D ay p s m #[.ref b] meth c cL_law 9 RL rt wsL_law) (hX : va_X b L xs s s.heap) (hb : b < s.heap.size) (hA : LA s.heap.size ad am oa od) (hT : TX (fun q => s.heap.size ≤ q) sd s) {σ : Mem} {τ : Mem × Int64} {ov : Int64} {dv : UInt64} (R : Rel σ τ) {cells slots : Nat} (hc : cells + 1 ≤ 601024) (hs : slots + 6 ≤ 7293034) {i : Int32} (i1 : vp_in (i + 1) L) (i2 : vp_in (i + 2) L)
    (K : ∀ (σ' : Mem) (τ' : Mem × Int64) (ov' : Int64) (dv' : UInt64) (H : Heap), Rel σ' τ' → LH D ay ad am oa od s σ' τ' ov' dv' H → ∀ ls : Array Slot, lv_has ls 9 [(0, .ref b), (1, .ref (ad 0)), (2, .ref (am 0)), (3, .ref oa), (4, .ref od), (5, .int i)] → W p l e room_1 s m #[.ref b] below meth c H [] (cells + 1) (slots + 6) Q (F0 m 1549 ls []))
    {H : Heap} (hH : LH D ay ad am oa od s σ τ ov dv H) {ls : Array Slot} (hl : lv_has ls 9 [(0, .ref b), (1, .ref (ad 0)), (2, .ref (am 0)), (3, .ref oa), (4, .ref od), (5, .int i)]) : W p l e room_1 s m #[.ref b] below meth c H [] cells slots Q (F0 m 894 ls []) := by
  obtain ⟨kc, σ', ov', mc, v, τ', hmc, hMet, hM, h5, h0, hR⟩ := p_contest (D := D) (ay := ay) (sd := sd) hlt hA.1 hA.2.2.2.2.2.2.2.1 R ov (xs (i + 1).toNatClampNeg) (xs (i + 2).toNatClampNeg)
  refine lv_aload_n X.x X.b dL_law_894 rfl (lv_at hl 1 rfl) ?_
  refine lv_aload_n X.x X.b dL_law_895 rfl (lv_at hl 0 rfl) ?_
  refine lv_iload X.x X.b dL_law_896 (lv_at hl 5 rfl) ?_
  refine lv_iconst (v := 1) X.x X.b dL_law_898 (by decide) ?_
  refine lv_iadd X.x X.b dL_law_899 ?_
  refine lc_sld X hX hb hH i1 dL_law_900 ?_
  refine lv_aload_n X.x X.b dL_law_901 rfl (lv_at hl 0 rfl) ?_
  refine lv_iload X.x X.b dL_law_902 (lv_at hl 5 rfl) ?_
  refine lv_iconst (v := 2) X.x X.b dL_law_904 (by decide) ?_
  refine lv_iadd X.x X.b dL_law_905 ?_
  refine lc_sld X hX hb hH i2 dL_law_906 ?_
  refine lv_aload_n X.x X.b dL_law_907 rfl (lv_at hl 3 rfl) ?_
  refine lc_W X hA hT hH (As := [.ref (ad 0), .int (xs (i + 1).toNatClampNeg), .int (xs (i + 2).toNatClampNeg), .ref oa]) (rest := []) hMet (vx_cwSW 4 X.ts gL_law_L_contest rfl rfl rfl (by decide +kernel) ⟨Nat.le_of_ble_eq_true rfl, Nat.le_of_ble_eq_true rfl⟩) rfl hl.1 rfl (Nat.le_of_ble_eq_true rfl) dL_law_908 (show cells + mc ≤ 601024 by omega) (show slots + 6 * mc ≤ 7293034 by omega) (fun H hH => ?_)
  refine lv_istore (lv' := [(6, _), (0, _), (1, _), (2, _), (3, _), (4, _), (5, _)]) X.x X.b dL_law_911 hl (by decide) rfl (fun ls hl => ?_)
  refine lv_aload_n X.x X.b dL_law_913 rfl (lv_at hl 3 rfl) ?_
  refine lv_aload_n X.x X.b dL_law_914 rfl (lv_at hl 1 rfl) ?_
  refine lv_iload X.x X.b dL_law_915 (lv_at hl 6 rfl) ?_
  refine lv_iconst (v := 1) X.x X.b dL_law_917 (by decide) ?_
  refine lv_iadd X.x X.b dL_law_918 ?_
  refine lc_sld X hX hb hH i1 dL_law_919 ?_
  refine lv_aload_n X.x X.b dL_law_920 rfl (lv_at hl 1 rfl) ?_
  refine lv_iload X.x X.b dL_law_921 (lv_at hl 6 rfl) ?_
  refine lv_iconst (v := 2) X.x X.b dL_law_923 (by decide) ?_
  refine lv_iadd X.x X.b dL_law_924 ?_
  refine lc_sld X hX hb hH i2 dL_law_925 ?_
  refine lc_MiE X hA hH (As := [.int (xs (i + 1).toNatClampNeg), .int (xs (i + 2).toNatClampNeg)]) (rest := []) (c_X4_contest hA.2.1 hM) (cwV 2 X.ts gL_law_X4_contest rfl rfl rfl (by decide +kernel) ⟨Nat.le_of_ble_eq_true rfl, Nat.le_of_ble_eq_true rfl⟩) rfl hl.1 rfl (Nat.le_of_ble_eq_true rfl) dL_law_926 (show cells + mc ≤ 601024 by omega) (show slots + 6 * mc ≤ 7293034 by omega) (fun H hH => ?_)
  refine lv_istore (lv' := [(7, _), (6, _), (0, _), (1, _), (2, _), (3, _), (4, _), (5, _)]) X.x X.b dL_law_929 hl (by decide) rfl (fun ls hl => ?_)
  refine lv_aload_n X.x X.b dL_law_931 rfl (lv_at hl 4 rfl) ?_
  refine lc_MiP X hA hH (As := []) (rest := []) (c_X4_thrown hA.2.1 (res := τ'.1 0 5) rfl) (cwV 0 X.ts gL_law_X4_thrown rfl rfl rfl (by decide +kernel) ⟨Nat.le_of_ble_eq_true rfl, Nat.le_of_ble_eq_true rfl⟩) rfl hl.1 rfl (Nat.le_of_ble_eq_true rfl) dL_law_932 (show cells + mc ≤ 601024 by omega) (show slots + 6 * mc ≤ 7293034 by omega) (fun H hH => ?_)
  refine lv_iload X.x X.b dL_law_935 (lv_at hl 1 rfl) ?_
  refine lv_icmp_eq (tgt := 942) X.x X.b dL_law_937 (by decide) (fun _ => ?_) (fun q => (q h5).elim)
  refine lv_iload X.x X.b dL_law_942 (lv_at hl 1 rfl) ?_
  refine lv_if_ne (tgt := 959) X.x X.b dL_law_944 (by decide) (fun _ => ?_) (fun q => ?_)
  · refine lv_goto (tgt := 1549) X.x X.b dL_law_959 (by decide) ?_
    exact W.widen (by omega) (by omega) (K σ' τ' ov' dv H hR hH ls (lv_sub hl [2, 3, 4, 5, 6, 7] rfl))
  have h0 := h0 q
  refine lv_aload_n X.x X.b dL_law_947 rfl (lv_at hl 5 rfl) ?_
  refine lv_iconst (v := 0) X.x X.b dL_law_948 (by decide) ?_
  refine lc_lald X hH dL_law_949 ?_
  refine lv_iload X.x X.b dL_law_950 (lv_at hl 0 rfl) ?_
  refine lv_i2l X.x X.b dL_law_952 rfl ?_
  refine W.lcmp X.x X.b dL_law_953 ?_
  refine lv_if_eq (tgt := 959) X.x X.b dL_law_954 (by decide) (fun _ => ?_) (fun q => (q (lg_cmp_same h0)).elim)
  refine lv_goto (tgt := 1549) X.x X.b dL_law_959 (by decide) ?_
  exact W.widen (by omega) (by omega) (K σ' τ' ov' dv H hR hH ls (lv_sub hl [2, 3, 4, 5, 6, 7] rfl))
set_option maxHeartbeats 4000000 in
set_option maxRecDepth 100000 in
theorem k_nextTurn {l : Launch} (hlt : l.stackTraces = false) {D : va_G} {ay : Nat → ClassId} {ad am : Nat → Nat} {oa od : Nat} {p : Program} {e : Env} {s : State} {m : MethodId} {b L : Nat} {xs : Nat → Int32} {below : List Frame} {meth : Method} {c : Code} {Q : State → Prop} {sd : Nat → Nat} {rt : Option FieldType} (X : CX D ay p s m #[.ref b] meth c cL_law 9 RL rt wsL_law) (hX : va_X b L xs s s.heap) (hb : b < s.heap.size) (hA : LA s.heap.size ad am oa od) (hT : TX (fun q => s.heap.size ≤ q) sd s) {σ : Mem} {τ : Mem × Int64} {ov : Int64} {dv : UInt64} (R : Rel σ τ) {cells slots : Nat} (hc : cells + 1 ≤ 601024) (hs : slots + 6 ≤ 7293034) {i : Int32} (i1 : vp_in (i + 1) L)
    (K : ∀ (σ' : Mem) (τ' : Mem × Int64) (ov' : Int64) (dv' : UInt64) (H : Heap), Rel σ' τ' → LH D ay ad am oa od s σ' τ' ov' dv' H → ∀ ls : Array Slot, lv_has ls 9 [(0, .ref b), (1, .ref (ad 0)), (2, .ref (am 0)), (3, .ref oa), (4, .ref od), (5, .int i)] → W p l e room_1 s m #[.ref b] below meth c H [] (cells + 1) (slots + 6) Q (F0 m 1549 ls []))
    {H : Heap} (hH : LH D ay ad am oa od s σ τ ov dv H) {ls : Array Slot} (hl : lv_has ls 9 [(0, .ref b), (1, .ref (ad 0)), (2, .ref (am 0)), (3, .ref oa), (4, .ref od), (5, .int i)]) : W p l e room_1 s m #[.ref b] below meth c H [] cells slots Q (F0 m 962 ls []) := by
  obtain ⟨kc, σ', ov', mc, v, τ', hmc, hMet, hM, h5, h0, hR⟩ := p_nextTurn (D := D) (ay := ay) (sd := sd) hlt hA.1 hA.2.2.2.2.2.2.2.1 R ov (xs (i + 1).toNatClampNeg)
  refine lv_aload_n X.x X.b dL_law_962 rfl (lv_at hl 1 rfl) ?_
  refine lv_aload_n X.x X.b dL_law_963 rfl (lv_at hl 0 rfl) ?_
  refine lv_iload X.x X.b dL_law_964 (lv_at hl 5 rfl) ?_
  refine lv_iconst (v := 1) X.x X.b dL_law_966 (by decide) ?_
  refine lv_iadd X.x X.b dL_law_967 ?_
  refine lc_sld X hX hb hH i1 dL_law_968 ?_
  refine lv_aload_n X.x X.b dL_law_969 rfl (lv_at hl 3 rfl) ?_
  refine lc_W X hA hT hH (As := [.ref (ad 0), .int (xs (i + 1).toNatClampNeg), .ref oa]) (rest := []) hMet (vx_cwSW 3 X.ts gL_law_L_nextTurn rfl rfl rfl (by decide +kernel) ⟨Nat.le_of_ble_eq_true rfl, Nat.le_of_ble_eq_true rfl⟩) rfl hl.1 rfl (Nat.le_of_ble_eq_true rfl) dL_law_970 (show cells + mc ≤ 601024 by omega) (show slots + 6 * mc ≤ 7293034 by omega) (fun H hH => ?_)
  refine lv_istore (lv' := [(6, _), (0, _), (1, _), (2, _), (3, _), (4, _), (5, _)]) X.x X.b dL_law_973 hl (by decide) rfl (fun ls hl => ?_)
  refine lv_aload_n X.x X.b dL_law_975 rfl (lv_at hl 3 rfl) ?_
  refine lv_aload_n X.x X.b dL_law_976 rfl (lv_at hl 1 rfl) ?_
  refine lv_iload X.x X.b dL_law_977 (lv_at hl 6 rfl) ?_
  refine lv_iconst (v := 1) X.x X.b dL_law_979 (by decide) ?_
  refine lv_iadd X.x X.b dL_law_980 ?_
  refine lc_sld X hX hb hH i1 dL_law_981 ?_
  refine lc_MiE X hA hH (As := [.int (xs (i + 1).toNatClampNeg)]) (rest := []) (c_X4_nextTurn hA.2.1 hM) (cwV 1 X.ts gL_law_X4_nextTurn rfl rfl rfl (by decide +kernel) ⟨Nat.le_of_ble_eq_true rfl, Nat.le_of_ble_eq_true rfl⟩) rfl hl.1 rfl (Nat.le_of_ble_eq_true rfl) dL_law_982 (show cells + mc ≤ 601024 by omega) (show slots + 6 * mc ≤ 7293034 by omega) (fun H hH => ?_)
  refine lv_istore (lv' := [(7, _), (6, _), (0, _), (1, _), (2, _), (3, _), (4, _), (5, _)]) X.x X.b dL_law_985 hl (by decide) rfl (fun ls hl => ?_)
  refine lv_aload_n X.x X.b dL_law_987 rfl (lv_at hl 4 rfl) ?_
  refine lc_MiP X hA hH (As := []) (rest := []) (c_X4_thrown hA.2.1 (res := τ'.1 0 5) rfl) (cwV 0 X.ts gL_law_X4_thrown rfl rfl rfl (by decide +kernel) ⟨Nat.le_of_ble_eq_true rfl, Nat.le_of_ble_eq_true rfl⟩) rfl hl.1 rfl (Nat.le_of_ble_eq_true rfl) dL_law_988 (show cells + mc ≤ 601024 by omega) (show slots + 6 * mc ≤ 7293034 by omega) (fun H hH => ?_)
  refine lv_iload X.x X.b dL_law_991 (lv_at hl 1 rfl) ?_
  refine lv_icmp_eq (tgt := 998) X.x X.b dL_law_993 (by decide) (fun _ => ?_) (fun q => (q h5).elim)
  refine lv_iload X.x X.b dL_law_998 (lv_at hl 1 rfl) ?_
  refine lv_if_ne (tgt := 1015) X.x X.b dL_law_1000 (by decide) (fun _ => ?_) (fun q => ?_)
  · refine lv_goto (tgt := 1549) X.x X.b dL_law_1015 (by decide) ?_
    exact W.widen (by omega) (by omega) (K σ' τ' ov' dv H hR hH ls (lv_sub hl [2, 3, 4, 5, 6, 7] rfl))
  have h0 := h0 q
  refine lv_aload_n X.x X.b dL_law_1003 rfl (lv_at hl 5 rfl) ?_
  refine lv_iconst (v := 0) X.x X.b dL_law_1004 (by decide) ?_
  refine lc_lald X hH dL_law_1005 ?_
  refine lv_iload X.x X.b dL_law_1006 (lv_at hl 0 rfl) ?_
  refine lv_i2l X.x X.b dL_law_1008 rfl ?_
  refine W.lcmp X.x X.b dL_law_1009 ?_
  refine lv_if_eq (tgt := 1015) X.x X.b dL_law_1010 (by decide) (fun _ => ?_) (fun q => (q (lg_cmp_same h0)).elim)
  refine lv_goto (tgt := 1549) X.x X.b dL_law_1015 (by decide) ?_
  exact W.widen (by omega) (by omega) (K σ' τ' ov' dv H hR hH ls (lv_sub hl [2, 3, 4, 5, 6, 7] rfl))
set_option maxHeartbeats 4000000 in
set_option maxRecDepth 100000 in
theorem k_span {l : Launch} (hlt : l.stackTraces = false) {D : va_G} {ay : Nat → ClassId} {ad am : Nat → Nat} {oa od : Nat} {p : Program} {e : Env} {s : State} {m : MethodId} {b L : Nat} {xs : Nat → Int32} {below : List Frame} {meth : Method} {c : Code} {Q : State → Prop} {sd : Nat → Nat} {rt : Option FieldType} (X : CX D ay p s m #[.ref b] meth c cL_law 9 RL rt wsL_law) (hX : va_X b L xs s s.heap) (hb : b < s.heap.size) (hA : LA s.heap.size ad am oa od) (hT : TX (fun q => s.heap.size ≤ q) sd s) {σ : Mem} {τ : Mem × Int64} {ov : Int64} {dv : UInt64} (R : Rel σ τ) {cells slots : Nat} (hc : cells + 1 ≤ 601024) (hs : slots + 6 ≤ 7293034) {i : Int32} (i1 : vp_in (i + 1) L) (i2 : vp_in (i + 2) L)
    (K : ∀ (σ' : Mem) (τ' : Mem × Int64) (ov' : Int64) (dv' : UInt64) (H : Heap), Rel σ' τ' → LH D ay ad am oa od s σ' τ' ov' dv' H → ∀ ls : Array Slot, lv_has ls 9 [(0, .ref b), (1, .ref (ad 0)), (2, .ref (am 0)), (3, .ref oa), (4, .ref od), (5, .int i)] → W p l e room_1 s m #[.ref b] below meth c H [] (cells + 1) (slots + 6) Q (F0 m 1549 ls []))
    {H : Heap} (hH : LH D ay ad am oa od s σ τ ov dv H) {ls : Array Slot} (hl : lv_has ls 9 [(0, .ref b), (1, .ref (ad 0)), (2, .ref (am 0)), (3, .ref oa), (4, .ref od), (5, .int i)]) : W p l e room_1 s m #[.ref b] below meth c H [] cells slots Q (F0 m 1018 ls []) := by
  obtain ⟨kc, σ', ov', mc, v, τ', hmc, hMet, hM, h5, h0, hR⟩ := p_span (D := D) (ay := ay) (sd := sd) hlt hA.1 hA.2.2.2.2.2.2.2.1 R ov (xs (i + 1).toNatClampNeg) (xs (i + 2).toNatClampNeg)
  refine lv_aload_n X.x X.b dL_law_1018 rfl (lv_at hl 1 rfl) ?_
  refine lv_aload_n X.x X.b dL_law_1019 rfl (lv_at hl 0 rfl) ?_
  refine lv_iload X.x X.b dL_law_1020 (lv_at hl 5 rfl) ?_
  refine lv_iconst (v := 1) X.x X.b dL_law_1022 (by decide) ?_
  refine lv_iadd X.x X.b dL_law_1023 ?_
  refine lc_sld X hX hb hH i1 dL_law_1024 ?_
  refine lv_aload_n X.x X.b dL_law_1025 rfl (lv_at hl 0 rfl) ?_
  refine lv_iload X.x X.b dL_law_1026 (lv_at hl 5 rfl) ?_
  refine lv_iconst (v := 2) X.x X.b dL_law_1028 (by decide) ?_
  refine lv_iadd X.x X.b dL_law_1029 ?_
  refine lc_sld X hX hb hH i2 dL_law_1030 ?_
  refine lv_aload_n X.x X.b dL_law_1031 rfl (lv_at hl 3 rfl) ?_
  refine lc_W X hA hT hH (As := [.ref (ad 0), .int (xs (i + 1).toNatClampNeg), .int (xs (i + 2).toNatClampNeg), .ref oa]) (rest := []) hMet (vx_cwSW 4 X.ts gL_law_L_span rfl rfl rfl (by decide +kernel) ⟨Nat.le_of_ble_eq_true rfl, Nat.le_of_ble_eq_true rfl⟩) rfl hl.1 rfl (Nat.le_of_ble_eq_true rfl) dL_law_1032 (show cells + mc ≤ 601024 by omega) (show slots + 6 * mc ≤ 7293034 by omega) (fun H hH => ?_)
  refine lv_istore (lv' := [(6, _), (0, _), (1, _), (2, _), (3, _), (4, _), (5, _)]) X.x X.b dL_law_1035 hl (by decide) rfl (fun ls hl => ?_)
  refine lv_aload_n X.x X.b dL_law_1037 rfl (lv_at hl 3 rfl) ?_
  refine lv_aload_n X.x X.b dL_law_1038 rfl (lv_at hl 1 rfl) ?_
  refine lv_iload X.x X.b dL_law_1039 (lv_at hl 6 rfl) ?_
  refine lv_iconst (v := 1) X.x X.b dL_law_1041 (by decide) ?_
  refine lv_iadd X.x X.b dL_law_1042 ?_
  refine lc_sld X hX hb hH i1 dL_law_1043 ?_
  refine lv_aload_n X.x X.b dL_law_1044 rfl (lv_at hl 1 rfl) ?_
  refine lv_iload X.x X.b dL_law_1045 (lv_at hl 6 rfl) ?_
  refine lv_iconst (v := 2) X.x X.b dL_law_1047 (by decide) ?_
  refine lv_iadd X.x X.b dL_law_1048 ?_
  refine lc_sld X hX hb hH i2 dL_law_1049 ?_
  refine lc_MiE X hA hH (As := [.int (xs (i + 1).toNatClampNeg), .int (xs (i + 2).toNatClampNeg)]) (rest := []) (c_X4_span hA.2.1 hM) (cwV 2 X.ts gL_law_X4_span rfl rfl rfl (by decide +kernel) ⟨Nat.le_of_ble_eq_true rfl, Nat.le_of_ble_eq_true rfl⟩) rfl hl.1 rfl (Nat.le_of_ble_eq_true rfl) dL_law_1050 (show cells + mc ≤ 601024 by omega) (show slots + 6 * mc ≤ 7293034 by omega) (fun H hH => ?_)
  refine lv_istore (lv' := [(7, _), (6, _), (0, _), (1, _), (2, _), (3, _), (4, _), (5, _)]) X.x X.b dL_law_1053 hl (by decide) rfl (fun ls hl => ?_)
  refine lv_aload_n X.x X.b dL_law_1055 rfl (lv_at hl 4 rfl) ?_
  refine lc_MiP X hA hH (As := []) (rest := []) (c_X4_thrown hA.2.1 (res := τ'.1 0 5) rfl) (cwV 0 X.ts gL_law_X4_thrown rfl rfl rfl (by decide +kernel) ⟨Nat.le_of_ble_eq_true rfl, Nat.le_of_ble_eq_true rfl⟩) rfl hl.1 rfl (Nat.le_of_ble_eq_true rfl) dL_law_1056 (show cells + mc ≤ 601024 by omega) (show slots + 6 * mc ≤ 7293034 by omega) (fun H hH => ?_)
  refine lv_iload X.x X.b dL_law_1059 (lv_at hl 1 rfl) ?_
  refine lv_icmp_eq (tgt := 1066) X.x X.b dL_law_1061 (by decide) (fun _ => ?_) (fun q => (q h5).elim)
  refine lv_iload X.x X.b dL_law_1066 (lv_at hl 1 rfl) ?_
  refine lv_if_ne (tgt := 1083) X.x X.b dL_law_1068 (by decide) (fun _ => ?_) (fun q => ?_)
  · refine lv_goto (tgt := 1549) X.x X.b dL_law_1083 (by decide) ?_
    exact W.widen (by omega) (by omega) (K σ' τ' ov' dv H hR hH ls (lv_sub hl [2, 3, 4, 5, 6, 7] rfl))
  have h0 := h0 q
  refine lv_aload_n X.x X.b dL_law_1071 rfl (lv_at hl 5 rfl) ?_
  refine lv_iconst (v := 0) X.x X.b dL_law_1072 (by decide) ?_
  refine lc_lald X hH dL_law_1073 ?_
  refine lv_iload X.x X.b dL_law_1074 (lv_at hl 0 rfl) ?_
  refine lv_i2l X.x X.b dL_law_1076 rfl ?_
  refine W.lcmp X.x X.b dL_law_1077 ?_
  refine lv_if_eq (tgt := 1083) X.x X.b dL_law_1078 (by decide) (fun _ => ?_) (fun q => (q (lg_cmp_same h0)).elim)
  refine lv_goto (tgt := 1549) X.x X.b dL_law_1083 (by decide) ?_
  exact W.widen (by omega) (by omega) (K σ' τ' ov' dv H hR hH ls (lv_sub hl [2, 3, 4, 5, 6, 7] rfl))
set_option maxHeartbeats 4000000 in
set_option maxRecDepth 100000 in
theorem k_count {l : Launch} (hlt : l.stackTraces = false) {D : va_G} {ay : Nat → ClassId} {ad am : Nat → Nat} {oa od : Nat} {p : Program} {e : Env} {s : State} {m : MethodId} {b L : Nat} {xs : Nat → Int32} {below : List Frame} {meth : Method} {c : Code} {Q : State → Prop} {sd : Nat → Nat} {rt : Option FieldType} (X : CX D ay p s m #[.ref b] meth c cL_law 9 RL rt wsL_law) (hX : va_X b L xs s s.heap) (hb : b < s.heap.size) (hA : LA s.heap.size ad am oa od) (hT : TX (fun q => s.heap.size ≤ q) sd s) {σ : Mem} {τ : Mem × Int64} {ov : Int64} {dv : UInt64} (R : Rel σ τ) {cells slots : Nat} (hc : cells + 1 ≤ 601024) (hs : slots + 6 ≤ 7293034) {i : Int32} (i1 : vp_in (i + 1) L)
    (K : ∀ (σ' : Mem) (τ' : Mem × Int64) (ov' : Int64) (dv' : UInt64) (H : Heap), Rel σ' τ' → LH D ay ad am oa od s σ' τ' ov' dv' H → ∀ ls : Array Slot, lv_has ls 9 [(0, .ref b), (1, .ref (ad 0)), (2, .ref (am 0)), (3, .ref oa), (4, .ref od), (5, .int i)] → W p l e room_1 s m #[.ref b] below meth c H [] (cells + 1) (slots + 6) Q (F0 m 1549 ls []))
    {H : Heap} (hH : LH D ay ad am oa od s σ τ ov dv H) {ls : Array Slot} (hl : lv_has ls 9 [(0, .ref b), (1, .ref (ad 0)), (2, .ref (am 0)), (3, .ref oa), (4, .ref od), (5, .int i)]) : W p l e room_1 s m #[.ref b] below meth c H [] cells slots Q (F0 m 1086 ls []) := by
  obtain ⟨kc, σ', ov', mc, v, τ', hmc, hMet, hM, h5, h0, hR⟩ := p_count (D := D) (ay := ay) (sd := sd) hlt hA.1 hA.2.2.2.2.2.2.2.1 R ov (xs (i + 1).toNatClampNeg)
  refine lv_aload_n X.x X.b dL_law_1086 rfl (lv_at hl 1 rfl) ?_
  refine lv_aload_n X.x X.b dL_law_1087 rfl (lv_at hl 0 rfl) ?_
  refine lv_iload X.x X.b dL_law_1088 (lv_at hl 5 rfl) ?_
  refine lv_iconst (v := 1) X.x X.b dL_law_1090 (by decide) ?_
  refine lv_iadd X.x X.b dL_law_1091 ?_
  refine lc_sld X hX hb hH i1 dL_law_1092 ?_
  refine lv_aload_n X.x X.b dL_law_1093 rfl (lv_at hl 3 rfl) ?_
  refine lc_W X hA hT hH (As := [.ref (ad 0), .int (xs (i + 1).toNatClampNeg), .ref oa]) (rest := []) hMet (vx_cwSW 3 X.ts gL_law_L_count rfl rfl rfl (by decide +kernel) ⟨Nat.le_of_ble_eq_true rfl, Nat.le_of_ble_eq_true rfl⟩) rfl hl.1 rfl (Nat.le_of_ble_eq_true rfl) dL_law_1094 (show cells + mc ≤ 601024 by omega) (show slots + 6 * mc ≤ 7293034 by omega) (fun H hH => ?_)
  refine lv_istore (lv' := [(6, _), (0, _), (1, _), (2, _), (3, _), (4, _), (5, _)]) X.x X.b dL_law_1097 hl (by decide) rfl (fun ls hl => ?_)
  refine lv_aload_n X.x X.b dL_law_1099 rfl (lv_at hl 3 rfl) ?_
  refine lv_aload_n X.x X.b dL_law_1100 rfl (lv_at hl 1 rfl) ?_
  refine lv_iload X.x X.b dL_law_1101 (lv_at hl 6 rfl) ?_
  refine lv_iconst (v := 1) X.x X.b dL_law_1103 (by decide) ?_
  refine lv_iadd X.x X.b dL_law_1104 ?_
  refine lc_sld X hX hb hH i1 dL_law_1105 ?_
  refine lc_MiE X hA hH (As := [.int (xs (i + 1).toNatClampNeg)]) (rest := []) (c_X4_count hA.2.1 hM) (cwV 1 X.ts gL_law_X4_count rfl rfl rfl (by decide +kernel) ⟨Nat.le_of_ble_eq_true rfl, Nat.le_of_ble_eq_true rfl⟩) rfl hl.1 rfl (Nat.le_of_ble_eq_true rfl) dL_law_1106 (show cells + mc ≤ 601024 by omega) (show slots + 6 * mc ≤ 7293034 by omega) (fun H hH => ?_)
  refine lv_istore (lv' := [(7, _), (6, _), (0, _), (1, _), (2, _), (3, _), (4, _), (5, _)]) X.x X.b dL_law_1109 hl (by decide) rfl (fun ls hl => ?_)
  refine lv_aload_n X.x X.b dL_law_1111 rfl (lv_at hl 4 rfl) ?_
  refine lc_MiP X hA hH (As := []) (rest := []) (c_X4_thrown hA.2.1 (res := τ'.1 0 5) rfl) (cwV 0 X.ts gL_law_X4_thrown rfl rfl rfl (by decide +kernel) ⟨Nat.le_of_ble_eq_true rfl, Nat.le_of_ble_eq_true rfl⟩) rfl hl.1 rfl (Nat.le_of_ble_eq_true rfl) dL_law_1112 (show cells + mc ≤ 601024 by omega) (show slots + 6 * mc ≤ 7293034 by omega) (fun H hH => ?_)
  refine lv_iload X.x X.b dL_law_1115 (lv_at hl 1 rfl) ?_
  refine lv_icmp_eq (tgt := 1122) X.x X.b dL_law_1117 (by decide) (fun _ => ?_) (fun q => (q h5).elim)
  refine lv_iload X.x X.b dL_law_1122 (lv_at hl 1 rfl) ?_
  refine lv_if_ne (tgt := 1139) X.x X.b dL_law_1124 (by decide) (fun _ => ?_) (fun q => ?_)
  · refine lv_goto (tgt := 1549) X.x X.b dL_law_1139 (by decide) ?_
    exact W.widen (by omega) (by omega) (K σ' τ' ov' dv H hR hH ls (lv_sub hl [2, 3, 4, 5, 6, 7] rfl))
  have h0 := h0 q
  refine lv_aload_n X.x X.b dL_law_1127 rfl (lv_at hl 5 rfl) ?_
  refine lv_iconst (v := 0) X.x X.b dL_law_1128 (by decide) ?_
  refine lc_lald X hH dL_law_1129 ?_
  refine lv_iload X.x X.b dL_law_1130 (lv_at hl 0 rfl) ?_
  refine lv_i2l X.x X.b dL_law_1132 rfl ?_
  refine W.lcmp X.x X.b dL_law_1133 ?_
  refine lv_if_eq (tgt := 1139) X.x X.b dL_law_1134 (by decide) (fun _ => ?_) (fun q => (q (lg_cmp_same h0)).elim)
  refine lv_goto (tgt := 1549) X.x X.b dL_law_1139 (by decide) ?_
  exact W.widen (by omega) (by omega) (K σ' τ' ov' dv H hR hH ls (lv_sub hl [2, 3, 4, 5, 6, 7] rfl))
set_option maxHeartbeats 4000000 in
set_option maxRecDepth 100000 in
theorem k_setting {l : Launch} (hlt : l.stackTraces = false) {D : va_G} {ay : Nat → ClassId} {ad am : Nat → Nat} {oa od : Nat} {p : Program} {e : Env} {s : State} {m : MethodId} {b L : Nat} {xs : Nat → Int32} {below : List Frame} {meth : Method} {c : Code} {Q : State → Prop} {sd : Nat → Nat} {rt : Option FieldType} (X : CX D ay p s m #[.ref b] meth c cL_law 9 RL rt wsL_law) (hX : va_X b L xs s s.heap) (hb : b < s.heap.size) (hA : LA s.heap.size ad am oa od) (hT : TX (fun q => s.heap.size ≤ q) sd s) {σ : Mem} {τ : Mem × Int64} {ov : Int64} {dv : UInt64} (R : Rel σ τ) {cells slots : Nat} (hc : cells + 1 ≤ 601024) (hs : slots + 6 ≤ 7293034) {i : Int32} (i1 : vp_in (i + 1) L)
    (K : ∀ (σ' : Mem) (τ' : Mem × Int64) (ov' : Int64) (dv' : UInt64) (H : Heap), Rel σ' τ' → LH D ay ad am oa od s σ' τ' ov' dv' H → ∀ ls : Array Slot, lv_has ls 9 [(0, .ref b), (1, .ref (ad 0)), (2, .ref (am 0)), (3, .ref oa), (4, .ref od), (5, .int i)] → W p l e room_1 s m #[.ref b] below meth c H [] (cells + 1) (slots + 6) Q (F0 m 1549 ls []))
    {H : Heap} (hH : LH D ay ad am oa od s σ τ ov dv H) {ls : Array Slot} (hl : lv_has ls 9 [(0, .ref b), (1, .ref (ad 0)), (2, .ref (am 0)), (3, .ref oa), (4, .ref od), (5, .int i)]) : W p l e room_1 s m #[.ref b] below meth c H [] cells slots Q (F0 m 1142 ls []) := by
  obtain ⟨kc, σ', ov', mc, v, τ', hmc, hMet, hM, h5, h0, hR⟩ := p_setting (D := D) (ay := ay) (sd := sd) hlt hA.1 hA.2.2.2.2.2.2.2.1 R ov (xs (i + 1).toNatClampNeg)
  refine lv_aload_n X.x X.b dL_law_1142 rfl (lv_at hl 1 rfl) ?_
  refine lv_aload_n X.x X.b dL_law_1143 rfl (lv_at hl 0 rfl) ?_
  refine lv_iload X.x X.b dL_law_1144 (lv_at hl 5 rfl) ?_
  refine lv_iconst (v := 1) X.x X.b dL_law_1146 (by decide) ?_
  refine lv_iadd X.x X.b dL_law_1147 ?_
  refine lc_sld X hX hb hH i1 dL_law_1148 ?_
  refine lv_aload_n X.x X.b dL_law_1149 rfl (lv_at hl 3 rfl) ?_
  refine lc_W X hA hT hH (As := [.ref (ad 0), .int (xs (i + 1).toNatClampNeg), .ref oa]) (rest := []) hMet (vx_cwSW 3 X.ts gL_law_L_setting rfl rfl rfl (by decide +kernel) ⟨Nat.le_of_ble_eq_true rfl, Nat.le_of_ble_eq_true rfl⟩) rfl hl.1 rfl (Nat.le_of_ble_eq_true rfl) dL_law_1150 (show cells + mc ≤ 601024 by omega) (show slots + 6 * mc ≤ 7293034 by omega) (fun H hH => ?_)
  refine lv_istore (lv' := [(6, _), (0, _), (1, _), (2, _), (3, _), (4, _), (5, _)]) X.x X.b dL_law_1153 hl (by decide) rfl (fun ls hl => ?_)
  refine lv_aload_n X.x X.b dL_law_1155 rfl (lv_at hl 3 rfl) ?_
  refine lv_aload_n X.x X.b dL_law_1156 rfl (lv_at hl 1 rfl) ?_
  refine lv_iload X.x X.b dL_law_1157 (lv_at hl 6 rfl) ?_
  refine lv_iconst (v := 1) X.x X.b dL_law_1159 (by decide) ?_
  refine lv_iadd X.x X.b dL_law_1160 ?_
  refine lc_sld X hX hb hH i1 dL_law_1161 ?_
  refine lc_MiE X hA hH (As := [.int (xs (i + 1).toNatClampNeg)]) (rest := []) (c_X4_setting hA.2.1 hM) (cwV 1 X.ts gL_law_X4_setting rfl rfl rfl (by decide +kernel) ⟨Nat.le_of_ble_eq_true rfl, Nat.le_of_ble_eq_true rfl⟩) rfl hl.1 rfl (Nat.le_of_ble_eq_true rfl) dL_law_1162 (show cells + mc ≤ 601024 by omega) (show slots + 6 * mc ≤ 7293034 by omega) (fun H hH => ?_)
  refine lv_istore (lv' := [(7, _), (6, _), (0, _), (1, _), (2, _), (3, _), (4, _), (5, _)]) X.x X.b dL_law_1165 hl (by decide) rfl (fun ls hl => ?_)
  refine lv_aload_n X.x X.b dL_law_1167 rfl (lv_at hl 4 rfl) ?_
  refine lc_MiP X hA hH (As := []) (rest := []) (c_X4_thrown hA.2.1 (res := τ'.1 0 5) rfl) (cwV 0 X.ts gL_law_X4_thrown rfl rfl rfl (by decide +kernel) ⟨Nat.le_of_ble_eq_true rfl, Nat.le_of_ble_eq_true rfl⟩) rfl hl.1 rfl (Nat.le_of_ble_eq_true rfl) dL_law_1168 (show cells + mc ≤ 601024 by omega) (show slots + 6 * mc ≤ 7293034 by omega) (fun H hH => ?_)
  refine lv_iload X.x X.b dL_law_1171 (lv_at hl 1 rfl) ?_
  refine lv_icmp_eq (tgt := 1178) X.x X.b dL_law_1173 (by decide) (fun _ => ?_) (fun q => (q h5).elim)
  refine lv_iload X.x X.b dL_law_1178 (lv_at hl 1 rfl) ?_
  refine lv_if_ne (tgt := 1195) X.x X.b dL_law_1180 (by decide) (fun _ => ?_) (fun q => ?_)
  · refine lv_goto (tgt := 1549) X.x X.b dL_law_1195 (by decide) ?_
    exact W.widen (by omega) (by omega) (K σ' τ' ov' dv H hR hH ls (lv_sub hl [2, 3, 4, 5, 6, 7] rfl))
  have h0 := h0 q
  refine lv_aload_n X.x X.b dL_law_1183 rfl (lv_at hl 5 rfl) ?_
  refine lv_iconst (v := 0) X.x X.b dL_law_1184 (by decide) ?_
  refine lc_lald X hH dL_law_1185 ?_
  refine lv_iload X.x X.b dL_law_1186 (lv_at hl 0 rfl) ?_
  refine lv_i2l X.x X.b dL_law_1188 rfl ?_
  refine W.lcmp X.x X.b dL_law_1189 ?_
  refine lv_if_eq (tgt := 1195) X.x X.b dL_law_1190 (by decide) (fun _ => ?_) (fun q => (q (lg_cmp_same h0)).elim)
  refine lv_goto (tgt := 1549) X.x X.b dL_law_1195 (by decide) ?_
  exact W.widen (by omega) (by omega) (K σ' τ' ov' dv H hR hH ls (lv_sub hl [2, 3, 4, 5, 6, 7] rfl))
set_option maxHeartbeats 4000000 in
set_option maxRecDepth 100000 in
theorem k_leaderAfter {l : Launch} (hlt : l.stackTraces = false) {D : va_G} {ay : Nat → ClassId} {ad am : Nat → Nat} {oa od : Nat} {p : Program} {e : Env} {s : State} {m : MethodId} {b L : Nat} {xs : Nat → Int32} {below : List Frame} {meth : Method} {c : Code} {Q : State → Prop} {sd : Nat → Nat} {rt : Option FieldType} (X : CX D ay p s m #[.ref b] meth c cL_law 9 RL rt wsL_law) (hX : va_X b L xs s s.heap) (hb : b < s.heap.size) (hA : LA s.heap.size ad am oa od) (hT : TX (fun q => s.heap.size ≤ q) sd s) {σ : Mem} {τ : Mem × Int64} {ov : Int64} {dv : UInt64} (R : Rel σ τ) {cells slots : Nat} (hc : cells + 1 ≤ 601024) (hs : slots + 6 ≤ 7293034) {i : Int32} (i1 : vp_in (i + 1) L)
    (K : ∀ (σ' : Mem) (τ' : Mem × Int64) (ov' : Int64) (dv' : UInt64) (H : Heap), Rel σ' τ' → LH D ay ad am oa od s σ' τ' ov' dv' H → ∀ ls : Array Slot, lv_has ls 9 [(0, .ref b), (1, .ref (ad 0)), (2, .ref (am 0)), (3, .ref oa), (4, .ref od), (5, .int i)] → W p l e room_1 s m #[.ref b] below meth c H [] (cells + 1) (slots + 6) Q (F0 m 1549 ls []))
    {H : Heap} (hH : LH D ay ad am oa od s σ τ ov dv H) {ls : Array Slot} (hl : lv_has ls 9 [(0, .ref b), (1, .ref (ad 0)), (2, .ref (am 0)), (3, .ref oa), (4, .ref od), (5, .int i)]) : W p l e room_1 s m #[.ref b] below meth c H [] cells slots Q (F0 m 1198 ls []) := by
  obtain ⟨kc, σ', ov', mc, v, τ', hmc, hMet, hM, h5, h0, hR⟩ := p_leaderAfter (D := D) (ay := ay) (sd := sd) hlt hA.1 hA.2.2.2.2.2.2.2.1 R ov (xs (i + 1).toNatClampNeg)
  refine lv_aload_n X.x X.b dL_law_1198 rfl (lv_at hl 1 rfl) ?_
  refine lv_aload_n X.x X.b dL_law_1199 rfl (lv_at hl 0 rfl) ?_
  refine lv_iload X.x X.b dL_law_1200 (lv_at hl 5 rfl) ?_
  refine lv_iconst (v := 1) X.x X.b dL_law_1202 (by decide) ?_
  refine lv_iadd X.x X.b dL_law_1203 ?_
  refine lc_sld X hX hb hH i1 dL_law_1204 ?_
  refine lv_aload_n X.x X.b dL_law_1205 rfl (lv_at hl 3 rfl) ?_
  refine lc_W X hA hT hH (As := [.ref (ad 0), .int (xs (i + 1).toNatClampNeg), .ref oa]) (rest := []) hMet (vx_cwSW 3 X.ts gL_law_L_leaderAfter rfl rfl rfl (by decide +kernel) ⟨Nat.le_of_ble_eq_true rfl, Nat.le_of_ble_eq_true rfl⟩) rfl hl.1 rfl (Nat.le_of_ble_eq_true rfl) dL_law_1206 (show cells + mc ≤ 601024 by omega) (show slots + 6 * mc ≤ 7293034 by omega) (fun H hH => ?_)
  refine lv_istore (lv' := [(6, _), (0, _), (1, _), (2, _), (3, _), (4, _), (5, _)]) X.x X.b dL_law_1209 hl (by decide) rfl (fun ls hl => ?_)
  refine lv_aload_n X.x X.b dL_law_1211 rfl (lv_at hl 3 rfl) ?_
  refine lv_aload_n X.x X.b dL_law_1212 rfl (lv_at hl 1 rfl) ?_
  refine lv_iload X.x X.b dL_law_1213 (lv_at hl 6 rfl) ?_
  refine lv_iconst (v := 1) X.x X.b dL_law_1215 (by decide) ?_
  refine lv_iadd X.x X.b dL_law_1216 ?_
  refine lc_sld X hX hb hH i1 dL_law_1217 ?_
  refine lc_MiE X hA hH (As := [.int (xs (i + 1).toNatClampNeg)]) (rest := []) (c_X4_leaderAfter hA.2.1 hM) (cwV 1 X.ts gL_law_X4_leaderAfter rfl rfl rfl (by decide +kernel) ⟨Nat.le_of_ble_eq_true rfl, Nat.le_of_ble_eq_true rfl⟩) rfl hl.1 rfl (Nat.le_of_ble_eq_true rfl) dL_law_1218 (show cells + mc ≤ 601024 by omega) (show slots + 6 * mc ≤ 7293034 by omega) (fun H hH => ?_)
  refine lv_istore (lv' := [(7, _), (6, _), (0, _), (1, _), (2, _), (3, _), (4, _), (5, _)]) X.x X.b dL_law_1221 hl (by decide) rfl (fun ls hl => ?_)
  refine lv_aload_n X.x X.b dL_law_1223 rfl (lv_at hl 4 rfl) ?_
  refine lc_MiP X hA hH (As := []) (rest := []) (c_X4_thrown hA.2.1 (res := τ'.1 0 5) rfl) (cwV 0 X.ts gL_law_X4_thrown rfl rfl rfl (by decide +kernel) ⟨Nat.le_of_ble_eq_true rfl, Nat.le_of_ble_eq_true rfl⟩) rfl hl.1 rfl (Nat.le_of_ble_eq_true rfl) dL_law_1224 (show cells + mc ≤ 601024 by omega) (show slots + 6 * mc ≤ 7293034 by omega) (fun H hH => ?_)
  refine lv_iload X.x X.b dL_law_1227 (lv_at hl 1 rfl) ?_
  refine lv_icmp_eq (tgt := 1234) X.x X.b dL_law_1229 (by decide) (fun _ => ?_) (fun q => (q h5).elim)
  refine lv_iload X.x X.b dL_law_1234 (lv_at hl 1 rfl) ?_
  refine lv_if_ne (tgt := 1251) X.x X.b dL_law_1236 (by decide) (fun _ => ?_) (fun q => ?_)
  · refine lv_goto (tgt := 1549) X.x X.b dL_law_1251 (by decide) ?_
    exact W.widen (by omega) (by omega) (K σ' τ' ov' dv H hR hH ls (lv_sub hl [2, 3, 4, 5, 6, 7] rfl))
  have h0 := h0 q
  refine lv_aload_n X.x X.b dL_law_1239 rfl (lv_at hl 5 rfl) ?_
  refine lv_iconst (v := 0) X.x X.b dL_law_1240 (by decide) ?_
  refine lc_lald X hH dL_law_1241 ?_
  refine lv_iload X.x X.b dL_law_1242 (lv_at hl 0 rfl) ?_
  refine lv_i2l X.x X.b dL_law_1244 rfl ?_
  refine W.lcmp X.x X.b dL_law_1245 ?_
  refine lv_if_eq (tgt := 1251) X.x X.b dL_law_1246 (by decide) (fun _ => ?_) (fun q => (q (lg_cmp_same h0)).elim)
  refine lv_goto (tgt := 1549) X.x X.b dL_law_1251 (by decide) ?_
  exact W.widen (by omega) (by omega) (K σ' τ' ov' dv H hR hH ls (lv_sub hl [2, 3, 4, 5, 6, 7] rfl))
set_option maxHeartbeats 4000000 in
set_option maxRecDepth 100000 in
theorem k_overtakes {l : Launch} (hlt : l.stackTraces = false) {D : va_G} {ay : Nat → ClassId} {ad am : Nat → Nat} {oa od : Nat} {p : Program} {e : Env} {s : State} {m : MethodId} {b L : Nat} {xs : Nat → Int32} {below : List Frame} {meth : Method} {c : Code} {Q : State → Prop} {sd : Nat → Nat} {rt : Option FieldType} (X : CX D ay p s m #[.ref b] meth c cL_law 9 RL rt wsL_law) (hX : va_X b L xs s s.heap) (hb : b < s.heap.size) (hA : LA s.heap.size ad am oa od) (hT : TX (fun q => s.heap.size ≤ q) sd s) {σ : Mem} {τ : Mem × Int64} {ov : Int64} {dv : UInt64} (R : Rel σ τ) {cells slots : Nat} (hc : cells + 1 ≤ 601024) (hs : slots + 6 ≤ 7293034) {i : Int32} (i1 : vp_in (i + 1) L) (i2 : vp_in (i + 2) L) (i3 : vp_in (i + 3) L)
    (K : ∀ (σ' : Mem) (τ' : Mem × Int64) (ov' : Int64) (dv' : UInt64) (H : Heap), Rel σ' τ' → LH D ay ad am oa od s σ' τ' ov' dv' H → ∀ ls : Array Slot, lv_has ls 9 [(0, .ref b), (1, .ref (ad 0)), (2, .ref (am 0)), (3, .ref oa), (4, .ref od), (5, .int i)] → W p l e room_1 s m #[.ref b] below meth c H [] (cells + 1) (slots + 6) Q (F0 m 1549 ls []))
    {H : Heap} (hH : LH D ay ad am oa od s σ τ ov dv H) {ls : Array Slot} (hl : lv_has ls 9 [(0, .ref b), (1, .ref (ad 0)), (2, .ref (am 0)), (3, .ref oa), (4, .ref od), (5, .int i)]) : W p l e room_1 s m #[.ref b] below meth c H [] cells slots Q (F0 m 1254 ls []) := by
  obtain ⟨kc, σ', ov', mc, v, τ', hmc, hMet, hM, h5, h0, hR⟩ := p_overtakes (D := D) (ay := ay) (sd := sd) hlt hA.1 hA.2.2.2.2.2.2.2.1 R ov (xs (i + 1).toNatClampNeg) (xs (i + 2).toNatClampNeg) (xs (i + 3).toNatClampNeg)
  refine lv_aload_n X.x X.b dL_law_1254 rfl (lv_at hl 1 rfl) ?_
  refine lv_aload_n X.x X.b dL_law_1255 rfl (lv_at hl 0 rfl) ?_
  refine lv_iload X.x X.b dL_law_1256 (lv_at hl 5 rfl) ?_
  refine lv_iconst (v := 1) X.x X.b dL_law_1258 (by decide) ?_
  refine lv_iadd X.x X.b dL_law_1259 ?_
  refine lc_sld X hX hb hH i1 dL_law_1260 ?_
  refine lv_aload_n X.x X.b dL_law_1261 rfl (lv_at hl 0 rfl) ?_
  refine lv_iload X.x X.b dL_law_1262 (lv_at hl 5 rfl) ?_
  refine lv_iconst (v := 2) X.x X.b dL_law_1264 (by decide) ?_
  refine lv_iadd X.x X.b dL_law_1265 ?_
  refine lc_sld X hX hb hH i2 dL_law_1266 ?_
  refine lv_aload_n X.x X.b dL_law_1267 rfl (lv_at hl 0 rfl) ?_
  refine lv_iload X.x X.b dL_law_1268 (lv_at hl 5 rfl) ?_
  refine lv_iconst (v := 3) X.x X.b dL_law_1270 (by decide) ?_
  refine lv_iadd X.x X.b dL_law_1271 ?_
  refine lc_sld X hX hb hH i3 dL_law_1272 ?_
  refine lv_aload_n X.x X.b dL_law_1273 rfl (lv_at hl 3 rfl) ?_
  refine lc_W X hA hT hH (As := [.ref (ad 0), .int (xs (i + 1).toNatClampNeg), .int (xs (i + 2).toNatClampNeg), .int (xs (i + 3).toNatClampNeg), .ref oa]) (rest := []) hMet (vx_cwSW 5 X.ts gL_law_L_overtakes rfl rfl rfl (by decide +kernel) ⟨Nat.le_of_ble_eq_true rfl, Nat.le_of_ble_eq_true rfl⟩) rfl hl.1 rfl (Nat.le_of_ble_eq_true rfl) dL_law_1274 (show cells + mc ≤ 601024 by omega) (show slots + 6 * mc ≤ 7293034 by omega) (fun H hH => ?_)
  refine lv_istore (lv' := [(6, _), (0, _), (1, _), (2, _), (3, _), (4, _), (5, _)]) X.x X.b dL_law_1277 hl (by decide) rfl (fun ls hl => ?_)
  refine lv_aload_n X.x X.b dL_law_1279 rfl (lv_at hl 3 rfl) ?_
  refine lv_aload_n X.x X.b dL_law_1280 rfl (lv_at hl 1 rfl) ?_
  refine lv_iload X.x X.b dL_law_1281 (lv_at hl 6 rfl) ?_
  refine lv_iconst (v := 1) X.x X.b dL_law_1283 (by decide) ?_
  refine lv_iadd X.x X.b dL_law_1284 ?_
  refine lc_sld X hX hb hH i1 dL_law_1285 ?_
  refine lv_aload_n X.x X.b dL_law_1286 rfl (lv_at hl 1 rfl) ?_
  refine lv_iload X.x X.b dL_law_1287 (lv_at hl 6 rfl) ?_
  refine lv_iconst (v := 2) X.x X.b dL_law_1289 (by decide) ?_
  refine lv_iadd X.x X.b dL_law_1290 ?_
  refine lc_sld X hX hb hH i2 dL_law_1291 ?_
  refine lv_aload_n X.x X.b dL_law_1292 rfl (lv_at hl 1 rfl) ?_
  refine lv_iload X.x X.b dL_law_1293 (lv_at hl 6 rfl) ?_
  refine lv_iconst (v := 3) X.x X.b dL_law_1295 (by decide) ?_
  refine lv_iadd X.x X.b dL_law_1296 ?_
  refine lc_sld X hX hb hH i3 dL_law_1297 ?_
  refine lc_MiE X hA hH (As := [.int (xs (i + 1).toNatClampNeg), .int (xs (i + 2).toNatClampNeg), .int (xs (i + 3).toNatClampNeg)]) (rest := []) (c_X4_overtakes hA.2.1 hM) (cwV 3 X.ts gL_law_X4_overtakes rfl rfl rfl (by decide +kernel) ⟨Nat.le_of_ble_eq_true rfl, Nat.le_of_ble_eq_true rfl⟩) rfl hl.1 rfl (Nat.le_of_ble_eq_true rfl) dL_law_1298 (show cells + mc ≤ 601024 by omega) (show slots + 6 * mc ≤ 7293034 by omega) (fun H hH => ?_)
  refine lv_istore (lv' := [(7, _), (6, _), (0, _), (1, _), (2, _), (3, _), (4, _), (5, _)]) X.x X.b dL_law_1301 hl (by decide) rfl (fun ls hl => ?_)
  refine lv_aload_n X.x X.b dL_law_1303 rfl (lv_at hl 4 rfl) ?_
  refine lc_MiP X hA hH (As := []) (rest := []) (c_X4_thrown hA.2.1 (res := τ'.1 0 5) rfl) (cwV 0 X.ts gL_law_X4_thrown rfl rfl rfl (by decide +kernel) ⟨Nat.le_of_ble_eq_true rfl, Nat.le_of_ble_eq_true rfl⟩) rfl hl.1 rfl (Nat.le_of_ble_eq_true rfl) dL_law_1304 (show cells + mc ≤ 601024 by omega) (show slots + 6 * mc ≤ 7293034 by omega) (fun H hH => ?_)
  refine lv_iload X.x X.b dL_law_1307 (lv_at hl 1 rfl) ?_
  refine lv_icmp_eq (tgt := 1314) X.x X.b dL_law_1309 (by decide) (fun _ => ?_) (fun q => (q h5).elim)
  refine lv_iload X.x X.b dL_law_1314 (lv_at hl 1 rfl) ?_
  refine lv_if_ne (tgt := 1331) X.x X.b dL_law_1316 (by decide) (fun _ => ?_) (fun q => ?_)
  · refine lv_goto (tgt := 1549) X.x X.b dL_law_1331 (by decide) ?_
    exact W.widen (by omega) (by omega) (K σ' τ' ov' dv H hR hH ls (lv_sub hl [2, 3, 4, 5, 6, 7] rfl))
  have h0 := h0 q
  refine lv_aload_n X.x X.b dL_law_1319 rfl (lv_at hl 5 rfl) ?_
  refine lv_iconst (v := 0) X.x X.b dL_law_1320 (by decide) ?_
  refine lc_lald X hH dL_law_1321 ?_
  refine lv_iload X.x X.b dL_law_1322 (lv_at hl 0 rfl) ?_
  refine lv_i2l X.x X.b dL_law_1324 rfl ?_
  refine W.lcmp X.x X.b dL_law_1325 ?_
  refine lv_if_eq (tgt := 1331) X.x X.b dL_law_1326 (by decide) (fun _ => ?_) (fun q => (q (lg_cmp_same h0)).elim)
  refine lv_goto (tgt := 1549) X.x X.b dL_law_1331 (by decide) ?_
  exact W.widen (by omega) (by omega) (K σ' τ' ov' dv H hR hH ls (lv_sub hl [2, 3, 4, 5, 6, 7] rfl))
set_option maxHeartbeats 4000000 in
set_option maxRecDepth 100000 in
theorem k_turnsIn {l : Launch} (hlt : l.stackTraces = false) {D : va_G} {ay : Nat → ClassId} {ad am : Nat → Nat} {oa od : Nat} {p : Program} {e : Env} {s : State} {m : MethodId} {b L : Nat} {xs : Nat → Int32} {below : List Frame} {meth : Method} {c : Code} {Q : State → Prop} {sd : Nat → Nat} {rt : Option FieldType} (X : CX D ay p s m #[.ref b] meth c cL_law 9 RL rt wsL_law) (hX : va_X b L xs s s.heap) (hb : b < s.heap.size) (hA : LA s.heap.size ad am oa od) (hT : TX (fun q => s.heap.size ≤ q) sd s) {σ : Mem} {τ : Mem × Int64} {ov : Int64} {dv : UInt64} (R : Rel σ τ) {cells slots : Nat} (hc : cells + 1 ≤ 601024) (hs : slots + 6 ≤ 7293034) {i : Int32} (i1 : vp_in (i + 1) L)
    (K : ∀ (σ' : Mem) (τ' : Mem × Int64) (ov' : Int64) (dv' : UInt64) (H : Heap), Rel σ' τ' → LH D ay ad am oa od s σ' τ' ov' dv' H → ∀ ls : Array Slot, lv_has ls 9 [(0, .ref b), (1, .ref (ad 0)), (2, .ref (am 0)), (3, .ref oa), (4, .ref od), (5, .int i)] → W p l e room_1 s m #[.ref b] below meth c H [] (cells + 1) (slots + 6) Q (F0 m 1549 ls []))
    {H : Heap} (hH : LH D ay ad am oa od s σ τ ov dv H) {ls : Array Slot} (hl : lv_has ls 9 [(0, .ref b), (1, .ref (ad 0)), (2, .ref (am 0)), (3, .ref oa), (4, .ref od), (5, .int i)]) : W p l e room_1 s m #[.ref b] below meth c H [] cells slots Q (F0 m 1334 ls []) := by
  obtain ⟨kc, σ', ov', mc, v, τ', hmc, hMet, hM, h5, h0, hR⟩ := p_turnsIn (D := D) (ay := ay) (sd := sd) hlt hA.1 hA.2.2.2.2.2.2.2.1 R ov (xs (i + 1).toNatClampNeg)
  refine lv_aload_n X.x X.b dL_law_1334 rfl (lv_at hl 1 rfl) ?_
  refine lv_aload_n X.x X.b dL_law_1335 rfl (lv_at hl 0 rfl) ?_
  refine lv_iload X.x X.b dL_law_1336 (lv_at hl 5 rfl) ?_
  refine lv_iconst (v := 1) X.x X.b dL_law_1338 (by decide) ?_
  refine lv_iadd X.x X.b dL_law_1339 ?_
  refine lc_sld X hX hb hH i1 dL_law_1340 ?_
  refine lv_aload_n X.x X.b dL_law_1341 rfl (lv_at hl 3 rfl) ?_
  refine lc_W X hA hT hH (As := [.ref (ad 0), .int (xs (i + 1).toNatClampNeg), .ref oa]) (rest := []) hMet (vx_cwSW 3 X.ts gL_law_L_turnsIn rfl rfl rfl (by decide +kernel) ⟨Nat.le_of_ble_eq_true rfl, Nat.le_of_ble_eq_true rfl⟩) rfl hl.1 rfl (Nat.le_of_ble_eq_true rfl) dL_law_1342 (show cells + mc ≤ 601024 by omega) (show slots + 6 * mc ≤ 7293034 by omega) (fun H hH => ?_)
  refine lv_istore (lv' := [(6, _), (0, _), (1, _), (2, _), (3, _), (4, _), (5, _)]) X.x X.b dL_law_1345 hl (by decide) rfl (fun ls hl => ?_)
  refine lv_aload_n X.x X.b dL_law_1347 rfl (lv_at hl 3 rfl) ?_
  refine lv_aload_n X.x X.b dL_law_1348 rfl (lv_at hl 1 rfl) ?_
  refine lv_iload X.x X.b dL_law_1349 (lv_at hl 6 rfl) ?_
  refine lv_iconst (v := 1) X.x X.b dL_law_1351 (by decide) ?_
  refine lv_iadd X.x X.b dL_law_1352 ?_
  refine lc_sld X hX hb hH i1 dL_law_1353 ?_
  refine lc_MiE X hA hH (As := [.int (xs (i + 1).toNatClampNeg)]) (rest := []) (c_X4_turnsIn hA.2.1 hM) (cwV 1 X.ts gL_law_X4_turnsIn rfl rfl rfl (by decide +kernel) ⟨Nat.le_of_ble_eq_true rfl, Nat.le_of_ble_eq_true rfl⟩) rfl hl.1 rfl (Nat.le_of_ble_eq_true rfl) dL_law_1354 (show cells + mc ≤ 601024 by omega) (show slots + 6 * mc ≤ 7293034 by omega) (fun H hH => ?_)
  refine lv_istore (lv' := [(7, _), (6, _), (0, _), (1, _), (2, _), (3, _), (4, _), (5, _)]) X.x X.b dL_law_1357 hl (by decide) rfl (fun ls hl => ?_)
  refine lv_aload_n X.x X.b dL_law_1359 rfl (lv_at hl 4 rfl) ?_
  refine lc_MiP X hA hH (As := []) (rest := []) (c_X4_thrown hA.2.1 (res := τ'.1 0 5) rfl) (cwV 0 X.ts gL_law_X4_thrown rfl rfl rfl (by decide +kernel) ⟨Nat.le_of_ble_eq_true rfl, Nat.le_of_ble_eq_true rfl⟩) rfl hl.1 rfl (Nat.le_of_ble_eq_true rfl) dL_law_1360 (show cells + mc ≤ 601024 by omega) (show slots + 6 * mc ≤ 7293034 by omega) (fun H hH => ?_)
  refine lv_iload X.x X.b dL_law_1363 (lv_at hl 1 rfl) ?_
  refine lv_icmp_eq (tgt := 1370) X.x X.b dL_law_1365 (by decide) (fun _ => ?_) (fun q => (q h5).elim)
  refine lv_iload X.x X.b dL_law_1370 (lv_at hl 1 rfl) ?_
  refine lv_if_ne (tgt := 1387) X.x X.b dL_law_1372 (by decide) (fun _ => ?_) (fun q => ?_)
  · refine lv_goto (tgt := 1549) X.x X.b dL_law_1387 (by decide) ?_
    exact W.widen (by omega) (by omega) (K σ' τ' ov' dv H hR hH ls (lv_sub hl [2, 3, 4, 5, 6, 7] rfl))
  have h0 := h0 q
  refine lv_aload_n X.x X.b dL_law_1375 rfl (lv_at hl 5 rfl) ?_
  refine lv_iconst (v := 0) X.x X.b dL_law_1376 (by decide) ?_
  refine lc_lald X hH dL_law_1377 ?_
  refine lv_iload X.x X.b dL_law_1378 (lv_at hl 0 rfl) ?_
  refine lv_i2l X.x X.b dL_law_1380 rfl ?_
  refine W.lcmp X.x X.b dL_law_1381 ?_
  refine lv_if_eq (tgt := 1387) X.x X.b dL_law_1382 (by decide) (fun _ => ?_) (fun q => (q (lg_cmp_same h0)).elim)
  refine lv_goto (tgt := 1549) X.x X.b dL_law_1387 (by decide) ?_
  exact W.widen (by omega) (by omega) (K σ' τ' ov' dv H hR hH ls (lv_sub hl [2, 3, 4, 5, 6, 7] rfl))
set_option maxHeartbeats 4000000 in
set_option maxRecDepth 100000 in
theorem k_leastSpeed {l : Launch} (hlt : l.stackTraces = false) {D : va_G} {ay : Nat → ClassId} {ad am : Nat → Nat} {oa od : Nat} {p : Program} {e : Env} {s : State} {m : MethodId} {b L : Nat} {xs : Nat → Int32} {below : List Frame} {meth : Method} {c : Code} {Q : State → Prop} {sd : Nat → Nat} {rt : Option FieldType} (X : CX D ay p s m #[.ref b] meth c cL_law 9 RL rt wsL_law) (hX : va_X b L xs s s.heap) (hb : b < s.heap.size) (hA : LA s.heap.size ad am oa od) (hT : TX (fun q => s.heap.size ≤ q) sd s) {σ : Mem} {τ : Mem × Int64} {ov : Int64} {dv : UInt64} (R : Rel σ τ) {cells slots : Nat} (hc : cells + 1 ≤ 601024) (hs : slots + 6 ≤ 7293034) {i : Int32} (i1 : vp_in (i + 1) L) (i2 : vp_in (i + 2) L)
    (K : ∀ (σ' : Mem) (τ' : Mem × Int64) (ov' : Int64) (dv' : UInt64) (H : Heap), Rel σ' τ' → LH D ay ad am oa od s σ' τ' ov' dv' H → ∀ ls : Array Slot, lv_has ls 9 [(0, .ref b), (1, .ref (ad 0)), (2, .ref (am 0)), (3, .ref oa), (4, .ref od), (5, .int i)] → W p l e room_1 s m #[.ref b] below meth c H [] (cells + 1) (slots + 6) Q (F0 m 1549 ls []))
    {H : Heap} (hH : LH D ay ad am oa od s σ τ ov dv H) {ls : Array Slot} (hl : lv_has ls 9 [(0, .ref b), (1, .ref (ad 0)), (2, .ref (am 0)), (3, .ref oa), (4, .ref od), (5, .int i)]) : W p l e room_1 s m #[.ref b] below meth c H [] cells slots Q (F0 m 1390 ls []) := by
  obtain ⟨kc, σ', ov', mc, v, τ', hmc, hMet, hM, h5, h0, hR⟩ := p_leastSpeed (D := D) (ay := ay) (sd := sd) hlt hA.1 hA.2.2.2.2.2.2.2.1 R ov (xs (i + 1).toNatClampNeg) (xs (i + 2).toNatClampNeg)
  refine lv_aload_n X.x X.b dL_law_1390 rfl (lv_at hl 1 rfl) ?_
  refine lv_aload_n X.x X.b dL_law_1391 rfl (lv_at hl 0 rfl) ?_
  refine lv_iload X.x X.b dL_law_1392 (lv_at hl 5 rfl) ?_
  refine lv_iconst (v := 1) X.x X.b dL_law_1394 (by decide) ?_
  refine lv_iadd X.x X.b dL_law_1395 ?_
  refine lc_sld X hX hb hH i1 dL_law_1396 ?_
  refine lv_aload_n X.x X.b dL_law_1397 rfl (lv_at hl 0 rfl) ?_
  refine lv_iload X.x X.b dL_law_1398 (lv_at hl 5 rfl) ?_
  refine lv_iconst (v := 2) X.x X.b dL_law_1400 (by decide) ?_
  refine lv_iadd X.x X.b dL_law_1401 ?_
  refine lc_sld X hX hb hH i2 dL_law_1402 ?_
  refine lv_aload_n X.x X.b dL_law_1403 rfl (lv_at hl 3 rfl) ?_
  refine lc_W X hA hT hH (As := [.ref (ad 0), .int (xs (i + 1).toNatClampNeg), .int (xs (i + 2).toNatClampNeg), .ref oa]) (rest := []) hMet (vx_cwSW 4 X.ts gL_law_L_leastSpeed rfl rfl rfl (by decide +kernel) ⟨Nat.le_of_ble_eq_true rfl, Nat.le_of_ble_eq_true rfl⟩) rfl hl.1 rfl (Nat.le_of_ble_eq_true rfl) dL_law_1404 (show cells + mc ≤ 601024 by omega) (show slots + 6 * mc ≤ 7293034 by omega) (fun H hH => ?_)
  refine lv_istore (lv' := [(6, _), (0, _), (1, _), (2, _), (3, _), (4, _), (5, _)]) X.x X.b dL_law_1407 hl (by decide) rfl (fun ls hl => ?_)
  refine lv_aload_n X.x X.b dL_law_1409 rfl (lv_at hl 3 rfl) ?_
  refine lv_aload_n X.x X.b dL_law_1410 rfl (lv_at hl 1 rfl) ?_
  refine lv_iload X.x X.b dL_law_1411 (lv_at hl 6 rfl) ?_
  refine lv_iconst (v := 1) X.x X.b dL_law_1413 (by decide) ?_
  refine lv_iadd X.x X.b dL_law_1414 ?_
  refine lc_sld X hX hb hH i1 dL_law_1415 ?_
  refine lv_aload_n X.x X.b dL_law_1416 rfl (lv_at hl 1 rfl) ?_
  refine lv_iload X.x X.b dL_law_1417 (lv_at hl 6 rfl) ?_
  refine lv_iconst (v := 2) X.x X.b dL_law_1419 (by decide) ?_
  refine lv_iadd X.x X.b dL_law_1420 ?_
  refine lc_sld X hX hb hH i2 dL_law_1421 ?_
  refine lc_MiE X hA hH (As := [.int (xs (i + 1).toNatClampNeg), .int (xs (i + 2).toNatClampNeg)]) (rest := []) (c_X4_leastSpeed hA.2.1 hM) (cwV 2 X.ts gL_law_X4_leastSpeed rfl rfl rfl (by decide +kernel) ⟨Nat.le_of_ble_eq_true rfl, Nat.le_of_ble_eq_true rfl⟩) rfl hl.1 rfl (Nat.le_of_ble_eq_true rfl) dL_law_1422 (show cells + mc ≤ 601024 by omega) (show slots + 6 * mc ≤ 7293034 by omega) (fun H hH => ?_)
  refine lv_istore (lv' := [(7, _), (6, _), (0, _), (1, _), (2, _), (3, _), (4, _), (5, _)]) X.x X.b dL_law_1425 hl (by decide) rfl (fun ls hl => ?_)
  refine lv_aload_n X.x X.b dL_law_1427 rfl (lv_at hl 4 rfl) ?_
  refine lc_MiP X hA hH (As := []) (rest := []) (c_X4_thrown hA.2.1 (res := τ'.1 0 5) rfl) (cwV 0 X.ts gL_law_X4_thrown rfl rfl rfl (by decide +kernel) ⟨Nat.le_of_ble_eq_true rfl, Nat.le_of_ble_eq_true rfl⟩) rfl hl.1 rfl (Nat.le_of_ble_eq_true rfl) dL_law_1428 (show cells + mc ≤ 601024 by omega) (show slots + 6 * mc ≤ 7293034 by omega) (fun H hH => ?_)
  refine lv_iload X.x X.b dL_law_1431 (lv_at hl 1 rfl) ?_
  refine lv_icmp_eq (tgt := 1438) X.x X.b dL_law_1433 (by decide) (fun _ => ?_) (fun q => (q h5).elim)
  refine lv_iload X.x X.b dL_law_1438 (lv_at hl 1 rfl) ?_
  refine lv_if_ne (tgt := 1455) X.x X.b dL_law_1440 (by decide) (fun _ => ?_) (fun q => ?_)
  · refine lv_goto (tgt := 1549) X.x X.b dL_law_1455 (by decide) ?_
    exact W.widen (by omega) (by omega) (K σ' τ' ov' dv H hR hH ls (lv_sub hl [2, 3, 4, 5, 6, 7] rfl))
  have h0 := h0 q
  refine lv_aload_n X.x X.b dL_law_1443 rfl (lv_at hl 5 rfl) ?_
  refine lv_iconst (v := 0) X.x X.b dL_law_1444 (by decide) ?_
  refine lc_lald X hH dL_law_1445 ?_
  refine lv_iload X.x X.b dL_law_1446 (lv_at hl 0 rfl) ?_
  refine lv_i2l X.x X.b dL_law_1448 rfl ?_
  refine W.lcmp X.x X.b dL_law_1449 ?_
  refine lv_if_eq (tgt := 1455) X.x X.b dL_law_1450 (by decide) (fun _ => ?_) (fun q => (q (lg_cmp_same h0)).elim)
  refine lv_goto (tgt := 1549) X.x X.b dL_law_1455 (by decide) ?_
  exact W.widen (by omega) (by omega) (K σ' τ' ov' dv H hR hH ls (lv_sub hl [2, 3, 4, 5, 6, 7] rfl))
set_option maxHeartbeats 4000000 in
set_option maxRecDepth 100000 in
theorem k_leadShare {l : Launch} (hlt : l.stackTraces = false) {D : va_G} {ay : Nat → ClassId} {ad am : Nat → Nat} {oa od : Nat} {p : Program} {e : Env} {s : State} {m : MethodId} {b L : Nat} {xs : Nat → Int32} {below : List Frame} {meth : Method} {c : Code} {Q : State → Prop} {sd : Nat → Nat} {rt : Option FieldType} (X : CX D ay p s m #[.ref b] meth c cL_law 9 RL rt wsL_law) (hX : va_X b L xs s s.heap) (hb : b < s.heap.size) (hA : LA s.heap.size ad am oa od) (hT : TX (fun q => s.heap.size ≤ q) sd s) {σ : Mem} {τ : Mem × Int64} {ov : Int64} {dv : UInt64} (R : Rel σ τ) {cells slots : Nat} (hc : cells + 1 ≤ 601024) (hs : slots + 6 ≤ 7293034) {i : Int32} (i1 : vp_in (i + 1) L)
    (K : ∀ (σ' : Mem) (τ' : Mem × Int64) (ov' : Int64) (dv' : UInt64) (H : Heap), Rel σ' τ' → LH D ay ad am oa od s σ' τ' ov' dv' H → ∀ ls : Array Slot, lv_has ls 9 [(0, .ref b), (1, .ref (ad 0)), (2, .ref (am 0)), (3, .ref oa), (4, .ref od), (5, .int i)] → W p l e room_1 s m #[.ref b] below meth c H [] (cells + 1) (slots + 6) Q (F0 m 1549 ls []))
    {H : Heap} (hH : LH D ay ad am oa od s σ τ ov dv H) {ls : Array Slot} (hl : lv_has ls 9 [(0, .ref b), (1, .ref (ad 0)), (2, .ref (am 0)), (3, .ref oa), (4, .ref od), (5, .int i)]) : W p l e room_1 s m #[.ref b] below meth c H [] cells slots Q (F0 m 1458 ls []) := by
  obtain ⟨kc, σ', ov', mc, v, τ', hmc, hMet, hM, h5, h0, hR⟩ := p_leadShare (D := D) (ay := ay) (sd := sd) hlt hA.1 hA.2.2.2.2.2.2.2.2.1 R dv (xs (i + 1).toNatClampNeg)
  refine lv_aload_n X.x X.b dL_law_1458 rfl (lv_at hl 1 rfl) ?_
  refine lv_aload_n X.x X.b dL_law_1459 rfl (lv_at hl 0 rfl) ?_
  refine lv_iload X.x X.b dL_law_1460 (lv_at hl 5 rfl) ?_
  refine lv_iconst (v := 1) X.x X.b dL_law_1462 (by decide) ?_
  refine lv_iadd X.x X.b dL_law_1463 ?_
  refine lc_sld X hX hb hH i1 dL_law_1464 ?_
  refine lv_aload X.x X.b dL_law_1465 (lv_at hl 4 rfl) ?_
  refine lc_WD X hA hT hH (As := [.ref (ad 0), .int (xs (i + 1).toNatClampNeg), .ref od]) (rest := []) hMet (vx_cwSW 3 X.ts gL_law_L_leadShare rfl rfl rfl (by decide +kernel) ⟨Nat.le_of_ble_eq_true rfl, Nat.le_of_ble_eq_true rfl⟩) rfl hl.1 rfl (Nat.le_of_ble_eq_true rfl) dL_law_1467 (show cells + mc ≤ 601024 by omega) (show slots + 6 * mc ≤ 7293034 by omega) (fun H hH => ?_)
  refine lv_istore (lv' := [(6, _), (0, _), (1, _), (2, _), (3, _), (4, _), (5, _)]) X.x X.b dL_law_1470 hl (by decide) rfl (fun ls hl => ?_)
  refine lv_aload_n X.x X.b dL_law_1472 rfl (lv_at hl 3 rfl) ?_
  refine lv_aload_n X.x X.b dL_law_1473 rfl (lv_at hl 1 rfl) ?_
  refine lv_iload X.x X.b dL_law_1474 (lv_at hl 6 rfl) ?_
  refine lv_iconst (v := 1) X.x X.b dL_law_1476 (by decide) ?_
  refine lv_iadd X.x X.b dL_law_1477 ?_
  refine lc_sld X hX hb hH i1 dL_law_1478 ?_
  refine lc_MdE X hA hH (As := [.int (xs (i + 1).toNatClampNeg)]) (rest := []) (c_X4_leadShare hA.2.1 hM) (cwV 1 X.ts gL_law_X4_leadShare rfl rfl rfl (by decide +kernel) ⟨Nat.le_of_ble_eq_true rfl, Nat.le_of_ble_eq_true rfl⟩) rfl hl.1 rfl (Nat.le_of_ble_eq_true rfl) dL_law_1479 (show cells + mc ≤ 601024 by omega) (show slots + 6 * mc ≤ 7293034 by omega) (fun H hH => ?_)
  refine lv_dstore (lv' := [(7, _), (6, _), (0, _), (1, _), (2, _), (3, _), (4, _), (5, _)]) X.x X.b dL_law_1482 hl (by decide) rfl (fun ls hl => ?_)
  refine lv_aload_n X.x X.b dL_law_1484 rfl (lv_at hl 4 rfl) ?_
  refine lc_MiP X hA hH (As := []) (rest := []) (c_X4_thrown hA.2.1 (res := τ'.1 0 5) rfl) (cwV 0 X.ts gL_law_X4_thrown rfl rfl rfl (by decide +kernel) ⟨Nat.le_of_ble_eq_true rfl, Nat.le_of_ble_eq_true rfl⟩) rfl hl.1 rfl (Nat.le_of_ble_eq_true rfl) dL_law_1485 (show cells + mc ≤ 601024 by omega) (show slots + 6 * mc ≤ 7293034 by omega) (fun H hH => ?_)
  refine lv_iload X.x X.b dL_law_1488 (lv_at hl 1 rfl) ?_
  refine lv_icmp_eq (tgt := 1495) X.x X.b dL_law_1490 (by decide) (fun _ => ?_) (fun q => (q h5).elim)
  refine lv_iload X.x X.b dL_law_1495 (lv_at hl 1 rfl) ?_
  refine lv_if_ne (tgt := 1532) X.x X.b dL_law_1497 (by decide) (fun _ => ?_) (fun q => ?_)
  · refine lv_goto (tgt := 1549) X.x X.b dL_law_1532 (by decide) ?_
    exact W.widen (by omega) (by omega) (K σ' τ' ov ov' H hR hH ls (lv_sub hl [2, 3, 4, 5, 6, 7] rfl))
  have h0 := h0 q
  refine lv_aload X.x X.b dL_law_1500 (lv_at hl 6 rfl) ?_
  refine lv_iconst (v := 0) X.x X.b dL_law_1502 (by decide) ?_
  refine lc_dald X hH dL_law_1503 ?_
  refine lv_dload X.x X.b dL_law_1504 (lv_at hl 0 rfl) ?_
  refine lv_dcmp X.x X.b dL_law_1506 ?_
  refine lv_if_eq (tgt := 1532) X.x X.b dL_law_1507 (by decide) (fun _ => ?_) (fun q => (q (by rw [h0.1]; exact dc_eq h0.2)).elim)
  refine lv_goto (tgt := 1549) X.x X.b dL_law_1532 (by decide) ?_
  exact W.widen (by omega) (by omega) (K σ' τ' ov ov' H hR hH ls (lv_sub hl [2, 3, 4, 5, 6, 7] rfl))
set_option maxHeartbeats 4000000 in
set_option maxRecDepth 100000 in
theorem k_digest {l : Launch} (hlt : l.stackTraces = false) {D : va_G} {ay : Nat → ClassId} {ad am : Nat → Nat} {oa od : Nat} {p : Program} {e : Env} {s : State} {m : MethodId} {b L : Nat} {xs : Nat → Int32} {below : List Frame} {meth : Method} {c : Code} {Q : State → Prop} {sd : Nat → Nat} {rt : Option FieldType} (X : CX D ay p s m #[.ref b] meth c cL_law 9 RL rt wsL_law) (hX : va_X b L xs s s.heap) (hb : b < s.heap.size) (hA : LA s.heap.size ad am oa od) (hT : TX (fun q => s.heap.size ≤ q) sd s) {σ : Mem} {τ : Mem × Int64} {ov : Int64} {dv : UInt64} (R : Rel σ τ) {cells slots : Nat} (hc : cells + 1 ≤ 601024) (hs : slots + 6 ≤ 7293034) {i : Int32}
    (K : ∀ (σ' : Mem) (τ' : Mem × Int64) (ov' : Int64) (dv' : UInt64) (H : Heap), Rel σ' τ' → LH D ay ad am oa od s σ' τ' ov' dv' H → ∀ ls : Array Slot, lv_has ls 9 [(0, .ref b), (1, .ref (ad 0)), (2, .ref (am 0)), (3, .ref oa), (4, .ref od), (5, .int i)] → W p l e room_1 s m #[.ref b] below meth c H [] (cells + 1) (slots + 6) Q (F0 m 1549 ls []))
    {H : Heap} (hH : LH D ay ad am oa od s σ τ ov dv H) {ls : Array Slot} (hl : lv_has ls 9 [(0, .ref b), (1, .ref (ad 0)), (2, .ref (am 0)), (3, .ref oa), (4, .ref od), (5, .int i)]) : W p l e room_1 s m #[.ref b] below meth c H [] cells slots Q (F0 m 1535 ls []) := by
  obtain ⟨v, τ', hF, hM, hK⟩ := o_digest R
  have hR : Rel σ τ' := hK.rel R
  refine lv_aload_n X.x X.b dL_law_1535 rfl (lv_at hl 1 rfl) ?_
  refine lc_ClP X hA hH (As := []) (rest := []) (c_X3_digest hA.1 hF) (cwV 0 X.ts gL_law_X3_digest rfl rfl rfl (by decide +kernel) ⟨Nat.le_of_ble_eq_true rfl, Nat.le_of_ble_eq_true rfl⟩) rfl hl.1 rfl (Nat.le_of_ble_eq_true rfl) dL_law_1536 (show cells ≤ 601024 by omega) (show slots ≤ 7293034 by omega) (fun H hH => ?_)
  refine lv_aload_n X.x X.b dL_law_1539 rfl (lv_at hl 2 rfl) ?_
  refine lc_MlE X hA hH (As := []) (rest := [.long v]) (c_X4_digest hA.2.1 hM) (cwV 0 X.ts gL_law_X4_digest rfl rfl rfl (by decide +kernel) ⟨Nat.le_of_ble_eq_true rfl, Nat.le_of_ble_eq_true rfl⟩) rfl hl.1 rfl (Nat.le_of_ble_eq_true rfl) dL_law_1540 (show cells ≤ 601024 by omega) (show slots ≤ 7293034 by omega) (fun H hH => ?_)
  refine W.lcmp X.x X.b dL_law_1543 ?_
  refine lv_if_eq (tgt := 1549) X.x X.b dL_law_1544 (by decide) (fun _ => ?_) (fun q => (q (lg_cmp_same rfl)).elim)
  exact W.widen (by omega) (by omega) (K σ τ' ov dv H hR hH ls (lv_sub hl [0, 1, 2, 3, 4, 5] rfl))
