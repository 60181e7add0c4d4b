theorem oL_at {ay : Nat → ClassId} {oa k : Nat} {v : Int64} {q : Nat × va_E} (h : (oL ay oa v)[k]? = some q) : q.1 = oa := by
  have h9 := (List.getElem?_eq_some_iff.mp h).1
  have : k = 0 := by simp [oL] at h9; omega
  subst this
  cases h; rfl
theorem oD_at {ay : Nat → ClassId} {oa k : Nat} {v : UInt64} {q : Nat × va_E} (h : (oD ay oa v)[k]? = some q) : q.1 = oa := by
  have h9 := (List.getElem?_eq_some_iff.mp h).1
  have : k = 0 := by simp [oD] at h9; omega
  subst this
  cases h; rfl
set_option maxHeartbeats 4000000 in
set_option maxRecDepth 100000 in
theorem e_add_r {l : Launch} {D : va_G} {ay : Nat → ClassId} {ad : Nat → Nat} {oa : Nat} {sd : Nat → Nat} {a1 : Int32} {a2 : Int32} {σ : Mem} {ov : Int64} {v : Int32 × Mem} (hI : adOK ad) (ho : ¬ AC ad oa) (hF : F_X3_add a1 a2 σ = some (Sum.inr v)) : Met l yL_add wsL_add ({ frames := 7, cells := 0, slots := 0, locals := 148 } : Room) (va_Pc [.ref (ad 0), .int a1, .int a2, .ref oa] (fun U => PP D ay (wL ay ad oa (σ, ov)) U ∧ TX (A2 ad oa) sd U)) (va_Qi (pE (0, (v.2, v.1.toInt64))) (fun u => PP D ay (wL ay ad oa u)) (A2 ad oa)) 0 0 (A2 ad oa) := by
  refine g_startW (wd := wL ay ad oa) (A := A2 ad oa) (own := RL) (mL := 5) (rt := some .int) (hh := [(0, 10, 13, 13), (0, 10, 17, 15)]) (by decide) rfl rfl (Nat.le_of_ble_eq_true rfl) ?_
  intro p e s m below meth c ls X htab hT hl
  have hl : lv_has ls 5 [(0, .ref (ad 0)), (1, .int a1), (2, .int a2), (3, .ref oa)] := hl
  refine g_aload_n X dL_add_0 rfl (lv_at hl 3 rfl) ?_
  refine g_iconst (v := 0) X dL_add_1 (by decide) ?_
  refine g_aload_n X dL_add_2 rfl (lv_at hl 0 rfl) ?_
  refine g_iload_n X dL_add_3 rfl (lv_at hl 1 rfl) ?_
  refine g_iload_n X dL_add_4 rfl (lv_at hl 2 rfl) ?_
  refine k_Vie X (res := (v.1, (v.2, ov))) (As := [.int a1, .int a2]) (rest := [.int 0, .ref oa]) (lift_i (post2 := pE (v.1, (v.2, ov))) ho (fun r τ h => by have h : (r, τ) = v := h; subst h; rfl) (c_X3_add hI hF)) (cwV 2 X.ts gL_add_X3_add rfl rfl rfl (by decide +kernel) ⟨Nat.le_of_ble_eq_true rfl, Nat.le_of_ble_eq_true rfl⟩) ⟨0, 3, _, _, wL_obj, rfl, rfl⟩ rfl hl.1 rfl (Nat.le_of_ble_eq_true rfl) dL_add_5 ?_
  refine g_i2l X dL_add_8 ?_
  refine g_last X (wL_D hI ho) (v.2, v.1.toInt64) (i := 0) wL_o (by unfold vp_in; decide) wL_set dL_add_9 ?_
  refine g_goto (tgt := 21) X dL_add_10 (by decide) ?_
  refine g_iconst (v := 0) X dL_add_21 (by decide) ?_
  exact g_iret X (pE_mk rfl) dL_add_22
set_option maxHeartbeats 4000000 in
set_option maxRecDepth 100000 in
theorem e_add_0 {l : Launch} (hlt : l.stackTraces = false) {D : va_G} {ay : Nat → ClassId} {ad : Nat → Nat} {oa : Nat} {sd : Nat → Nat} {a1 : Int32} {a2 : Int32} {σ : Mem} {ov : Int64} (hI : adOK ad) (ho : ¬ AC ad oa) (hF : F_X3_add a1 a2 σ = some (Sum.inl 0)) : Met l yL_add wsL_add ({ frames := 7, cells := 1, slots := 6, locals := 148 } : Room) (va_Pc [.ref (ad 0), .int a1, .int a2, .ref oa] (fun U => PP D ay (wL ay ad oa (σ, ov)) U ∧ TX (A2 ad oa) sd U)) (va_Qi (pE ((1 : Int32), (σ, ov))) (fun u => PP D ay (wL ay ad oa u)) (A2 ad oa)) 1 6 (A2 ad oa) := by
  refine g_startW (wd := wL ay ad oa) (A := A2 ad oa) (own := RL) (mL := 5) (rt := some .int) (hh := [(0, 10, 13, 13), (0, 10, 17, 15)]) (by decide) rfl rfl (Nat.le_of_ble_eq_true rfl) ?_
  intro p e s m below meth c ls X htab hT hl
  have hl : lv_has ls 5 [(0, .ref (ad 0)), (1, .int a1), (2, .int a2), (3, .ref oa)] := hl
  refine g_aload_n X dL_add_0 rfl (lv_at hl 3 rfl) ?_
  refine g_iconst (v := 0) X dL_add_1 (by decide) ?_
  refine g_aload_n X dL_add_2 rfl (lv_at hl 0 rfl) ?_
  refine g_iload_n X dL_add_3 rfl (lv_at hl 1 rfl) ?_
  refine g_iload_n X dL_add_4 rfl (lv_at hl 2 rfl) ?_
  refine gf_throw (St := Mem × Int64) (fr := oL ay oa ov) (σ := σ) rfl (fun k q hk => by rw [oL_at hk]; exact ho) X hT (E0 := exE 0) (As := [.int a1, .int a2]) (rest := [.int 0, .ref oa]) (t_X3_add hlt hI hF) (cwV 2 X.ts gL_add_X3_add rfl rfl rfl (by decide +kernel) ⟨Nat.le_of_ble_eq_true rfl, Nat.le_of_ble_eq_true rfl⟩) rfl hl.1 rfl (Nat.le_of_ble_eq_true rfl) dL_add_5 (Nat.le_of_ble_eq_true rfl) (Nat.le_of_ble_eq_true rfl) (fun ce q9 H1 locs1 hP hS hce hcv hcl => ?_)
  refine vx_catch (name := "java/lang/IllegalArgumentException") (E := exE 0) X.ow [] ⟨0, 10, 13, 13⟩ [⟨0, 10, 17, 15⟩] (by rw [htab]; rfl) (fun z hz => nomatch hz) (by decide) (by decide) (X.ts (.classLink RL 13 "java/lang/IllegalArgumentException") (by decide +kernel)) (va_Nw.use rfl (hT.2.1 ("java/lang/IllegalArgumentException", "java/lang/IllegalArgumentException") (by decide))) hce hcv hcl ?_
  refine lv_astore (lv' := [(4, _), (0, _), (1, _), (2, _), (3, _)]) X.x X.b dL_add_13 hl (by decide) rfl (fun ls hl => ?_)
  refine lv_iconst (v := 1) X.x X.b dL_add_15 (by decide) ?_
  exact W.iret X.x X.b X.rtt (fun t ht hW => ⟨⟨1, (σ, ov), rfl, rfl, (show PP D ay (wL ay ad oa (σ, ov)) t from ⟨by rw [ht]; exact hP, KK.warm hW X.kk⟩)⟩, hS.F ht⟩) hS.2.2 dL_add_16 X.lk
set_option maxHeartbeats 4000000 in
set_option maxRecDepth 100000 in
theorem e_add_1 {l : Launch} (hlt : l.stackTraces = false) {D : va_G} {ay : Nat → ClassId} {ad : Nat → Nat} {oa : Nat} {sd : Nat → Nat} {a1 : Int32} {a2 : Int32} {σ : Mem} {ov : Int64} (hI : adOK ad) (ho : ¬ AC ad oa) (hF : F_X3_add a1 a2 σ = some (Sum.inl 1)) : Met l yL_add wsL_add ({ frames := 7, cells := 1, slots := 6, locals := 148 } : Room) (va_Pc [.ref (ad 0), .int a1, .int a2, .ref oa] (fun U => PP D ay (wL ay ad oa (σ, ov)) U ∧ TX (A2 ad oa) sd U)) (va_Qi (pE ((2 : Int32), (σ, ov))) (fun u => PP D ay (wL ay ad oa u)) (A2 ad oa)) 1 6 (A2 ad oa) := by
  refine g_startW (wd := wL ay ad oa) (A := A2 ad oa) (own := RL) (mL := 5) (rt := some .int) (hh := [(0, 10, 13, 13), (0, 10, 17, 15)]) (by decide) rfl rfl (Nat.le_of_ble_eq_true rfl) ?_
  intro p e s m below meth c ls X htab hT hl
  have hl : lv_has ls 5 [(0, .ref (ad 0)), (1, .int a1), (2, .int a2), (3, .ref oa)] := hl
  refine g_aload_n X dL_add_0 rfl (lv_at hl 3 rfl) ?_
  refine g_iconst (v := 0) X dL_add_1 (by decide) ?_
  refine g_aload_n X dL_add_2 rfl (lv_at hl 0 rfl) ?_
  refine g_iload_n X dL_add_3 rfl (lv_at hl 1 rfl) ?_
  refine g_iload_n X dL_add_4 rfl (lv_at hl 2 rfl) ?_
  refine gf_throw (St := Mem × Int64) (fr := oL ay oa ov) (σ := σ) rfl (fun k q hk => by rw [oL_at hk]; exact ho) X hT (E0 := exE 1) (As := [.int a1, .int a2]) (rest := [.int 0, .ref oa]) (t_X3_add hlt hI hF) (cwV 2 X.ts gL_add_X3_add rfl rfl rfl (by decide +kernel) ⟨Nat.le_of_ble_eq_true rfl, Nat.le_of_ble_eq_true rfl⟩) rfl hl.1 rfl (Nat.le_of_ble_eq_true rfl) dL_add_5 (Nat.le_of_ble_eq_true rfl) (Nat.le_of_ble_eq_true rfl) (fun ce q9 H1 locs1 hP hS hce hcv hcl => ?_)
  refine vx_catch (name := "java/lang/IllegalStateException") (E := exE 1) X.ow [⟨0, 10, 13, 13⟩] ⟨0, 10, 17, 15⟩ [] (by rw [htab]; rfl) (fun z hz => by
    rcases List.mem_cons.mp hz with rfl | hz
    · exact Or.inr ⟨by decide, "java/lang/IllegalArgumentException", X.ts (.classLink RL 13 "java/lang/IllegalArgumentException") (by decide +kernel), hT.2.2.2.2.2 ("java/lang/IllegalStateException", "java/lang/IllegalArgumentException") (by decide)⟩
    · exact nomatch hz) (by decide) (by decide) (X.ts (.classLink RL 15 "java/lang/IllegalStateException") (by decide +kernel)) (va_Nw.use rfl (hT.2.1 ("java/lang/IllegalStateException", "java/lang/IllegalStateException") (by decide))) hce hcv hcl ?_
  refine lv_astore (lv' := [(4, _), (0, _), (1, _), (2, _), (3, _)]) X.x X.b dL_add_17 hl (by decide) rfl (fun ls hl => ?_)
  refine lv_iconst (v := 2) X.x X.b dL_add_19 (by decide) ?_
  exact W.iret X.x X.b X.rtt (fun t ht hW => ⟨⟨2, (σ, ov), rfl, rfl, (show PP D ay (wL ay ad oa (σ, ov)) t from ⟨by rw [ht]; exact hP, KK.warm hW X.kk⟩)⟩, hS.F ht⟩) hS.2.2 dL_add_20 X.lk
set_option maxHeartbeats 4000000 in
set_option maxRecDepth 100000 in
theorem e_remove_r {l : Launch} {D : va_G} {ay : Nat → ClassId} {ad : Nat → Nat} {oa : Nat} {sd : Nat → Nat} {a1 : Int32} {σ : Mem} {ov : Int64} {v : Int32 × Mem} (hI : adOK ad) (ho : ¬ AC ad oa) (hF : F_X3_remove a1 σ = some (Sum.inr v)) : Met l yL_remove wsL_remove ({ frames := 7, cells := 0, slots := 0, locals := 147 } : Room) (va_Pc [.ref (ad 0), .int a1, .ref oa] (fun U => PP D ay (wL ay ad oa (σ, ov)) U ∧ TX (A2 ad oa) sd U)) (va_Qi (pE (0, (v.2, v.1.toInt64))) (fun u => PP D ay (wL ay ad oa u)) (A2 ad oa)) 0 0 (A2 ad oa) := by
  refine g_startW (wd := wL ay ad oa) (A := A2 ad oa) (own := RL) (mL := 4) (rt := some .int) (hh := [(0, 9, 12, 21)]) (by decide) rfl rfl (Nat.le_of_ble_eq_true rfl) ?_
  intro p e s m below meth c ls X htab hT hl
  have hl : lv_has ls 4 [(0, .ref (ad 0)), (1, .int a1), (2, .ref oa)] := hl
  refine g_aload_n X dL_remove_0 rfl (lv_at hl 2 rfl) ?_
  refine g_iconst (v := 0) X dL_remove_1 (by decide) ?_
  refine g_aload_n X dL_remove_2 rfl (lv_at hl 0 rfl) ?_
  refine g_iload_n X dL_remove_3 rfl (lv_at hl 1 rfl) ?_
  refine k_Vie X (res := (v.1, (v.2, ov))) (As := [.int a1]) (rest := [.int 0, .ref oa]) (lift_i (post2 := pE (v.1, (v.2, ov))) ho (fun r τ h => by have h : (r, τ) = v := h; subst h; rfl) (c_X3_remove hI hF)) (cwV 1 X.ts gL_remove_X3_remove rfl rfl rfl (by decide +kernel) ⟨Nat.le_of_ble_eq_true rfl, Nat.le_of_ble_eq_true rfl⟩) ⟨0, 3, _, _, wL_obj, rfl, rfl⟩ rfl hl.1 rfl (Nat.le_of_ble_eq_true rfl) dL_remove_4 ?_
  refine g_i2l X dL_remove_7 ?_
  refine g_last X (wL_D hI ho) (v.2, v.1.toInt64) (i := 0) wL_o (by unfold vp_in; decide) wL_set dL_remove_8 ?_
  refine g_goto (tgt := 15) X dL_remove_9 (by decide) ?_
  refine g_iconst (v := 0) X dL_remove_15 (by decide) ?_
  exact g_iret X (pE_mk rfl) dL_remove_16
set_option maxHeartbeats 4000000 in
set_option maxRecDepth 100000 in
theorem e_remove_2 {l : Launch} (hlt : l.stackTraces = false) {D : va_G} {ay : Nat → ClassId} {ad : Nat → Nat} {oa : Nat} {sd : Nat → Nat} {a1 : Int32} {σ : Mem} {ov : Int64} (hI : adOK ad) (ho : ¬ AC ad oa) (hF : F_X3_remove a1 σ = some (Sum.inl 2)) : Met l yL_remove wsL_remove ({ frames := 7, cells := 1, slots := 6, locals := 147 } : Room) (va_Pc [.ref (ad 0), .int a1, .ref oa] (fun U => PP D ay (wL ay ad oa (σ, ov)) U ∧ TX (A2 ad oa) sd U)) (va_Qi (pE ((1 : Int32), (σ, ov))) (fun u => PP D ay (wL ay ad oa u)) (A2 ad oa)) 1 6 (A2 ad oa) := by
  refine g_startW (wd := wL ay ad oa) (A := A2 ad oa) (own := RL) (mL := 4) (rt := some .int) (hh := [(0, 9, 12, 21)]) (by decide) rfl rfl (Nat.le_of_ble_eq_true rfl) ?_
  intro p e s m below meth c ls X htab hT hl
  have hl : lv_has ls 4 [(0, .ref (ad 0)), (1, .int a1), (2, .ref oa)] := hl
  refine g_aload_n X dL_remove_0 rfl (lv_at hl 2 rfl) ?_
  refine g_iconst (v := 0) X dL_remove_1 (by decide) ?_
  refine g_aload_n X dL_remove_2 rfl (lv_at hl 0 rfl) ?_
  refine g_iload_n X dL_remove_3 rfl (lv_at hl 1 rfl) ?_
  refine gf_throw (St := Mem × Int64) (fr := oL ay oa ov) (σ := σ) rfl (fun k q hk => by rw [oL_at hk]; exact ho) X hT (E0 := exE 2) (As := [.int a1]) (rest := [.int 0, .ref oa]) (t_X3_remove hlt hI hF) (cwV 1 X.ts gL_remove_X3_remove rfl rfl rfl (by decide +kernel) ⟨Nat.le_of_ble_eq_true rfl, Nat.le_of_ble_eq_true rfl⟩) rfl hl.1 rfl (Nat.le_of_ble_eq_true rfl) dL_remove_4 (Nat.le_of_ble_eq_true rfl) (Nat.le_of_ble_eq_true rfl) (fun ce q9 H1 locs1 hP hS hce hcv hcl => ?_)
  refine vx_catch (name := "java/lang/IndexOutOfBoundsException") (E := exE 2) X.ow [] ⟨0, 9, 12, 21⟩ [] (by rw [htab]; rfl) (fun z hz => nomatch hz) (by decide) (by decide) (X.ts (.classLink RL 21 "java/lang/IndexOutOfBoundsException") (by decide +kernel)) (va_Nw.use rfl (hT.2.1 ("java/lang/IndexOutOfBoundsException", "java/lang/IndexOutOfBoundsException") (by decide))) hce hcv hcl ?_
  refine lv_astore_n (lv' := [(3, _), (0, _), (1, _), (2, _)]) X.x X.b dL_remove_12 rfl hl (by decide) rfl (fun ls hl => ?_)
  refine lv_iconst (v := 1) X.x X.b dL_remove_13 (by decide) ?_
  exact W.iret X.x X.b X.rtt (fun t ht hW => ⟨⟨1, (σ, ov), rfl, rfl, (show PP D ay (wL ay ad oa (σ, ov)) t from ⟨by rw [ht]; exact hP, KK.warm hW X.kk⟩)⟩, hS.F ht⟩) hS.2.2 dL_remove_14 X.lk
set_option maxHeartbeats 4000000 in
set_option maxRecDepth 100000 in
theorem e_speed_r {l : Launch} {D : va_G} {ay : Nat → ClassId} {ad : Nat → Nat} {oa : Nat} {sd : Nat → Nat} {a1 : Int32} {a2 : Int32} {σ : Mem} {ov : Int64} {v : Int32 × Mem} (hI : adOK ad) (ho : ¬ AC ad oa) (hF : F_X3_speed a1 a2 σ = some (Sum.inr v)) : Met l yL_speed wsL_speed ({ frames := 7, cells := 0, slots := 0, locals := 148 } : Room) (va_Pc [.ref (ad 0), .int a1, .int a2, .ref oa] (fun U => PP D ay (wL ay ad oa (σ, ov)) U ∧ TX (A2 ad oa) sd U)) (va_Qi (pE (0, (v.2, v.1.toInt64))) (fun u => PP D ay (wL ay ad oa u)) (A2 ad oa)) 0 0 (A2 ad oa) := by
  refine g_startW (wd := wL ay ad oa) (A := A2 ad oa) (own := RL) (mL := 5) (rt := some .int) (hh := [(0, 10, 13, 21), (0, 10, 17, 13)]) (by decide) rfl rfl (Nat.le_of_ble_eq_true rfl) ?_
  intro p e s m below meth c ls X htab hT hl
  have hl : lv_has ls 5 [(0, .ref (ad 0)), (1, .int a1), (2, .int a2), (3, .ref oa)] := hl
  refine g_aload_n X dL_speed_0 rfl (lv_at hl 3 rfl) ?_
  refine g_iconst (v := 0) X dL_speed_1 (by decide) ?_
  refine g_aload_n X dL_speed_2 rfl (lv_at hl 0 rfl) ?_
  refine g_iload_n X dL_speed_3 rfl (lv_at hl 1 rfl) ?_
  refine g_iload_n X dL_speed_4 rfl (lv_at hl 2 rfl) ?_
  refine k_Vie X (res := (v.1, (v.2, ov))) (As := [.int a1, .int a2]) (rest := [.int 0, .ref oa]) (lift_i (post2 := pE (v.1, (v.2, ov))) ho (fun r τ h => by have h : (r, τ) = v := h; subst h; rfl) (c_X3_speed hI hF)) (cwV 2 X.ts gL_speed_X3_speed rfl rfl rfl (by decide +kernel) ⟨Nat.le_of_ble_eq_true rfl, Nat.le_of_ble_eq_true rfl⟩) ⟨0, 3, _, _, wL_obj, rfl, rfl⟩ rfl hl.1 rfl (Nat.le_of_ble_eq_true rfl) dL_speed_5 ?_
  refine g_i2l X dL_speed_8 ?_
  refine g_last X (wL_D hI ho) (v.2, v.1.toInt64) (i := 0) wL_o (by unfold vp_in; decide) wL_set dL_speed_9 ?_
  refine g_goto (tgt := 21) X dL_speed_10 (by decide) ?_
  refine g_iconst (v := 0) X dL_speed_21 (by decide) ?_
  exact g_iret X (pE_mk rfl) dL_speed_22
set_option maxHeartbeats 4000000 in
set_option maxRecDepth 100000 in
theorem e_speed_2 {l : Launch} (hlt : l.stackTraces = false) {D : va_G} {ay : Nat → ClassId} {ad : Nat → Nat} {oa : Nat} {sd : Nat → Nat} {a1 : Int32} {a2 : Int32} {σ : Mem} {ov : Int64} (hI : adOK ad) (ho : ¬ AC ad oa) (hF : F_X3_speed a1 a2 σ = some (Sum.inl 2)) : Met l yL_speed wsL_speed ({ frames := 7, cells := 1, slots := 6, locals := 148 } : Room) (va_Pc [.ref (ad 0), .int a1, .int a2, .ref oa] (fun U => PP D ay (wL ay ad oa (σ, ov)) U ∧ TX (A2 ad oa) sd U)) (va_Qi (pE ((1 : Int32), (σ, ov))) (fun u => PP D ay (wL ay ad oa u)) (A2 ad oa)) 1 6 (A2 ad oa) := by
  refine g_startW (wd := wL ay ad oa) (A := A2 ad oa) (own := RL) (mL := 5) (rt := some .int) (hh := [(0, 10, 13, 21), (0, 10, 17, 13)]) (by decide) rfl rfl (Nat.le_of_ble_eq_true rfl) ?_
  intro p e s m below meth c ls X htab hT hl
  have hl : lv_has ls 5 [(0, .ref (ad 0)), (1, .int a1), (2, .int a2), (3, .ref oa)] := hl
  refine g_aload_n X dL_speed_0 rfl (lv_at hl 3 rfl) ?_
  refine g_iconst (v := 0) X dL_speed_1 (by decide) ?_
  refine g_aload_n X dL_speed_2 rfl (lv_at hl 0 rfl) ?_
  refine g_iload_n X dL_speed_3 rfl (lv_at hl 1 rfl) ?_
  refine g_iload_n X dL_speed_4 rfl (lv_at hl 2 rfl) ?_
  refine gf_throw (St := Mem × Int64) (fr := oL ay oa ov) (σ := σ) rfl (fun k q hk => by rw [oL_at hk]; exact ho) X hT (E0 := exE 2) (As := [.int a1, .int a2]) (rest := [.int 0, .ref oa]) (t_X3_speed hlt hI hF) (cwV 2 X.ts gL_speed_X3_speed rfl rfl rfl (by decide +kernel) ⟨Nat.le_of_ble_eq_true rfl, Nat.le_of_ble_eq_true rfl⟩) rfl hl.1 rfl (Nat.le_of_ble_eq_true rfl) dL_speed_5 (Nat.le_of_ble_eq_true rfl) (Nat.le_of_ble_eq_true rfl) (fun ce q9 H1 locs1 hP hS hce hcv hcl => ?_)
  refine vx_catch (name := "java/lang/IndexOutOfBoundsException") (E := exE 2) X.ow [] ⟨0, 10, 13, 21⟩ [⟨0, 10, 17, 13⟩] (by rw [htab]; rfl) (fun z hz => nomatch hz) (by decide) (by decide) (X.ts (.classLink RL 21 "java/lang/IndexOutOfBoundsException") (by decide +kernel)) (va_Nw.use rfl (hT.2.1 ("java/lang/IndexOutOfBoundsException", "java/lang/IndexOutOfBoundsException") (by decide))) hce hcv hcl ?_
  refine lv_astore (lv' := [(4, _), (0, _), (1, _), (2, _), (3, _)]) X.x X.b dL_speed_13 hl (by decide) rfl (fun ls hl => ?_)
  refine lv_iconst (v := 1) X.x X.b dL_speed_15 (by decide) ?_
  exact W.iret X.x X.b X.rtt (fun t ht hW => ⟨⟨1, (σ, ov), rfl, rfl, (show PP D ay (wL ay ad oa (σ, ov)) t from ⟨by rw [ht]; exact hP, KK.warm hW X.kk⟩)⟩, hS.F ht⟩) hS.2.2 dL_speed_16 X.lk
set_option maxHeartbeats 4000000 in
set_option maxRecDepth 100000 in
theorem e_speed_0 {l : Launch} (hlt : l.stackTraces = false) {D : va_G} {ay : Nat → ClassId} {ad : Nat → Nat} {oa : Nat} {sd : Nat → Nat} {a1 : Int32} {a2 : Int32} {σ : Mem} {ov : Int64} (hI : adOK ad) (ho : ¬ AC ad oa) (hF : F_X3_speed a1 a2 σ = some (Sum.inl 0)) : Met l yL_speed wsL_speed ({ frames := 7, cells := 1, slots := 6, locals := 148 } : Room) (va_Pc [.ref (ad 0), .int a1, .int a2, .ref oa] (fun U => PP D ay (wL ay ad oa (σ, ov)) U ∧ TX (A2 ad oa) sd U)) (va_Qi (pE ((2 : Int32), (σ, ov))) (fun u => PP D ay (wL ay ad oa u)) (A2 ad oa)) 1 6 (A2 ad oa) := by
  refine g_startW (wd := wL ay ad oa) (A := A2 ad oa) (own := RL) (mL := 5) (rt := some .int) (hh := [(0, 10, 13, 21), (0, 10, 17, 13)]) (by decide) rfl rfl (Nat.le_of_ble_eq_true rfl) ?_
  intro p e s m below meth c ls X htab hT hl
  have hl : lv_has ls 5 [(0, .ref (ad 0)), (1, .int a1), (2, .int a2), (3, .ref oa)] := hl
  refine g_aload_n X dL_speed_0 rfl (lv_at hl 3 rfl) ?_
  refine g_iconst (v := 0) X dL_speed_1 (by decide) ?_
  refine g_aload_n X dL_speed_2 rfl (lv_at hl 0 rfl) ?_
  refine g_iload_n X dL_speed_3 rfl (lv_at hl 1 rfl) ?_
  refine g_iload_n X dL_speed_4 rfl (lv_at hl 2 rfl) ?_
  refine gf_throw (St := Mem × Int64) (fr := oL ay oa ov) (σ := σ) rfl (fun k q hk => by rw [oL_at hk]; exact ho) X hT (E0 := exE 0) (As := [.int a1, .int a2]) (rest := [.int 0, .ref oa]) (t_X3_speed hlt hI hF) (cwV 2 X.ts gL_speed_X3_speed rfl rfl rfl (by decide +kernel) ⟨Nat.le_of_ble_eq_true rfl, Nat.le_of_ble_eq_true rfl⟩) rfl hl.1 rfl (Nat.le_of_ble_eq_true rfl) dL_speed_5 (Nat.le_of_ble_eq_true rfl) (Nat.le_of_ble_eq_true rfl) (fun ce q9 H1 locs1 hP hS hce hcv hcl => ?_)
  refine vx_catch (name := "java/lang/IllegalArgumentException") (E := exE 0) X.ow [⟨0, 10, 13, 21⟩] ⟨0, 10, 17, 13⟩ [] (by rw [htab]; rfl) (fun z hz => by
    rcases List.mem_cons.mp hz with rfl | hz
    · exact Or.inr ⟨by decide, "java/lang/IndexOutOfBoundsException", X.ts (.classLink RL 21 "java/lang/IndexOutOfBoundsException") (by decide +kernel), hT.2.2.2.2.2 ("java/lang/IllegalArgumentException", "java/lang/IndexOutOfBoundsException") (by decide)⟩
    · exact nomatch hz) (by decide) (by decide) (X.ts (.classLink RL 13 "java/lang/IllegalArgumentException") (by decide +kernel)) (va_Nw.use rfl (hT.2.1 ("java/lang/IllegalArgumentException", "java/lang/IllegalArgumentException") (by decide))) hce hcv hcl ?_
  refine lv_astore (lv' := [(4, _), (0, _), (1, _), (2, _), (3, _)]) X.x X.b dL_speed_17 hl (by decide) rfl (fun ls hl => ?_)
  refine lv_iconst (v := 2) X.x X.b dL_speed_19 (by decide) ?_
  exact W.iret X.x X.b X.rtt (fun t ht hW => ⟨⟨2, (σ, ov), rfl, rfl, (show PP D ay (wL ay ad oa (σ, ov)) t from ⟨by rw [ht]; exact hP, KK.warm hW X.kk⟩)⟩, hS.F ht⟩) hS.2.2 dL_speed_20 X.lk
set_option maxHeartbeats 4000000 in
set_option maxRecDepth 100000 in
theorem e_jump_r {l : Launch} {D : va_G} {ay : Nat → ClassId} {ad : Nat → Nat} {oa : Nat} {sd : Nat → Nat} {a1 : Int32} {a2 : Int32} {σ : Mem} {ov : Int64} {v : Int32 × Mem} (hI : adOK ad) (ho : ¬ AC ad oa) (hF : F_X3_jump a1 a2 σ = some (Sum.inr v)) : Met l yL_jump wsL_jump ({ frames := 7, cells := 0, slots := 0, locals := 148 } : Room) (va_Pc [.ref (ad 0), .int a1, .int a2, .ref oa] (fun U => PP D ay (wL ay ad oa (σ, ov)) U ∧ TX (A2 ad oa) sd U)) (va_Qi (pE (0, (v.2, v.1.toInt64))) (fun u => PP D ay (wL ay ad oa u)) (A2 ad oa)) 0 0 (A2 ad oa) := by
  refine g_startW (wd := wL ay ad oa) (A := A2 ad oa) (own := RL) (mL := 5) (rt := some .int) (hh := [(0, 10, 13, 21), (0, 10, 17, 13), (0, 10, 21, 15)]) (by decide) rfl rfl (Nat.le_of_ble_eq_true rfl) ?_
  intro p e s m below meth c ls X htab hT hl
  have hl : lv_has ls 5 [(0, .ref (ad 0)), (1, .int a1), (2, .int a2), (3, .ref oa)] := hl
  refine g_aload_n X dL_jump_0 rfl (lv_at hl 3 rfl) ?_
  refine g_iconst (v := 0) X dL_jump_1 (by decide) ?_
  refine g_aload_n X dL_jump_2 rfl (lv_at hl 0 rfl) ?_
  refine g_iload_n X dL_jump_3 rfl (lv_at hl 1 rfl) ?_
  refine g_iload_n X dL_jump_4 rfl (lv_at hl 2 rfl) ?_
  refine k_Vie X (res := (v.1, (v.2, ov))) (As := [.int a1, .int a2]) (rest := [.int 0, .ref oa]) (lift_i (post2 := pE (v.1, (v.2, ov))) ho (fun r τ h => by have h : (r, τ) = v := h; subst h; rfl) (c_X3_jump hI hF)) (cwV 2 X.ts gL_jump_X3_jump rfl rfl rfl (by decide +kernel) ⟨Nat.le_of_ble_eq_true rfl, Nat.le_of_ble_eq_true rfl⟩) ⟨0, 3, _, _, wL_obj, rfl, rfl⟩ rfl hl.1 rfl (Nat.le_of_ble_eq_true rfl) dL_jump_5 ?_
  refine g_i2l X dL_jump_8 ?_
  refine g_last X (wL_D hI ho) (v.2, v.1.toInt64) (i := 0) wL_o (by unfold vp_in; decide) wL_set dL_jump_9 ?_
  refine g_goto (tgt := 25) X dL_jump_10 (by decide) ?_
  refine g_iconst (v := 0) X dL_jump_25 (by decide) ?_
  exact g_iret X (pE_mk rfl) dL_jump_26
set_option maxHeartbeats 4000000 in
set_option maxRecDepth 100000 in
theorem e_jump_2 {l : Launch} (hlt : l.stackTraces = false) {D : va_G} {ay : Nat → ClassId} {ad : Nat → Nat} {oa : Nat} {sd : Nat → Nat} {a1 : Int32} {a2 : Int32} {σ : Mem} {ov : Int64} (hI : adOK ad) (ho : ¬ AC ad oa) (hF : F_X3_jump a1 a2 σ = some (Sum.inl 2)) : Met l yL_jump wsL_jump ({ frames := 7, cells := 1, slots := 6, locals := 148 } : Room) (va_Pc [.ref (ad 0), .int a1, .int a2, .ref oa] (fun U => PP D ay (wL ay ad oa (σ, ov)) U ∧ TX (A2 ad oa) sd U)) (va_Qi (pE ((1 : Int32), (σ, ov))) (fun u => PP D ay (wL ay ad oa u)) (A2 ad oa)) 1 6 (A2 ad oa) := by
  refine g_startW (wd := wL ay ad oa) (A := A2 ad oa) (own := RL) (mL := 5) (rt := some .int) (hh := [(0, 10, 13, 21), (0, 10, 17, 13), (0, 10, 21, 15)]) (by decide) rfl rfl (Nat.le_of_ble_eq_true rfl) ?_
  intro p e s m below meth c ls X htab hT hl
  have hl : lv_has ls 5 [(0, .ref (ad 0)), (1, .int a1), (2, .int a2), (3, .ref oa)] := hl
  refine g_aload_n X dL_jump_0 rfl (lv_at hl 3 rfl) ?_
  refine g_iconst (v := 0) X dL_jump_1 (by decide) ?_
  refine g_aload_n X dL_jump_2 rfl (lv_at hl 0 rfl) ?_
  refine g_iload_n X dL_jump_3 rfl (lv_at hl 1 rfl) ?_
  refine g_iload_n X dL_jump_4 rfl (lv_at hl 2 rfl) ?_
  refine gf_throw (St := Mem × Int64) (fr := oL ay oa ov) (σ := σ) rfl (fun k q hk => by rw [oL_at hk]; exact ho) X hT (E0 := exE 2) (As := [.int a1, .int a2]) (rest := [.int 0, .ref oa]) (t_X3_jump hlt hI hF) (cwV 2 X.ts gL_jump_X3_jump rfl rfl rfl (by decide +kernel) ⟨Nat.le_of_ble_eq_true rfl, Nat.le_of_ble_eq_true rfl⟩) rfl hl.1 rfl (Nat.le_of_ble_eq_true rfl) dL_jump_5 (Nat.le_of_ble_eq_true rfl) (Nat.le_of_ble_eq_true rfl) (fun ce q9 H1 locs1 hP hS hce hcv hcl => ?_)
  refine vx_catch (name := "java/lang/IndexOutOfBoundsException") (E := exE 2) X.ow [] ⟨0, 10, 13, 21⟩ [⟨0, 10, 17, 13⟩, ⟨0, 10, 21, 15⟩] (by rw [htab]; rfl) (fun z hz => nomatch hz) (by decide) (by decide) (X.ts (.classLink RL 21 "java/lang/IndexOutOfBoundsException") (by decide +kernel)) (va_Nw.use rfl (hT.2.1 ("java/lang/IndexOutOfBoundsException", "java/lang/IndexOutOfBoundsException") (by decide))) hce hcv hcl ?_
  refine lv_astore (lv' := [(4, _), (0, _), (1, _), (2, _), (3, _)]) X.x X.b dL_jump_13 hl (by decide) rfl (fun ls hl => ?_)
  refine lv_iconst (v := 1) X.x X.b dL_jump_15 (by decide) ?_
  exact W.iret X.x X.b X.rtt (fun t ht hW => ⟨⟨1, (σ, ov), rfl, rfl, (show PP D ay (wL ay ad oa (σ, ov)) t from ⟨by rw [ht]; exact hP, KK.warm hW X.kk⟩)⟩, hS.F ht⟩) hS.2.2 dL_jump_16 X.lk
set_option maxHeartbeats 4000000 in
set_option maxRecDepth 100000 in
theorem e_jump_0 {l : Launch} (hlt : l.stackTraces = false) {D : va_G} {ay : Nat → ClassId} {ad : Nat → Nat} {oa : Nat} {sd : Nat → Nat} {a1 : Int32} {a2 : Int32} {σ : Mem} {ov : Int64} (hI : adOK ad) (ho : ¬ AC ad oa) (hF : F_X3_jump a1 a2 σ = some (Sum.inl 0)) : Met l yL_jump wsL_jump ({ frames := 7, cells := 1, slots := 6, locals := 148 } : Room) (va_Pc [.ref (ad 0), .int a1, .int a2, .ref oa] (fun U => PP D ay (wL ay ad oa (σ, ov)) U ∧ TX (A2 ad oa) sd U)) (va_Qi (pE ((2 : Int32), (σ, ov))) (fun u => PP D ay (wL ay ad oa u)) (A2 ad oa)) 1 6 (A2 ad oa) := by
  refine g_startW (wd := wL ay ad oa) (A := A2 ad oa) (own := RL) (mL := 5) (rt := some .int) (hh := [(0, 10, 13, 21), (0, 10, 17, 13), (0, 10, 21, 15)]) (by decide) rfl rfl (Nat.le_of_ble_eq_true rfl) ?_
  intro p e s m below meth c ls X htab hT hl
  have hl : lv_has ls 5 [(0, .ref (ad 0)), (1, .int a1), (2, .int a2), (3, .ref oa)] := hl
  refine g_aload_n X dL_jump_0 rfl (lv_at hl 3 rfl) ?_
  refine g_iconst (v := 0) X dL_jump_1 (by decide) ?_
  refine g_aload_n X dL_jump_2 rfl (lv_at hl 0 rfl) ?_
  refine g_iload_n X dL_jump_3 rfl (lv_at hl 1 rfl) ?_
  refine g_iload_n X dL_jump_4 rfl (lv_at hl 2 rfl) ?_
  refine gf_throw (St := Mem × Int64) (fr := oL ay oa ov) (σ := σ) rfl (fun k q hk => by rw [oL_at hk]; exact ho) X hT (E0 := exE 0) (As := [.int a1, .int a2]) (rest := [.int 0, .ref oa]) (t_X3_jump hlt hI hF) (cwV 2 X.ts gL_jump_X3_jump rfl rfl rfl (by decide +kernel) ⟨Nat.le_of_ble_eq_true rfl, Nat.le_of_ble_eq_true rfl⟩) rfl hl.1 rfl (Nat.le_of_ble_eq_true rfl) dL_jump_5 (Nat.le_of_ble_eq_true rfl) (Nat.le_of_ble_eq_true rfl) (fun ce q9 H1 locs1 hP hS hce hcv hcl => ?_)
  refine vx_catch (name := "java/lang/IllegalArgumentException") (E := exE 0) X.ow [⟨0, 10, 13, 21⟩] ⟨0, 10, 17, 13⟩ [⟨0, 10, 21, 15⟩] (by rw [htab]; rfl) (fun z hz => by
    rcases List.mem_cons.mp hz with rfl | hz
    · exact Or.inr ⟨by decide, "java/lang/IndexOutOfBoundsException", X.ts (.classLink RL 21 "java/lang/IndexOutOfBoundsException") (by decide +kernel), hT.2.2.2.2.2 ("java/lang/IllegalArgumentException", "java/lang/IndexOutOfBoundsException") (by decide)⟩
    · exact nomatch hz) (by decide) (by decide) (X.ts (.classLink RL 13 "java/lang/IllegalArgumentException") (by decide +kernel)) (va_Nw.use rfl (hT.2.1 ("java/lang/IllegalArgumentException", "java/lang/IllegalArgumentException") (by decide))) hce hcv hcl ?_
  refine lv_astore (lv' := [(4, _), (0, _), (1, _), (2, _), (3, _)]) X.x X.b dL_jump_17 hl (by decide) rfl (fun ls hl => ?_)
  refine lv_iconst (v := 2) X.x X.b dL_jump_19 (by decide) ?_
  exact W.iret X.x X.b X.rtt (fun t ht hW => ⟨⟨2, (σ, ov), rfl, rfl, (show PP D ay (wL ay ad oa (σ, ov)) t from ⟨by rw [ht]; exact hP, KK.warm hW X.kk⟩)⟩, hS.F ht⟩) hS.2.2 dL_jump_20 X.lk
set_option maxHeartbeats 4000000 in
set_option maxRecDepth 100000 in
theorem e_jump_1 {l : Launch} (hlt : l.stackTraces = false) {D : va_G} {ay : Nat → ClassId} {ad : Nat → Nat} {oa : Nat} {sd : Nat → Nat} {a1 : Int32} {a2 : Int32} {σ : Mem} {ov : Int64} (hI : adOK ad) (ho : ¬ AC ad oa) (hF : F_X3_jump a1 a2 σ = some (Sum.inl 1)) : Met l yL_jump wsL_jump ({ frames := 7, cells := 1, slots := 6, locals := 148 } : Room) (va_Pc [.ref (ad 0), .int a1, .int a2, .ref oa] (fun U => PP D ay (wL ay ad oa (σ, ov)) U ∧ TX (A2 ad oa) sd U)) (va_Qi (pE ((3 : Int32), (σ, ov))) (fun u => PP D ay (wL ay ad oa u)) (A2 ad oa)) 1 6 (A2 ad oa) := by
  refine g_startW (wd := wL ay ad oa) (A := A2 ad oa) (own := RL) (mL := 5) (rt := some .int) (hh := [(0, 10, 13, 21), (0, 10, 17, 13), (0, 10, 21, 15)]) (by decide) rfl rfl (Nat.le_of_ble_eq_true rfl) ?_
  intro p e s m below meth c ls X htab hT hl
  have hl : lv_has ls 5 [(0, .ref (ad 0)), (1, .int a1), (2, .int a2), (3, .ref oa)] := hl
  refine g_aload_n X dL_jump_0 rfl (lv_at hl 3 rfl) ?_
  refine g_iconst (v := 0) X dL_jump_1 (by decide) ?_
  refine g_aload_n X dL_jump_2 rfl (lv_at hl 0 rfl) ?_
  refine g_iload_n X dL_jump_3 rfl (lv_at hl 1 rfl) ?_
  refine g_iload_n X dL_jump_4 rfl (lv_at hl 2 rfl) ?_
  refine gf_throw (St := Mem × Int64) (fr := oL ay oa ov) (σ := σ) rfl (fun k q hk => by rw [oL_at hk]; exact ho) X hT (E0 := exE 1) (As := [.int a1, .int a2]) (rest := [.int 0, .ref oa]) (t_X3_jump hlt hI hF) (cwV 2 X.ts gL_jump_X3_jump rfl rfl rfl (by decide +kernel) ⟨Nat.le_of_ble_eq_true rfl, Nat.le_of_ble_eq_true rfl⟩) rfl hl.1 rfl (Nat.le_of_ble_eq_true rfl) dL_jump_5 (Nat.le_of_ble_eq_true rfl) (Nat.le_of_ble_eq_true rfl) (fun ce q9 H1 locs1 hP hS hce hcv hcl => ?_)
  refine vx_catch (name := "java/lang/IllegalStateException") (E := exE 1) X.ow [⟨0, 10, 13, 21⟩, ⟨0, 10, 17, 13⟩] ⟨0, 10, 21, 15⟩ [] (by rw [htab]; rfl) (fun z hz => by
    rcases List.mem_cons.mp hz with rfl | hz
    · exact Or.inr ⟨by decide, "java/lang/IndexOutOfBoundsException", X.ts (.classLink RL 21 "java/lang/IndexOutOfBoundsException") (by decide +kernel), hT.2.2.2.2.2 ("java/lang/IllegalStateException", "java/lang/IndexOutOfBoundsException") (by decide)⟩
    · rcases List.mem_cons.mp hz with rfl | hz
      · exact Or.inr ⟨by decide, "java/lang/IllegalArgumentException", X.ts (.classLink RL 13 "java/lang/IllegalArgumentException") (by decide +kernel), hT.2.2.2.2.2 ("java/lang/IllegalStateException", "java/lang/IllegalArgumentException") (by decide)⟩
      · exact nomatch hz) (by decide) (by decide) (X.ts (.classLink RL 15 "java/lang/IllegalStateException") (by decide +kernel)) (va_Nw.use rfl (hT.2.1 ("java/lang/IllegalStateException", "java/lang/IllegalStateException") (by decide))) hce hcv hcl ?_
  refine lv_astore (lv' := [(4, _), (0, _), (1, _), (2, _), (3, _)]) X.x X.b dL_jump_21 hl (by decide) rfl (fun ls hl => ?_)
  refine lv_iconst (v := 3) X.x X.b dL_jump_23 (by decide) ?_
  exact W.iret X.x X.b X.rtt (fun t ht hW => ⟨⟨3, (σ, ov), rfl, rfl, (show PP D ay (wL ay ad oa (σ, ov)) t from ⟨by rw [ht]; exact hP, KK.warm hW X.kk⟩)⟩, hS.F ht⟩) hS.2.2 dL_jump_24 X.lk
set_option maxHeartbeats 4000000 in
set_option maxRecDepth 100000 in
theorem e_swap_r {l : Launch} {D : va_G} {ay : Nat → ClassId} {ad : Nat → Nat} {oa : Nat} {sd : Nat → Nat} {a1 : Int32} {a2 : Int32} {σ : Mem} {ov : Int64} {v : Int32 × Mem} (hI : adOK ad) (ho : ¬ AC ad oa) (hF : F_X3_swap a1 a2 σ = some (Sum.inr v)) : Met l yL_swap wsL_swap ({ frames := 7, cells := 0, slots := 0, locals := 151 } : Room) (va_Pc [.ref (ad 0), .int a1, .int a2, .ref oa] (fun U => PP D ay (wL ay ad oa (σ, ov)) U ∧ TX (A2 ad oa) sd U)) (va_Qi (pE (0, (v.2, v.1.toInt64))) (fun u => PP D ay (wL ay ad oa u)) (A2 ad oa)) 0 0 (A2 ad oa) := by
  refine g_startW (wd := wL ay ad oa) (A := A2 ad oa) (own := RL) (mL := 5) (rt := some .int) (hh := [(0, 10, 13, 21)]) (by decide) rfl rfl (Nat.le_of_ble_eq_true rfl) ?_
  intro p e s m below meth c ls X htab hT hl
  have hl : lv_has ls 5 [(0, .ref (ad 0)), (1, .int a1), (2, .int a2), (3, .ref oa)] := hl
  refine g_aload_n X dL_swap_0 rfl (lv_at hl 3 rfl) ?_
  refine g_iconst (v := 0) X dL_swap_1 (by decide) ?_
  refine g_aload_n X dL_swap_2 rfl (lv_at hl 0 rfl) ?_
  refine g_iload_n X dL_swap_3 rfl (lv_at hl 1 rfl) ?_
  refine g_iload_n X dL_swap_4 rfl (lv_at hl 2 rfl) ?_
  refine k_Vie X (res := (v.1, (v.2, ov))) (As := [.int a1, .int a2]) (rest := [.int 0, .ref oa]) (lift_i (post2 := pE (v.1, (v.2, ov))) ho (fun r τ h => by have h : (r, τ) = v := h; subst h; rfl) (c_X3_swap hI hF)) (cwV 2 X.ts gL_swap_X3_swap rfl rfl rfl (by decide +kernel) ⟨Nat.le_of_ble_eq_true rfl, Nat.le_of_ble_eq_true rfl⟩) ⟨0, 3, _, _, wL_obj, rfl, rfl⟩ rfl hl.1 rfl (Nat.le_of_ble_eq_true rfl) dL_swap_5 ?_
  refine g_i2l X dL_swap_8 ?_
  refine g_last X (wL_D hI ho) (v.2, v.1.toInt64) (i := 0) wL_o (by unfold vp_in; decide) wL_set dL_swap_9 ?_
  refine g_goto (tgt := 17) X dL_swap_10 (by decide) ?_
  refine g_iconst (v := 0) X dL_swap_17 (by decide) ?_
  exact g_iret X (pE_mk rfl) dL_swap_18
set_option maxHeartbeats 4000000 in
set_option maxRecDepth 100000 in
theorem e_swap_2 {l : Launch} (hlt : l.stackTraces = false) {D : va_G} {ay : Nat → ClassId} {ad : Nat → Nat} {oa : Nat} {sd : Nat → Nat} {a1 : Int32} {a2 : Int32} {σ : Mem} {ov : Int64} (hI : adOK ad) (ho : ¬ AC ad oa) (hF : F_X3_swap a1 a2 σ = some (Sum.inl 2)) : Met l yL_swap wsL_swap ({ frames := 7, cells := 1, slots := 6, locals := 151 } : Room) (va_Pc [.ref (ad 0), .int a1, .int a2, .ref oa] (fun U => PP D ay (wL ay ad oa (σ, ov)) U ∧ TX (A2 ad oa) sd U)) (va_Qi (pE ((1 : Int32), (σ, ov))) (fun u => PP D ay (wL ay ad oa u)) (A2 ad oa)) 1 6 (A2 ad oa) := by
  refine g_startW (wd := wL ay ad oa) (A := A2 ad oa) (own := RL) (mL := 5) (rt := some .int) (hh := [(0, 10, 13, 21)]) (by decide) rfl rfl (Nat.le_of_ble_eq_true rfl) ?_
  intro p e s m below meth c ls X htab hT hl
  have hl : lv_has ls 5 [(0, .ref (ad 0)), (1, .int a1), (2, .int a2), (3, .ref oa)] := hl
  refine g_aload_n X dL_swap_0 rfl (lv_at hl 3 rfl) ?_
  refine g_iconst (v := 0) X dL_swap_1 (by decide) ?_
  refine g_aload_n X dL_swap_2 rfl (lv_at hl 0 rfl) ?_
  refine g_iload_n X dL_swap_3 rfl (lv_at hl 1 rfl) ?_
  refine g_iload_n X dL_swap_4 rfl (lv_at hl 2 rfl) ?_
  refine gf_throw (St := Mem × Int64) (fr := oL ay oa ov) (σ := σ) rfl (fun k q hk => by rw [oL_at hk]; exact ho) X hT (E0 := exE 2) (As := [.int a1, .int a2]) (rest := [.int 0, .ref oa]) (t_X3_swap hlt hI hF) (cwV 2 X.ts gL_swap_X3_swap rfl rfl rfl (by decide +kernel) ⟨Nat.le_of_ble_eq_true rfl, Nat.le_of_ble_eq_true rfl⟩) rfl hl.1 rfl (Nat.le_of_ble_eq_true rfl) dL_swap_5 (Nat.le_of_ble_eq_true rfl) (Nat.le_of_ble_eq_true rfl) (fun ce q9 H1 locs1 hP hS hce hcv hcl => ?_)
  refine vx_catch (name := "java/lang/IndexOutOfBoundsException") (E := exE 2) X.ow [] ⟨0, 10, 13, 21⟩ [] (by rw [htab]; rfl) (fun z hz => nomatch hz) (by decide) (by decide) (X.ts (.classLink RL 21 "java/lang/IndexOutOfBoundsException") (by decide +kernel)) (va_Nw.use rfl (hT.2.1 ("java/lang/IndexOutOfBoundsException", "java/lang/IndexOutOfBoundsException") (by decide))) hce hcv hcl ?_
  refine lv_astore (lv' := [(4, _), (0, _), (1, _), (2, _), (3, _)]) X.x X.b dL_swap_13 hl (by decide) rfl (fun ls hl => ?_)
  refine lv_iconst (v := 1) X.x X.b dL_swap_15 (by decide) ?_
  exact W.iret X.x X.b X.rtt (fun t ht hW => ⟨⟨1, (σ, ov), rfl, rfl, (show PP D ay (wL ay ad oa (σ, ov)) t from ⟨by rw [ht]; exact hP, KK.warm hW X.kk⟩)⟩, hS.F ht⟩) hS.2.2 dL_swap_16 X.lk
set_option maxHeartbeats 4000000 in
set_option maxRecDepth 100000 in
theorem e_pass_r {l : Launch} {D : va_G} {ay : Nat → ClassId} {ad : Nat → Nat} {oa : Nat} {sd : Nat → Nat} {a1 : Int32} {σ : Mem} {ov : Int64} {v : Int32 × Mem} (hI : adOK ad) (ho : ¬ AC ad oa) (hF : F_X3_pass a1 σ = some (Sum.inr v)) : Met l yL_pass wsL_pass ({ frames := 7, cells := 0, slots := 0, locals := 170 } : Room) (va_Pc [.ref (ad 0), .int a1, .ref oa] (fun U => PP D ay (wL ay ad oa (σ, ov)) U ∧ TX (A2 ad oa) sd U)) (va_Qi (pE (0, (v.2, v.1.toInt64))) (fun u => PP D ay (wL ay ad oa u)) (A2 ad oa)) 0 0 (A2 ad oa) := by
  refine g_startW (wd := wL ay ad oa) (A := A2 ad oa) (own := RL) (mL := 4) (rt := some .int) (hh := [(0, 9, 12, 13), (0, 9, 15, 15)]) (by decide) rfl rfl (Nat.le_of_ble_eq_true rfl) ?_
  intro p e s m below meth c ls X htab hT hl
  have hl : lv_has ls 4 [(0, .ref (ad 0)), (1, .int a1), (2, .ref oa)] := hl
  refine g_aload_n X dL_pass_0 rfl (lv_at hl 2 rfl) ?_
  refine g_iconst (v := 0) X dL_pass_1 (by decide) ?_
  refine g_aload_n X dL_pass_2 rfl (lv_at hl 0 rfl) ?_
  refine g_iload_n X dL_pass_3 rfl (lv_at hl 1 rfl) ?_
  refine k_Vie X (res := (v.1, (v.2, ov))) (As := [.int a1]) (rest := [.int 0, .ref oa]) (lift_i (post2 := pE (v.1, (v.2, ov))) ho (fun r τ h => by have h : (r, τ) = v := h; subst h; rfl) (c_X3_pass hI hF)) (cwV 1 X.ts gL_pass_X3_pass rfl rfl rfl (by decide +kernel) ⟨Nat.le_of_ble_eq_true rfl, Nat.le_of_ble_eq_true rfl⟩) ⟨0, 3, _, _, wL_obj, rfl, rfl⟩ rfl hl.1 rfl (Nat.le_of_ble_eq_true rfl) dL_pass_4 ?_
  refine g_i2l X dL_pass_7 ?_
  refine g_last X (wL_D hI ho) (v.2, v.1.toInt64) (i := 0) wL_o (by unfold vp_in; decide) wL_set dL_pass_8 ?_
  refine g_goto (tgt := 18) X dL_pass_9 (by decide) ?_
  refine g_iconst (v := 0) X dL_pass_18 (by decide) ?_
  exact g_iret X (pE_mk rfl) dL_pass_19
set_option maxHeartbeats 4000000 in
set_option maxRecDepth 100000 in
theorem e_pass_0 {l : Launch} (hlt : l.stackTraces = false) {D : va_G} {ay : Nat → ClassId} {ad : Nat → Nat} {oa : Nat} {sd : Nat → Nat} {a1 : Int32} {σ : Mem} {ov : Int64} (hI : adOK ad) (ho : ¬ AC ad oa) (hF : F_X3_pass a1 σ = some (Sum.inl 0)) : Met l yL_pass wsL_pass ({ frames := 7, cells := 1, slots := 6, locals := 170 } : Room) (va_Pc [.ref (ad 0), .int a1, .ref oa] (fun U => PP D ay (wL ay ad oa (σ, ov)) U ∧ TX (A2 ad oa) sd U)) (va_Qi (pE ((1 : Int32), (σ, ov))) (fun u => PP D ay (wL ay ad oa u)) (A2 ad oa)) 1 6 (A2 ad oa) := by
  refine g_startW (wd := wL ay ad oa) (A := A2 ad oa) (own := RL) (mL := 4) (rt := some .int) (hh := [(0, 9, 12, 13), (0, 9, 15, 15)]) (by decide) rfl rfl (Nat.le_of_ble_eq_true rfl) ?_
  intro p e s m below meth c ls X htab hT hl
  have hl : lv_has ls 4 [(0, .ref (ad 0)), (1, .int a1), (2, .ref oa)] := hl
  refine g_aload_n X dL_pass_0 rfl (lv_at hl 2 rfl) ?_
  refine g_iconst (v := 0) X dL_pass_1 (by decide) ?_
  refine g_aload_n X dL_pass_2 rfl (lv_at hl 0 rfl) ?_
  refine g_iload_n X dL_pass_3 rfl (lv_at hl 1 rfl) ?_
  refine gf_throw (St := Mem × Int64) (fr := oL ay oa ov) (σ := σ) rfl (fun k q hk => by rw [oL_at hk]; exact ho) X hT (E0 := exE 0) (As := [.int a1]) (rest := [.int 0, .ref oa]) (t_X3_pass hlt hI hF) (cwV 1 X.ts gL_pass_X3_pass rfl rfl rfl (by decide +kernel) ⟨Nat.le_of_ble_eq_true rfl, Nat.le_of_ble_eq_true rfl⟩) rfl hl.1 rfl (Nat.le_of_ble_eq_true rfl) dL_pass_4 (Nat.le_of_ble_eq_true rfl) (Nat.le_of_ble_eq_true rfl) (fun ce q9 H1 locs1 hP hS hce hcv hcl => ?_)
  refine vx_catch (name := "java/lang/IllegalArgumentException") (E := exE 0) X.ow [] ⟨0, 9, 12, 13⟩ [⟨0, 9, 15, 15⟩] (by rw [htab]; rfl) (fun z hz => nomatch hz) (by decide) (by decide) (X.ts (.classLink RL 13 "java/lang/IllegalArgumentException") (by decide +kernel)) (va_Nw.use rfl (hT.2.1 ("java/lang/IllegalArgumentException", "java/lang/IllegalArgumentException") (by decide))) hce hcv hcl ?_
  refine lv_astore_n (lv' := [(3, _), (0, _), (1, _), (2, _)]) X.x X.b dL_pass_12 rfl hl (by decide) rfl (fun ls hl => ?_)
  refine lv_iconst (v := 1) X.x X.b dL_pass_13 (by decide) ?_
  exact W.iret X.x X.b X.rtt (fun t ht hW => ⟨⟨1, (σ, ov), rfl, rfl, (show PP D ay (wL ay ad oa (σ, ov)) t from ⟨by rw [ht]; exact hP, KK.warm hW X.kk⟩)⟩, hS.F ht⟩) hS.2.2 dL_pass_14 X.lk
set_option maxHeartbeats 4000000 in
set_option maxRecDepth 100000 in
theorem e_pass_1 {l : Launch} (hlt : l.stackTraces = false) {D : va_G} {ay : Nat → ClassId} {ad : Nat → Nat} {oa : Nat} {sd : Nat → Nat} {a1 : Int32} {σ : Mem} {ov : Int64} (hI : adOK ad) (ho : ¬ AC ad oa) (hF : F_X3_pass a1 σ = some (Sum.inl 1)) : Met l yL_pass wsL_pass ({ frames := 7, cells := 1, slots := 6, locals := 170 } : Room) (va_Pc [.ref (ad 0), .int a1, .ref oa] (fun U => PP D ay (wL ay ad oa (σ, ov)) U ∧ TX (A2 ad oa) sd U)) (va_Qi (pE ((2 : Int32), (σ, ov))) (fun u => PP D ay (wL ay ad oa u)) (A2 ad oa)) 1 6 (A2 ad oa) := by
  refine g_startW (wd := wL ay ad oa) (A := A2 ad oa) (own := RL) (mL := 4) (rt := some .int) (hh := [(0, 9, 12, 13), (0, 9, 15, 15)]) (by decide) rfl rfl (Nat.le_of_ble_eq_true rfl) ?_
  intro p e s m below meth c ls X htab hT hl
  have hl : lv_has ls 4 [(0, .ref (ad 0)), (1, .int a1), (2, .ref oa)] := hl
  refine g_aload_n X dL_pass_0 rfl (lv_at hl 2 rfl) ?_
  refine g_iconst (v := 0) X dL_pass_1 (by decide) ?_
  refine g_aload_n X dL_pass_2 rfl (lv_at hl 0 rfl) ?_
  refine g_iload_n X dL_pass_3 rfl (lv_at hl 1 rfl) ?_
  refine gf_throw (St := Mem × Int64) (fr := oL ay oa ov) (σ := σ) rfl (fun k q hk => by rw [oL_at hk]; exact ho) X hT (E0 := exE 1) (As := [.int a1]) (rest := [.int 0, .ref oa]) (t_X3_pass hlt hI hF) (cwV 1 X.ts gL_pass_X3_pass rfl rfl rfl (by decide +kernel) ⟨Nat.le_of_ble_eq_true rfl, Nat.le_of_ble_eq_true rfl⟩) rfl hl.1 rfl (Nat.le_of_ble_eq_true rfl) dL_pass_4 (Nat.le_of_ble_eq_true rfl) (Nat.le_of_ble_eq_true rfl) (fun ce q9 H1 locs1 hP hS hce hcv hcl => ?_)
  refine vx_catch (name := "java/lang/IllegalStateException") (E := exE 1) X.ow [⟨0, 9, 12, 13⟩] ⟨0, 9, 15, 15⟩ [] (by rw [htab]; rfl) (fun z hz => by
    rcases List.mem_cons.mp hz with rfl | hz
    · exact Or.inr ⟨by decide, "java/lang/IllegalArgumentException", X.ts (.classLink RL 13 "java/lang/IllegalArgumentException") (by decide +kernel), hT.2.2.2.2.2 ("java/lang/IllegalStateException", "java/lang/IllegalArgumentException") (by decide)⟩
    · exact nomatch hz) (by decide) (by decide) (X.ts (.classLink RL 15 "java/lang/IllegalStateException") (by decide +kernel)) (va_Nw.use rfl (hT.2.1 ("java/lang/IllegalStateException", "java/lang/IllegalStateException") (by decide))) hce hcv hcl ?_
  refine lv_astore_n (lv' := [(3, _), (0, _), (1, _), (2, _)]) X.x X.b dL_pass_15 rfl hl (by decide) rfl (fun ls hl => ?_)
  refine lv_iconst (v := 2) X.x X.b dL_pass_16 (by decide) ?_
  exact W.iret X.x X.b X.rtt (fun t ht hW => ⟨⟨2, (σ, ov), rfl, rfl, (show PP D ay (wL ay ad oa (σ, ov)) t from ⟨by rw [ht]; exact hP, KK.warm hW X.kk⟩)⟩, hS.F ht⟩) hS.2.2 dL_pass_17 X.lk
set_option maxHeartbeats 4000000 in
set_option maxRecDepth 100000 in
theorem e_passToTurn_r {l : Launch} {D : va_G} {ay : Nat → ClassId} {ad : Nat → Nat} {oa : Nat} {sd : Nat → Nat} {σ : Mem} {ov : Int64} {v : Int32 × Mem} (hI : adOK ad) (ho : ¬ AC ad oa) (hF : F_X3_passToTurn σ = some (Sum.inr v)) : Met l yL_passToTurn wsL_passToTurn ({ frames := 7, cells := 0, slots := 0, locals := 171 } : Room) (va_Pc [.ref (ad 0), .ref oa] (fun U => PP D ay (wL ay ad oa (σ, ov)) U ∧ TX (A2 ad oa) sd U)) (va_Qi (pE (0, (v.2, v.1.toInt64))) (fun u => PP D ay (wL ay ad oa u)) (A2 ad oa)) 0 0 (A2 ad oa) := by
  refine g_startW (wd := wL ay ad oa) (A := A2 ad oa) (own := RL) (mL := 3) (rt := some .int) (hh := [(0, 8, 11, 15)]) (by decide) rfl rfl (Nat.le_of_ble_eq_true rfl) ?_
  intro p e s m below meth c ls X htab hT hl
  have hl : lv_has ls 3 [(0, .ref (ad 0)), (1, .ref oa)] := hl
  refine g_aload_n X dL_passToTurn_0 rfl (lv_at hl 1 rfl) ?_
  refine g_iconst (v := 0) X dL_passToTurn_1 (by decide) ?_
  refine g_aload_n X dL_passToTurn_2 rfl (lv_at hl 0 rfl) ?_
  refine k_Vie X (res := (v.1, (v.2, ov))) (As := []) (rest := [.int 0, .ref oa]) (lift_i (post2 := pE (v.1, (v.2, ov))) ho (fun r τ h => by have h : (r, τ) = v := h; subst h; rfl) (c_X3_passToTurn hI hF)) (cwV 0 X.ts gL_passToTurn_X3_passToTurn rfl rfl rfl (by decide +kernel) ⟨Nat.le_of_ble_eq_true rfl, Nat.le_of_ble_eq_true rfl⟩) ⟨0, 3, _, _, wL_obj, rfl, rfl⟩ rfl hl.1 rfl (Nat.le_of_ble_eq_true rfl) dL_passToTurn_3 ?_
  refine g_i2l X dL_passToTurn_6 ?_
  refine g_last X (wL_D hI ho) (v.2, v.1.toInt64) (i := 0) wL_o (by unfold vp_in; decide) wL_set dL_passToTurn_7 ?_
  refine g_goto (tgt := 14) X dL_passToTurn_8 (by decide) ?_
  refine g_iconst (v := 0) X dL_passToTurn_14 (by decide) ?_
  exact g_iret X (pE_mk rfl) dL_passToTurn_15
set_option maxHeartbeats 4000000 in
set_option maxRecDepth 100000 in
theorem e_passToTurn_1 {l : Launch} (hlt : l.stackTraces = false) {D : va_G} {ay : Nat → ClassId} {ad : Nat → Nat} {oa : Nat} {sd : Nat → Nat} {σ : Mem} {ov : Int64} (hI : adOK ad) (ho : ¬ AC ad oa) (hF : F_X3_passToTurn σ = some (Sum.inl 1)) : Met l yL_passToTurn wsL_passToTurn ({ frames := 7, cells := 1, slots := 6, locals := 171 } : Room) (va_Pc [.ref (ad 0), .ref oa] (fun U => PP D ay (wL ay ad oa (σ, ov)) U ∧ TX (A2 ad oa) sd U)) (va_Qi (pE ((1 : Int32), (σ, ov))) (fun u => PP D ay (wL ay ad oa u)) (A2 ad oa)) 1 6 (A2 ad oa) := by
  refine g_startW (wd := wL ay ad oa) (A := A2 ad oa) (own := RL) (mL := 3) (rt := some .int) (hh := [(0, 8, 11, 15)]) (by decide) rfl rfl (Nat.le_of_ble_eq_true rfl) ?_
  intro p e s m below meth c ls X htab hT hl
  have hl : lv_has ls 3 [(0, .ref (ad 0)), (1, .ref oa)] := hl
  refine g_aload_n X dL_passToTurn_0 rfl (lv_at hl 1 rfl) ?_
  refine g_iconst (v := 0) X dL_passToTurn_1 (by decide) ?_
  refine g_aload_n X dL_passToTurn_2 rfl (lv_at hl 0 rfl) ?_
  refine gf_throw (St := Mem × Int64) (fr := oL ay oa ov) (σ := σ) rfl (fun k q hk => by rw [oL_at hk]; exact ho) X hT (E0 := exE 1) (As := []) (rest := [.int 0, .ref oa]) (t_X3_passToTurn hlt hI hF) (cwV 0 X.ts gL_passToTurn_X3_passToTurn rfl rfl rfl (by decide +kernel) ⟨Nat.le_of_ble_eq_true rfl, Nat.le_of_ble_eq_true rfl⟩) rfl hl.1 rfl (Nat.le_of_ble_eq_true rfl) dL_passToTurn_3 (Nat.le_of_ble_eq_true rfl) (Nat.le_of_ble_eq_true rfl) (fun ce q9 H1 locs1 hP hS hce hcv hcl => ?_)
  refine vx_catch (name := "java/lang/IllegalStateException") (E := exE 1) X.ow [] ⟨0, 8, 11, 15⟩ [] (by rw [htab]; rfl) (fun z hz => nomatch hz) (by decide) (by decide) (X.ts (.classLink RL 15 "java/lang/IllegalStateException") (by decide +kernel)) (va_Nw.use rfl (hT.2.1 ("java/lang/IllegalStateException", "java/lang/IllegalStateException") (by decide))) hce hcv hcl ?_
  refine lv_astore_n (lv' := [(2, _), (0, _), (1, _)]) X.x X.b dL_passToTurn_11 rfl hl (by decide) rfl (fun ls hl => ?_)
  refine lv_iconst (v := 1) X.x X.b dL_passToTurn_12 (by decide) ?_
  exact W.iret X.x X.b X.rtt (fun t ht hW => ⟨⟨1, (σ, ov), rfl, rfl, (show PP D ay (wL ay ad oa (σ, ov)) t from ⟨by rw [ht]; exact hP, KK.warm hW X.kk⟩)⟩, hS.F ht⟩) hS.2.2 dL_passToTurn_13 X.lk
set_option maxHeartbeats 4000000 in
set_option maxRecDepth 100000 in
theorem e_set_r {l : Launch} {D : va_G} {ay : Nat → ClassId} {ad : Nat → Nat} {oa : Nat} {sd : Nat → Nat} {a1 : Int32} {a2 : Int32} {σ : Mem} {ov : Int64} {v : Int32 × Mem} (hI : adOK ad) (ho : ¬ AC ad oa) (hF : F_X3_set a1 a2 σ = some (Sum.inr v)) : Met l yL_set wsL_set ({ frames := 7, cells := 0, slots := 0, locals := 149 } : Room) (va_Pc [.ref (ad 0), .int a1, .int a2, .ref oa] (fun U => PP D ay (wL ay ad oa (σ, ov)) U ∧ TX (A2 ad oa) sd U)) (va_Qi (pE (0, (v.2, v.1.toInt64))) (fun u => PP D ay (wL ay ad oa u)) (A2 ad oa)) 0 0 (A2 ad oa) := by
  refine g_startW (wd := wL ay ad oa) (A := A2 ad oa) (own := RL) (mL := 5) (rt := some .int) (hh := [(0, 10, 13, 21), (0, 10, 17, 13)]) (by decide) rfl rfl (Nat.le_of_ble_eq_true rfl) ?_
  intro p e s m below meth c ls X htab hT hl
  have hl : lv_has ls 5 [(0, .ref (ad 0)), (1, .int a1), (2, .int a2), (3, .ref oa)] := hl
  refine g_aload_n X dL_set_0 rfl (lv_at hl 3 rfl) ?_
  refine g_iconst (v := 0) X dL_set_1 (by decide) ?_
  refine g_aload_n X dL_set_2 rfl (lv_at hl 0 rfl) ?_
  refine g_iload_n X dL_set_3 rfl (lv_at hl 1 rfl) ?_
  refine g_iload_n X dL_set_4 rfl (lv_at hl 2 rfl) ?_
  refine k_Vie X (res := (v.1, (v.2, ov))) (As := [.int a1, .int a2]) (rest := [.int 0, .ref oa]) (lift_i (post2 := pE (v.1, (v.2, ov))) ho (fun r τ h => by have h : (r, τ) = v := h; subst h; rfl) (c_X3_set hI hF)) (cwV 2 X.ts gL_set_X3_set rfl rfl rfl (by decide +kernel) ⟨Nat.le_of_ble_eq_true rfl, Nat.le_of_ble_eq_true rfl⟩) ⟨0, 3, _, _, wL_obj, rfl, rfl⟩ rfl hl.1 rfl (Nat.le_of_ble_eq_true rfl) dL_set_5 ?_
  refine g_i2l X dL_set_8 ?_
  refine g_last X (wL_D hI ho) (v.2, v.1.toInt64) (i := 0) wL_o (by unfold vp_in; decide) wL_set dL_set_9 ?_
  refine g_goto (tgt := 21) X dL_set_10 (by decide) ?_
  refine g_iconst (v := 0) X dL_set_21 (by decide) ?_
  exact g_iret X (pE_mk rfl) dL_set_22
set_option maxHeartbeats 4000000 in
set_option maxRecDepth 100000 in
theorem e_set_2 {l : Launch} (hlt : l.stackTraces = false) {D : va_G} {ay : Nat → ClassId} {ad : Nat → Nat} {oa : Nat} {sd : Nat → Nat} {a1 : Int32} {a2 : Int32} {σ : Mem} {ov : Int64} (hI : adOK ad) (ho : ¬ AC ad oa) (hF : F_X3_set a1 a2 σ = some (Sum.inl 2)) : Met l yL_set wsL_set ({ frames := 7, cells := 1, slots := 6, locals := 149 } : Room) (va_Pc [.ref (ad 0), .int a1, .int a2, .ref oa] (fun U => PP D ay (wL ay ad oa (σ, ov)) U ∧ TX (A2 ad oa) sd U)) (va_Qi (pE ((1 : Int32), (σ, ov))) (fun u => PP D ay (wL ay ad oa u)) (A2 ad oa)) 1 6 (A2 ad oa) := by
  refine g_startW (wd := wL ay ad oa) (A := A2 ad oa) (own := RL) (mL := 5) (rt := some .int) (hh := [(0, 10, 13, 21), (0, 10, 17, 13)]) (by decide) rfl rfl (Nat.le_of_ble_eq_true rfl) ?_
  intro p e s m below meth c ls X htab hT hl
  have hl : lv_has ls 5 [(0, .ref (ad 0)), (1, .int a1), (2, .int a2), (3, .ref oa)] := hl
  refine g_aload_n X dL_set_0 rfl (lv_at hl 3 rfl) ?_
  refine g_iconst (v := 0) X dL_set_1 (by decide) ?_
  refine g_aload_n X dL_set_2 rfl (lv_at hl 0 rfl) ?_
  refine g_iload_n X dL_set_3 rfl (lv_at hl 1 rfl) ?_
  refine g_iload_n X dL_set_4 rfl (lv_at hl 2 rfl) ?_
  refine gf_throw (St := Mem × Int64) (fr := oL ay oa ov) (σ := σ) rfl (fun k q hk => by rw [oL_at hk]; exact ho) X hT (E0 := exE 2) (As := [.int a1, .int a2]) (rest := [.int 0, .ref oa]) (t_X3_set hlt hI hF) (cwV 2 X.ts gL_set_X3_set rfl rfl rfl (by decide +kernel) ⟨Nat.le_of_ble_eq_true rfl, Nat.le_of_ble_eq_true rfl⟩) rfl hl.1 rfl (Nat.le_of_ble_eq_true rfl) dL_set_5 (Nat.le_of_ble_eq_true rfl) (Nat.le_of_ble_eq_true rfl) (fun ce q9 H1 locs1 hP hS hce hcv hcl => ?_)
  refine vx_catch (name := "java/lang/IndexOutOfBoundsException") (E := exE 2) X.ow [] ⟨0, 10, 13, 21⟩ [⟨0, 10, 17, 13⟩] (by rw [htab]; rfl) (fun z hz => nomatch hz) (by decide) (by decide) (X.ts (.classLink RL 21 "java/lang/IndexOutOfBoundsException") (by decide +kernel)) (va_Nw.use rfl (hT.2.1 ("java/lang/IndexOutOfBoundsException", "java/lang/IndexOutOfBoundsException") (by decide))) hce hcv hcl ?_
  refine lv_astore (lv' := [(4, _), (0, _), (1, _), (2, _), (3, _)]) X.x X.b dL_set_13 hl (by decide) rfl (fun ls hl => ?_)
  refine lv_iconst (v := 1) X.x X.b dL_set_15 (by decide) ?_
  exact W.iret X.x X.b X.rtt (fun t ht hW => ⟨⟨1, (σ, ov), rfl, rfl, (show PP D ay (wL ay ad oa (σ, ov)) t from ⟨by rw [ht]; exact hP, KK.warm hW X.kk⟩)⟩, hS.F ht⟩) hS.2.2 dL_set_16 X.lk
set_option maxHeartbeats 4000000 in
set_option maxRecDepth 100000 in
theorem e_set_0 {l : Launch} (hlt : l.stackTraces = false) {D : va_G} {ay : Nat → ClassId} {ad : Nat → Nat} {oa : Nat} {sd : Nat → Nat} {a1 : Int32} {a2 : Int32} {σ : Mem} {ov : Int64} (hI : adOK ad) (ho : ¬ AC ad oa) (hF : F_X3_set a1 a2 σ = some (Sum.inl 0)) : Met l yL_set wsL_set ({ frames := 7, cells := 1, slots := 6, locals := 149 } : Room) (va_Pc [.ref (ad 0), .int a1, .int a2, .ref oa] (fun U => PP D ay (wL ay ad oa (σ, ov)) U ∧ TX (A2 ad oa) sd U)) (va_Qi (pE ((2 : Int32), (σ, ov))) (fun u => PP D ay (wL ay ad oa u)) (A2 ad oa)) 1 6 (A2 ad oa) := by
  refine g_startW (wd := wL ay ad oa) (A := A2 ad oa) (own := RL) (mL := 5) (rt := some .int) (hh := [(0, 10, 13, 21), (0, 10, 17, 13)]) (by decide) rfl rfl (Nat.le_of_ble_eq_true rfl) ?_
  intro p e s m below meth c ls X htab hT hl
  have hl : lv_has ls 5 [(0, .ref (ad 0)), (1, .int a1), (2, .int a2), (3, .ref oa)] := hl
  refine g_aload_n X dL_set_0 rfl (lv_at hl 3 rfl) ?_
  refine g_iconst (v := 0) X dL_set_1 (by decide) ?_
  refine g_aload_n X dL_set_2 rfl (lv_at hl 0 rfl) ?_
  refine g_iload_n X dL_set_3 rfl (lv_at hl 1 rfl) ?_
  refine g_iload_n X dL_set_4 rfl (lv_at hl 2 rfl) ?_
  refine gf_throw (St := Mem × Int64) (fr := oL ay oa ov) (σ := σ) rfl (fun k q hk => by rw [oL_at hk]; exact ho) X hT (E0 := exE 0) (As := [.int a1, .int a2]) (rest := [.int 0, .ref oa]) (t_X3_set hlt hI hF) (cwV 2 X.ts gL_set_X3_set rfl rfl rfl (by decide +kernel) ⟨Nat.le_of_ble_eq_true rfl, Nat.le_of_ble_eq_true rfl⟩) rfl hl.1 rfl (Nat.le_of_ble_eq_true rfl) dL_set_5 (Nat.le_of_ble_eq_true rfl) (Nat.le_of_ble_eq_true rfl) (fun ce q9 H1 locs1 hP hS hce hcv hcl => ?_)
  refine vx_catch (name := "java/lang/IllegalArgumentException") (E := exE 0) X.ow [⟨0, 10, 13, 21⟩] ⟨0, 10, 17, 13⟩ [] (by rw [htab]; rfl) (fun z hz => by
    rcases List.mem_cons.mp hz with rfl | hz
    · exact Or.inr ⟨by decide, "java/lang/IndexOutOfBoundsException", X.ts (.classLink RL 21 "java/lang/IndexOutOfBoundsException") (by decide +kernel), hT.2.2.2.2.2 ("java/lang/IllegalArgumentException", "java/lang/IndexOutOfBoundsException") (by decide)⟩
    · exact nomatch hz) (by decide) (by decide) (X.ts (.classLink RL 13 "java/lang/IllegalArgumentException") (by decide +kernel)) (va_Nw.use rfl (hT.2.1 ("java/lang/IllegalArgumentException", "java/lang/IllegalArgumentException") (by decide))) hce hcv hcl ?_
  refine lv_astore (lv' := [(4, _), (0, _), (1, _), (2, _), (3, _)]) X.x X.b dL_set_17 hl (by decide) rfl (fun ls hl => ?_)
  refine lv_iconst (v := 2) X.x X.b dL_set_19 (by decide) ?_
  exact W.iret X.x X.b X.rtt (fun t ht hW => ⟨⟨2, (σ, ov), rfl, rfl, (show PP D ay (wL ay ad oa (σ, ov)) t from ⟨by rw [ht]; exact hP, KK.warm hW X.kk⟩)⟩, hS.F ht⟩) hS.2.2 dL_set_20 X.lk
set_option maxHeartbeats 4000000 in
set_option maxRecDepth 100000 in
theorem e_append_r {l : Launch} {D : va_G} {ay : Nat → ClassId} {ad : Nat → Nat} {oa : Nat} {sd : Nat → Nat} {a1 : Int32} {σ : Mem} {ov : Int64} {v : Int32 × Mem} (hI : adOK ad) (ho : ¬ AC ad oa) (hF : F_X3_append a1 σ = some (Sum.inr v)) : Met l yL_append wsL_append ({ frames := 7, cells := 0, slots := 0, locals := 103 } : Room) (va_Pc [.ref (ad 0), .int a1, .ref oa] (fun U => PP D ay (wL ay ad oa (σ, ov)) U ∧ TX (A2 ad oa) sd U)) (va_Qi (pE (0, (v.2, v.1.toInt64))) (fun u => PP D ay (wL ay ad oa u)) (A2 ad oa)) 0 0 (A2 ad oa) := by
  refine g_startW (wd := wL ay ad oa) (A := A2 ad oa) (own := RL) (mL := 4) (rt := some .int) (hh := [(0, 9, 12, 13), (0, 9, 15, 15)]) (by decide) rfl rfl (Nat.le_of_ble_eq_true rfl) ?_
  intro p e s m below meth c ls X htab hT hl
  have hl : lv_has ls 4 [(0, .ref (ad 0)), (1, .int a1), (2, .ref oa)] := hl
  refine g_aload_n X dL_append_0 rfl (lv_at hl 2 rfl) ?_
  refine g_iconst (v := 0) X dL_append_1 (by decide) ?_
  refine g_aload_n X dL_append_2 rfl (lv_at hl 0 rfl) ?_
  refine g_iload_n X dL_append_3 rfl (lv_at hl 1 rfl) ?_
  refine k_Vie X (res := (v.1, (v.2, ov))) (As := [.int a1]) (rest := [.int 0, .ref oa]) (lift_i (post2 := pE (v.1, (v.2, ov))) ho (fun r τ h => by have h : (r, τ) = v := h; subst h; rfl) (c_X3_append hI hF)) (cwV 1 X.ts gL_append_X3_append rfl rfl rfl (by decide +kernel) ⟨Nat.le_of_ble_eq_true rfl, Nat.le_of_ble_eq_true rfl⟩) ⟨0, 3, _, _, wL_obj, rfl, rfl⟩ rfl hl.1 rfl (Nat.le_of_ble_eq_true rfl) dL_append_4 ?_
  refine g_i2l X dL_append_7 ?_
  refine g_last X (wL_D hI ho) (v.2, v.1.toInt64) (i := 0) wL_o (by unfold vp_in; decide) wL_set dL_append_8 ?_
  refine g_goto (tgt := 18) X dL_append_9 (by decide) ?_
  refine g_iconst (v := 0) X dL_append_18 (by decide) ?_
  exact g_iret X (pE_mk rfl) dL_append_19
set_option maxHeartbeats 4000000 in
set_option maxRecDepth 100000 in
theorem e_append_0 {l : Launch} (hlt : l.stackTraces = false) {D : va_G} {ay : Nat → ClassId} {ad : Nat → Nat} {oa : Nat} {sd : Nat → Nat} {a1 : Int32} {σ : Mem} {ov : Int64} (hI : adOK ad) (ho : ¬ AC ad oa) (hF : F_X3_append a1 σ = some (Sum.inl 0)) : Met l yL_append wsL_append ({ frames := 7, cells := 1, slots := 6, locals := 103 } : Room) (va_Pc [.ref (ad 0), .int a1, .ref oa] (fun U => PP D ay (wL ay ad oa (σ, ov)) U ∧ TX (A2 ad oa) sd U)) (va_Qi (pE ((1 : Int32), (σ, ov))) (fun u => PP D ay (wL ay ad oa u)) (A2 ad oa)) 1 6 (A2 ad oa) := by
  refine g_startW (wd := wL ay ad oa) (A := A2 ad oa) (own := RL) (mL := 4) (rt := some .int) (hh := [(0, 9, 12, 13), (0, 9, 15, 15)]) (by decide) rfl rfl (Nat.le_of_ble_eq_true rfl) ?_
  intro p e s m below meth c ls X htab hT hl
  have hl : lv_has ls 4 [(0, .ref (ad 0)), (1, .int a1), (2, .ref oa)] := hl
  refine g_aload_n X dL_append_0 rfl (lv_at hl 2 rfl) ?_
  refine g_iconst (v := 0) X dL_append_1 (by decide) ?_
  refine g_aload_n X dL_append_2 rfl (lv_at hl 0 rfl) ?_
  refine g_iload_n X dL_append_3 rfl (lv_at hl 1 rfl) ?_
  refine gf_throw (St := Mem × Int64) (fr := oL ay oa ov) (σ := σ) rfl (fun k q hk => by rw [oL_at hk]; exact ho) X hT (E0 := exE 0) (As := [.int a1]) (rest := [.int 0, .ref oa]) (t_X3_append hlt hI hF) (cwV 1 X.ts gL_append_X3_append rfl rfl rfl (by decide +kernel) ⟨Nat.le_of_ble_eq_true rfl, Nat.le_of_ble_eq_true rfl⟩) rfl hl.1 rfl (Nat.le_of_ble_eq_true rfl) dL_append_4 (Nat.le_of_ble_eq_true rfl) (Nat.le_of_ble_eq_true rfl) (fun ce q9 H1 locs1 hP hS hce hcv hcl => ?_)
  refine vx_catch (name := "java/lang/IllegalArgumentException") (E := exE 0) X.ow [] ⟨0, 9, 12, 13⟩ [⟨0, 9, 15, 15⟩] (by rw [htab]; rfl) (fun z hz => nomatch hz) (by decide) (by decide) (X.ts (.classLink RL 13 "java/lang/IllegalArgumentException") (by decide +kernel)) (va_Nw.use rfl (hT.2.1 ("java/lang/IllegalArgumentException", "java/lang/IllegalArgumentException") (by decide))) hce hcv hcl ?_
  refine lv_astore_n (lv' := [(3, _), (0, _), (1, _), (2, _)]) X.x X.b dL_append_12 rfl hl (by decide) rfl (fun ls hl => ?_)
  refine lv_iconst (v := 1) X.x X.b dL_append_13 (by decide) ?_
  exact W.iret X.x X.b X.rtt (fun t ht hW => ⟨⟨1, (σ, ov), rfl, rfl, (show PP D ay (wL ay ad oa (σ, ov)) t from ⟨by rw [ht]; exact hP, KK.warm hW X.kk⟩)⟩, hS.F ht⟩) hS.2.2 dL_append_14 X.lk
set_option maxHeartbeats 4000000 in
set_option maxRecDepth 100000 in
theorem e_append_1 {l : Launch} (hlt : l.stackTraces = false) {D : va_G} {ay : Nat → ClassId} {ad : Nat → Nat} {oa : Nat} {sd : Nat → Nat} {a1 : Int32} {σ : Mem} {ov : Int64} (hI : adOK ad) (ho : ¬ AC ad oa) (hF : F_X3_append a1 σ = some (Sum.inl 1)) : Met l yL_append wsL_append ({ frames := 7, cells := 1, slots := 6, locals := 103 } : Room) (va_Pc [.ref (ad 0), .int a1, .ref oa] (fun U => PP D ay (wL ay ad oa (σ, ov)) U ∧ TX (A2 ad oa) sd U)) (va_Qi (pE ((2 : Int32), (σ, ov))) (fun u => PP D ay (wL ay ad oa u)) (A2 ad oa)) 1 6 (A2 ad oa) := by
  refine g_startW (wd := wL ay ad oa) (A := A2 ad oa) (own := RL) (mL := 4) (rt := some .int) (hh := [(0, 9, 12, 13), (0, 9, 15, 15)]) (by decide) rfl rfl (Nat.le_of_ble_eq_true rfl) ?_
  intro p e s m below meth c ls X htab hT hl
  have hl : lv_has ls 4 [(0, .ref (ad 0)), (1, .int a1), (2, .ref oa)] := hl
  refine g_aload_n X dL_append_0 rfl (lv_at hl 2 rfl) ?_
  refine g_iconst (v := 0) X dL_append_1 (by decide) ?_
  refine g_aload_n X dL_append_2 rfl (lv_at hl 0 rfl) ?_
  refine g_iload_n X dL_append_3 rfl (lv_at hl 1 rfl) ?_
  refine gf_throw (St := Mem × Int64) (fr := oL ay oa ov) (σ := σ) rfl (fun k q hk => by rw [oL_at hk]; exact ho) X hT (E0 := exE 1) (As := [.int a1]) (rest := [.int 0, .ref oa]) (t_X3_append hlt hI hF) (cwV 1 X.ts gL_append_X3_append rfl rfl rfl (by decide +kernel) ⟨Nat.le_of_ble_eq_true rfl, Nat.le_of_ble_eq_true rfl⟩) rfl hl.1 rfl (Nat.le_of_ble_eq_true rfl) dL_append_4 (Nat.le_of_ble_eq_true rfl) (Nat.le_of_ble_eq_true rfl) (fun ce q9 H1 locs1 hP hS hce hcv hcl => ?_)
  refine vx_catch (name := "java/lang/IllegalStateException") (E := exE 1) X.ow [⟨0, 9, 12, 13⟩] ⟨0, 9, 15, 15⟩ [] (by rw [htab]; rfl) (fun z hz => by
    rcases List.mem_cons.mp hz with rfl | hz
    · exact Or.inr ⟨by decide, "java/lang/IllegalArgumentException", X.ts (.classLink RL 13 "java/lang/IllegalArgumentException") (by decide +kernel), hT.2.2.2.2.2 ("java/lang/IllegalStateException", "java/lang/IllegalArgumentException") (by decide)⟩
    · exact nomatch hz) (by decide) (by decide) (X.ts (.classLink RL 15 "java/lang/IllegalStateException") (by decide +kernel)) (va_Nw.use rfl (hT.2.1 ("java/lang/IllegalStateException", "java/lang/IllegalStateException") (by decide))) hce hcv hcl ?_
  refine lv_astore_n (lv' := [(3, _), (0, _), (1, _), (2, _)]) X.x X.b dL_append_15 rfl hl (by decide) rfl (fun ls hl => ?_)
  refine lv_iconst (v := 2) X.x X.b dL_append_16 (by decide) ?_
  exact W.iret X.x X.b X.rtt (fun t ht hW => ⟨⟨2, (σ, ov), rfl, rfl, (show PP D ay (wL ay ad oa (σ, ov)) t from ⟨by rw [ht]; exact hP, KK.warm hW X.kk⟩)⟩, hS.F ht⟩) hS.2.2 dL_append_17 X.lk
set_option maxHeartbeats 4000000 in
set_option maxRecDepth 100000 in
theorem e_addAll_r {l : Launch} {D : va_G} {ay : Nat → ClassId} {ad : Nat → Nat} {oa : Nat} {sd : Nat → Nat} {σ : Mem} {ov : Int64} {v : Int32 × Mem} (hI : adOK ad) (ho : ¬ AC ad oa) (hF : F_X3_addAll σ = some (Sum.inr v)) : Met l yL_addAll wsL_addAll ({ frames := 7, cells := 0, slots := 0, locals := 149 } : Room) (va_Pc [.ref (ad 0), .ref oa] (fun U => PP D ay (wL ay ad oa (σ, ov)) U ∧ TX (A2 ad oa) sd U)) (va_Qi (pE (0, (v.2, v.1.toInt64))) (fun u => PP D ay (wL ay ad oa u)) (A2 ad oa)) 0 0 (A2 ad oa) := by
  refine g_startW (wd := wL ay ad oa) (A := A2 ad oa) (own := RL) (mL := 3) (rt := some .int) (hh := [(0, 8, 11, 13), (0, 8, 14, 15)]) (by decide) rfl rfl (Nat.le_of_ble_eq_true rfl) ?_
  intro p e s m below meth c ls X htab hT hl
  have hl : lv_has ls 3 [(0, .ref (ad 0)), (1, .ref oa)] := hl
  refine g_aload_n X dL_addAll_0 rfl (lv_at hl 1 rfl) ?_
  refine g_iconst (v := 0) X dL_addAll_1 (by decide) ?_
  refine g_aload_n X dL_addAll_2 rfl (lv_at hl 0 rfl) ?_
  refine k_Vie X (res := (v.1, (v.2, ov))) (As := []) (rest := [.int 0, .ref oa]) (lift_i (post2 := pE (v.1, (v.2, ov))) ho (fun r τ h => by have h : (r, τ) = v := h; subst h; rfl) (c_X3_addAll hI hF)) (cwV 0 X.ts gL_addAll_X3_addAll rfl rfl rfl (by decide +kernel) ⟨Nat.le_of_ble_eq_true rfl, Nat.le_of_ble_eq_true rfl⟩) ⟨0, 3, _, _, wL_obj, rfl, rfl⟩ rfl hl.1 rfl (Nat.le_of_ble_eq_true rfl) dL_addAll_3 ?_
  refine g_i2l X dL_addAll_6 ?_
  refine g_last X (wL_D hI ho) (v.2, v.1.toInt64) (i := 0) wL_o (by unfold vp_in; decide) wL_set dL_addAll_7 ?_
  refine g_goto (tgt := 17) X dL_addAll_8 (by decide) ?_
  refine g_iconst (v := 0) X dL_addAll_17 (by decide) ?_
  exact g_iret X (pE_mk rfl) dL_addAll_18
set_option maxHeartbeats 4000000 in
set_option maxRecDepth 100000 in
theorem e_addAll_0 {l : Launch} (hlt : l.stackTraces = false) {D : va_G} {ay : Nat → ClassId} {ad : Nat → Nat} {oa : Nat} {sd : Nat → Nat} {σ : Mem} {ov : Int64} (hI : adOK ad) (ho : ¬ AC ad oa) (hF : F_X3_addAll σ = some (Sum.inl 0)) : Met l yL_addAll wsL_addAll ({ frames := 7, cells := 1, slots := 6, locals := 149 } : Room) (va_Pc [.ref (ad 0), .ref oa] (fun U => PP D ay (wL ay ad oa (σ, ov)) U ∧ TX (A2 ad oa) sd U)) (va_Qi (pE ((1 : Int32), (σ, ov))) (fun u => PP D ay (wL ay ad oa u)) (A2 ad oa)) 1 6 (A2 ad oa) := by
  refine g_startW (wd := wL ay ad oa) (A := A2 ad oa) (own := RL) (mL := 3) (rt := some .int) (hh := [(0, 8, 11, 13), (0, 8, 14, 15)]) (by decide) rfl rfl (Nat.le_of_ble_eq_true rfl) ?_
  intro p e s m below meth c ls X htab hT hl
  have hl : lv_has ls 3 [(0, .ref (ad 0)), (1, .ref oa)] := hl
  refine g_aload_n X dL_addAll_0 rfl (lv_at hl 1 rfl) ?_
  refine g_iconst (v := 0) X dL_addAll_1 (by decide) ?_
  refine g_aload_n X dL_addAll_2 rfl (lv_at hl 0 rfl) ?_
  refine gf_throw (St := Mem × Int64) (fr := oL ay oa ov) (σ := σ) rfl (fun k q hk => by rw [oL_at hk]; exact ho) X hT (E0 := exE 0) (As := []) (rest := [.int 0, .ref oa]) (t_X3_addAll hlt hI hF) (cwV 0 X.ts gL_addAll_X3_addAll rfl rfl rfl (by decide +kernel) ⟨Nat.le_of_ble_eq_true rfl, Nat.le_of_ble_eq_true rfl⟩) rfl hl.1 rfl (Nat.le_of_ble_eq_true rfl) dL_addAll_3 (Nat.le_of_ble_eq_true rfl) (Nat.le_of_ble_eq_true rfl) (fun ce q9 H1 locs1 hP hS hce hcv hcl => ?_)
  refine vx_catch (name := "java/lang/IllegalArgumentException") (E := exE 0) X.ow [] ⟨0, 8, 11, 13⟩ [⟨0, 8, 14, 15⟩] (by rw [htab]; rfl) (fun z hz => nomatch hz) (by decide) (by decide) (X.ts (.classLink RL 13 "java/lang/IllegalArgumentException") (by decide +kernel)) (va_Nw.use rfl (hT.2.1 ("java/lang/IllegalArgumentException", "java/lang/IllegalArgumentException") (by decide))) hce hcv hcl ?_
  refine lv_astore_n (lv' := [(2, _), (0, _), (1, _)]) X.x X.b dL_addAll_11 rfl hl (by decide) rfl (fun ls hl => ?_)
  refine lv_iconst (v := 1) X.x X.b dL_addAll_12 (by decide) ?_
  exact W.iret X.x X.b X.rtt (fun t ht hW => ⟨⟨1, (σ, ov), rfl, rfl, (show PP D ay (wL ay ad oa (σ, ov)) t from ⟨by rw [ht]; exact hP, KK.warm hW X.kk⟩)⟩, hS.F ht⟩) hS.2.2 dL_addAll_13 X.lk
set_option maxHeartbeats 4000000 in
set_option maxRecDepth 100000 in
theorem e_addAll_1 {l : Launch} (hlt : l.stackTraces = false) {D : va_G} {ay : Nat → ClassId} {ad : Nat → Nat} {oa : Nat} {sd : Nat → Nat} {σ : Mem} {ov : Int64} (hI : adOK ad) (ho : ¬ AC ad oa) (hF : F_X3_addAll σ = some (Sum.inl 1)) : Met l yL_addAll wsL_addAll ({ frames := 7, cells := 1, slots := 6, locals := 149 } : Room) (va_Pc [.ref (ad 0), .ref oa] (fun U => PP D ay (wL ay ad oa (σ, ov)) U ∧ TX (A2 ad oa) sd U)) (va_Qi (pE ((2 : Int32), (σ, ov))) (fun u => PP D ay (wL ay ad oa u)) (A2 ad oa)) 1 6 (A2 ad oa) := by
  refine g_startW (wd := wL ay ad oa) (A := A2 ad oa) (own := RL) (mL := 3) (rt := some .int) (hh := [(0, 8, 11, 13), (0, 8, 14, 15)]) (by decide) rfl rfl (Nat.le_of_ble_eq_true rfl) ?_
  intro p e s m below meth c ls X htab hT hl
  have hl : lv_has ls 3 [(0, .ref (ad 0)), (1, .ref oa)] := hl
  refine g_aload_n X dL_addAll_0 rfl (lv_at hl 1 rfl) ?_
  refine g_iconst (v := 0) X dL_addAll_1 (by decide) ?_
  refine g_aload_n X dL_addAll_2 rfl (lv_at hl 0 rfl) ?_
  refine gf_throw (St := Mem × Int64) (fr := oL ay oa ov) (σ := σ) rfl (fun k q hk => by rw [oL_at hk]; exact ho) X hT (E0 := exE 1) (As := []) (rest := [.int 0, .ref oa]) (t_X3_addAll hlt hI hF) (cwV 0 X.ts gL_addAll_X3_addAll rfl rfl rfl (by decide +kernel) ⟨Nat.le_of_ble_eq_true rfl, Nat.le_of_ble_eq_true rfl⟩) rfl hl.1 rfl (Nat.le_of_ble_eq_true rfl) dL_addAll_3 (Nat.le_of_ble_eq_true rfl) (Nat.le_of_ble_eq_true rfl) (fun ce q9 H1 locs1 hP hS hce hcv hcl => ?_)
  refine vx_catch (name := "java/lang/IllegalStateException") (E := exE 1) X.ow [⟨0, 8, 11, 13⟩] ⟨0, 8, 14, 15⟩ [] (by rw [htab]; rfl) (fun z hz => by
    rcases List.mem_cons.mp hz with rfl | hz
    · exact Or.inr ⟨by decide, "java/lang/IllegalArgumentException", X.ts (.classLink RL 13 "java/lang/IllegalArgumentException") (by decide +kernel), hT.2.2.2.2.2 ("java/lang/IllegalStateException", "java/lang/IllegalArgumentException") (by decide)⟩
    · exact nomatch hz) (by decide) (by decide) (X.ts (.classLink RL 15 "java/lang/IllegalStateException") (by decide +kernel)) (va_Nw.use rfl (hT.2.1 ("java/lang/IllegalStateException", "java/lang/IllegalStateException") (by decide))) hce hcv hcl ?_
  refine lv_astore_n (lv' := [(2, _), (0, _), (1, _)]) X.x X.b dL_addAll_14 rfl hl (by decide) rfl (fun ls hl => ?_)
  refine lv_iconst (v := 2) X.x X.b dL_addAll_15 (by decide) ?_
  exact W.iret X.x X.b X.rtt (fun t ht hW => ⟨⟨2, (σ, ov), rfl, rfl, (show PP D ay (wL ay ad oa (σ, ov)) t from ⟨by rw [ht]; exact hP, KK.warm hW X.kk⟩)⟩, hS.F ht⟩) hS.2.2 dL_addAll_16 X.lk
set_option maxHeartbeats 4000000 in
set_option maxRecDepth 100000 in
theorem e_undo_r {l : Launch} {D : va_G} {ay : Nat → ClassId} {ad : Nat → Nat} {oa : Nat} {sd : Nat → Nat} {σ : Mem} {ov : Int64} {v : Int32 × Mem} (hI : adOK ad) (ho : ¬ AC ad oa) (hF : F_X3_undo σ = some (Sum.inr v)) : Met l yL_undo wsL_undo ({ frames := 7, cells := 0, slots := 0, locals := 146 } : Room) (va_Pc [.ref (ad 0), .ref oa] (fun U => PP D ay (wL ay ad oa (σ, ov)) U ∧ TX (A2 ad oa) sd U)) (va_Qi (pE (0, (v.2, v.1.toInt64))) (fun u => PP D ay (wL ay ad oa u)) (A2 ad oa)) 0 0 (A2 ad oa) := by
  refine g_startW (wd := wL ay ad oa) (A := A2 ad oa) (own := RL) (mL := 3) (rt := some .int) (hh := [(0, 8, 11, 15)]) (by decide) rfl rfl (Nat.le_of_ble_eq_true rfl) ?_
  intro p e s m below meth c ls X htab hT hl
  have hl : lv_has ls 3 [(0, .ref (ad 0)), (1, .ref oa)] := hl
  refine g_aload_n X dL_undo_0 rfl (lv_at hl 1 rfl) ?_
  refine g_iconst (v := 0) X dL_undo_1 (by decide) ?_
  refine g_aload_n X dL_undo_2 rfl (lv_at hl 0 rfl) ?_
  refine k_Vie X (res := (v.1, (v.2, ov))) (As := []) (rest := [.int 0, .ref oa]) (lift_i (post2 := pE (v.1, (v.2, ov))) ho (fun r τ h => by have h : (r, τ) = v := h; subst h; rfl) (c_X3_undo hI hF)) (cwV 0 X.ts gL_undo_X3_undo rfl rfl rfl (by decide +kernel) ⟨Nat.le_of_ble_eq_true rfl, Nat.le_of_ble_eq_true rfl⟩) ⟨0, 3, _, _, wL_obj, rfl, rfl⟩ rfl hl.1 rfl (Nat.le_of_ble_eq_true rfl) dL_undo_3 ?_
  refine g_i2l X dL_undo_6 ?_
  refine g_last X (wL_D hI ho) (v.2, v.1.toInt64) (i := 0) wL_o (by unfold vp_in; decide) wL_set dL_undo_7 ?_
  refine g_goto (tgt := 14) X dL_undo_8 (by decide) ?_
  refine g_iconst (v := 0) X dL_undo_14 (by decide) ?_
  exact g_iret X (pE_mk rfl) dL_undo_15
set_option maxHeartbeats 4000000 in
set_option maxRecDepth 100000 in
theorem e_undo_1 {l : Launch} (hlt : l.stackTraces = false) {D : va_G} {ay : Nat → ClassId} {ad : Nat → Nat} {oa : Nat} {sd : Nat → Nat} {σ : Mem} {ov : Int64} (hI : adOK ad) (ho : ¬ AC ad oa) (hF : F_X3_undo σ = some (Sum.inl 1)) : Met l yL_undo wsL_undo ({ frames := 7, cells := 1, slots := 6, locals := 146 } : Room) (va_Pc [.ref (ad 0), .ref oa] (fun U => PP D ay (wL ay ad oa (σ, ov)) U ∧ TX (A2 ad oa) sd U)) (va_Qi (pE ((1 : Int32), (σ, ov))) (fun u => PP D ay (wL ay ad oa u)) (A2 ad oa)) 1 6 (A2 ad oa) := by
  refine g_startW (wd := wL ay ad oa) (A := A2 ad oa) (own := RL) (mL := 3) (rt := some .int) (hh := [(0, 8, 11, 15)]) (by decide) rfl rfl (Nat.le_of_ble_eq_true rfl) ?_
  intro p e s m below meth c ls X htab hT hl
  have hl : lv_has ls 3 [(0, .ref (ad 0)), (1, .ref oa)] := hl
  refine g_aload_n X dL_undo_0 rfl (lv_at hl 1 rfl) ?_
  refine g_iconst (v := 0) X dL_undo_1 (by decide) ?_
  refine g_aload_n X dL_undo_2 rfl (lv_at hl 0 rfl) ?_
  refine gf_throw (St := Mem × Int64) (fr := oL ay oa ov) (σ := σ) rfl (fun k q hk => by rw [oL_at hk]; exact ho) X hT (E0 := exE 1) (As := []) (rest := [.int 0, .ref oa]) (t_X3_undo hlt hI hF) (cwV 0 X.ts gL_undo_X3_undo rfl rfl rfl (by decide +kernel) ⟨Nat.le_of_ble_eq_true rfl, Nat.le_of_ble_eq_true rfl⟩) rfl hl.1 rfl (Nat.le_of_ble_eq_true rfl) dL_undo_3 (Nat.le_of_ble_eq_true rfl) (Nat.le_of_ble_eq_true rfl) (fun ce q9 H1 locs1 hP hS hce hcv hcl => ?_)
  refine vx_catch (name := "java/lang/IllegalStateException") (E := exE 1) X.ow [] ⟨0, 8, 11, 15⟩ [] (by rw [htab]; rfl) (fun z hz => nomatch hz) (by decide) (by decide) (X.ts (.classLink RL 15 "java/lang/IllegalStateException") (by decide +kernel)) (va_Nw.use rfl (hT.2.1 ("java/lang/IllegalStateException", "java/lang/IllegalStateException") (by decide))) hce hcv hcl ?_
  refine lv_astore_n (lv' := [(2, _), (0, _), (1, _)]) X.x X.b dL_undo_11 rfl hl (by decide) rfl (fun ls hl => ?_)
  refine lv_iconst (v := 1) X.x X.b dL_undo_12 (by decide) ?_
  exact W.iret X.x X.b X.rtt (fun t ht hW => ⟨⟨1, (σ, ov), rfl, rfl, (show PP D ay (wL ay ad oa (σ, ov)) t from ⟨by rw [ht]; exact hP, KK.warm hW X.kk⟩)⟩, hS.F ht⟩) hS.2.2 dL_undo_13 X.lk
set_option maxHeartbeats 4000000 in
set_option maxRecDepth 100000 in
theorem e_mover_r {l : Launch} {D : va_G} {ay : Nat → ClassId} {ad : Nat → Nat} {oa : Nat} {sd : Nat → Nat} {a1 : Int32} {a2 : Int32} {σ : Mem} {ov : Int64} {v : Int32} (hI : adOK ad) (ho : ¬ AC ad oa) (hF : F_X3_mover a1 a2 σ = some (Sum.inr v)) : Met l yL_mover wsL_mover ({ frames := 7, cells := 0, slots := 0, locals := 118 } : Room) (va_Pc [.ref (ad 0), .int a1, .int a2, .ref oa] (fun U => PP D ay (wL ay ad oa (σ, ov)) U ∧ TX (A2 ad oa) sd U)) (va_Qi (pE (0, (σ, v.toInt64))) (fun u => PP D ay (wL ay ad oa u)) (A2 ad oa)) 0 0 (A2 ad oa) := by
  refine g_startW (wd := wL ay ad oa) (A := A2 ad oa) (own := RL) (mL := 5) (rt := some .int) (hh := [(0, 10, 13, 21), (0, 10, 17, 13)]) (by decide) rfl rfl (Nat.le_of_ble_eq_true rfl) ?_
  intro p e s m below meth c ls X htab hT hl
  have hl : lv_has ls 5 [(0, .ref (ad 0)), (1, .int a1), (2, .int a2), (3, .ref oa)] := hl
  refine g_aload_n X dL_mover_0 rfl (lv_at hl 3 rfl) ?_
  refine g_iconst (v := 0) X dL_mover_1 (by decide) ?_
  refine g_aload_n X dL_mover_2 rfl (lv_at hl 0 rfl) ?_
  refine g_iload_n X dL_mover_3 rfl (lv_at hl 1 rfl) ?_
  refine g_iload_n X dL_mover_4 rfl (lv_at hl 2 rfl) ?_
  refine k_Vi X (res := v) (As := [.int a1, .int a2]) (rest := [.int 0, .ref oa]) (lift_i (post2 := pP v (σ, ov)) ho (fun r τ h => ⟨h.1, by rw [h.2]⟩) (c_X3_mover hI hF)) (cwV 2 X.ts gL_mover_X3_mover rfl rfl rfl (by decide +kernel) ⟨Nat.le_of_ble_eq_true rfl, Nat.le_of_ble_eq_true rfl⟩) ⟨0, 3, _, _, wL_obj, rfl, rfl⟩ rfl hl.1 rfl (Nat.le_of_ble_eq_true rfl) dL_mover_5 ?_
  refine g_i2l X dL_mover_8 ?_
  refine g_last X (wL_D hI ho) (σ, v.toInt64) (i := 0) wL_o (by unfold vp_in; decide) wL_set dL_mover_9 ?_
  refine g_goto (tgt := 21) X dL_mover_10 (by decide) ?_
  refine g_iconst (v := 0) X dL_mover_21 (by decide) ?_
  exact g_iret X (pE_mk rfl) dL_mover_22
set_option maxHeartbeats 4000000 in
set_option maxRecDepth 100000 in
theorem e_mover_2 {l : Launch} (hlt : l.stackTraces = false) {D : va_G} {ay : Nat → ClassId} {ad : Nat → Nat} {oa : Nat} {sd : Nat → Nat} {a1 : Int32} {a2 : Int32} {σ : Mem} {ov : Int64} (hI : adOK ad) (ho : ¬ AC ad oa) (hF : F_X3_mover a1 a2 σ = some (Sum.inl 2)) : Met l yL_mover wsL_mover ({ frames := 7, cells := 1, slots := 6, locals := 118 } : Room) (va_Pc [.ref (ad 0), .int a1, .int a2, .ref oa] (fun U => PP D ay (wL ay ad oa (σ, ov)) U ∧ TX (A2 ad oa) sd U)) (va_Qi (pE ((1 : Int32), (σ, ov))) (fun u => PP D ay (wL ay ad oa u)) (A2 ad oa)) 1 6 (A2 ad oa) := by
  refine g_startW (wd := wL ay ad oa) (A := A2 ad oa) (own := RL) (mL := 5) (rt := some .int) (hh := [(0, 10, 13, 21), (0, 10, 17, 13)]) (by decide) rfl rfl (Nat.le_of_ble_eq_true rfl) ?_
  intro p e s m below meth c ls X htab hT hl
  have hl : lv_has ls 5 [(0, .ref (ad 0)), (1, .int a1), (2, .int a2), (3, .ref oa)] := hl
  refine g_aload_n X dL_mover_0 rfl (lv_at hl 3 rfl) ?_
  refine g_iconst (v := 0) X dL_mover_1 (by decide) ?_
  refine g_aload_n X dL_mover_2 rfl (lv_at hl 0 rfl) ?_
  refine g_iload_n X dL_mover_3 rfl (lv_at hl 1 rfl) ?_
  refine g_iload_n X dL_mover_4 rfl (lv_at hl 2 rfl) ?_
  refine gf_throw (St := Mem × Int64) (fr := oL ay oa ov) (σ := σ) rfl (fun k q hk => by rw [oL_at hk]; exact ho) X hT (E0 := exE 2) (As := [.int a1, .int a2]) (rest := [.int 0, .ref oa]) (t_X3_mover hlt hI hF) (cwV 2 X.ts gL_mover_X3_mover rfl rfl rfl (by decide +kernel) ⟨Nat.le_of_ble_eq_true rfl, Nat.le_of_ble_eq_true rfl⟩) rfl hl.1 rfl (Nat.le_of_ble_eq_true rfl) dL_mover_5 (Nat.le_of_ble_eq_true rfl) (Nat.le_of_ble_eq_true rfl) (fun ce q9 H1 locs1 hP hS hce hcv hcl => ?_)
  refine vx_catch (name := "java/lang/IndexOutOfBoundsException") (E := exE 2) X.ow [] ⟨0, 10, 13, 21⟩ [⟨0, 10, 17, 13⟩] (by rw [htab]; rfl) (fun z hz => nomatch hz) (by decide) (by decide) (X.ts (.classLink RL 21 "java/lang/IndexOutOfBoundsException") (by decide +kernel)) (va_Nw.use rfl (hT.2.1 ("java/lang/IndexOutOfBoundsException", "java/lang/IndexOutOfBoundsException") (by decide))) hce hcv hcl ?_
  refine lv_astore (lv' := [(4, _), (0, _), (1, _), (2, _), (3, _)]) X.x X.b dL_mover_13 hl (by decide) rfl (fun ls hl => ?_)
  refine lv_iconst (v := 1) X.x X.b dL_mover_15 (by decide) ?_
  exact W.iret X.x X.b X.rtt (fun t ht hW => ⟨⟨1, (σ, ov), rfl, rfl, (show PP D ay (wL ay ad oa (σ, ov)) t from ⟨by rw [ht]; exact hP, KK.warm hW X.kk⟩)⟩, hS.F ht⟩) hS.2.2 dL_mover_16 X.lk
set_option maxHeartbeats 4000000 in
set_option maxRecDepth 100000 in
theorem e_mover_0 {l : Launch} (hlt : l.stackTraces = false) {D : va_G} {ay : Nat → ClassId} {ad : Nat → Nat} {oa : Nat} {sd : Nat → Nat} {a1 : Int32} {a2 : Int32} {σ : Mem} {ov : Int64} (hI : adOK ad) (ho : ¬ AC ad oa) (hF : F_X3_mover a1 a2 σ = some (Sum.inl 0)) : Met l yL_mover wsL_mover ({ frames := 7, cells := 1, slots := 6, locals := 118 } : Room) (va_Pc [.ref (ad 0), .int a1, .int a2, .ref oa] (fun U => PP D ay (wL ay ad oa (σ, ov)) U ∧ TX (A2 ad oa) sd U)) (va_Qi (pE ((2 : Int32), (σ, ov))) (fun u => PP D ay (wL ay ad oa u)) (A2 ad oa)) 1 6 (A2 ad oa) := by
  refine g_startW (wd := wL ay ad oa) (A := A2 ad oa) (own := RL) (mL := 5) (rt := some .int) (hh := [(0, 10, 13, 21), (0, 10, 17, 13)]) (by decide) rfl rfl (Nat.le_of_ble_eq_true rfl) ?_
  intro p e s m below meth c ls X htab hT hl
  have hl : lv_has ls 5 [(0, .ref (ad 0)), (1, .int a1), (2, .int a2), (3, .ref oa)] := hl
  refine g_aload_n X dL_mover_0 rfl (lv_at hl 3 rfl) ?_
  refine g_iconst (v := 0) X dL_mover_1 (by decide) ?_
  refine g_aload_n X dL_mover_2 rfl (lv_at hl 0 rfl) ?_
  refine g_iload_n X dL_mover_3 rfl (lv_at hl 1 rfl) ?_
  refine g_iload_n X dL_mover_4 rfl (lv_at hl 2 rfl) ?_
  refine gf_throw (St := Mem × Int64) (fr := oL ay oa ov) (σ := σ) rfl (fun k q hk => by rw [oL_at hk]; exact ho) X hT (E0 := exE 0) (As := [.int a1, .int a2]) (rest := [.int 0, .ref oa]) (t_X3_mover hlt hI hF) (cwV 2 X.ts gL_mover_X3_mover rfl rfl rfl (by decide +kernel) ⟨Nat.le_of_ble_eq_true rfl, Nat.le_of_ble_eq_true rfl⟩) rfl hl.1 rfl (Nat.le_of_ble_eq_true rfl) dL_mover_5 (Nat.le_of_ble_eq_true rfl) (Nat.le_of_ble_eq_true rfl) (fun ce q9 H1 locs1 hP hS hce hcv hcl => ?_)
  refine vx_catch (name := "java/lang/IllegalArgumentException") (E := exE 0) X.ow [⟨0, 10, 13, 21⟩] ⟨0, 10, 17, 13⟩ [] (by rw [htab]; rfl) (fun z hz => by
    rcases List.mem_cons.mp hz with rfl | hz
    · exact Or.inr ⟨by decide, "java/lang/IndexOutOfBoundsException", X.ts (.classLink RL 21 "java/lang/IndexOutOfBoundsException") (by decide +kernel), hT.2.2.2.2.2 ("java/lang/IllegalArgumentException", "java/lang/IndexOutOfBoundsException") (by decide)⟩
    · exact nomatch hz) (by decide) (by decide) (X.ts (.classLink RL 13 "java/lang/IllegalArgumentException") (by decide +kernel)) (va_Nw.use rfl (hT.2.1 ("java/lang/IllegalArgumentException", "java/lang/IllegalArgumentException") (by decide))) hce hcv hcl ?_
  refine lv_astore (lv' := [(4, _), (0, _), (1, _), (2, _), (3, _)]) X.x X.b dL_mover_17 hl (by decide) rfl (fun ls hl => ?_)
  refine lv_iconst (v := 2) X.x X.b dL_mover_19 (by decide) ?_
  exact W.iret X.x X.b X.rtt (fun t ht hW => ⟨⟨2, (σ, ov), rfl, rfl, (show PP D ay (wL ay ad oa (σ, ov)) t from ⟨by rw [ht]; exact hP, KK.warm hW X.kk⟩)⟩, hS.F ht⟩) hS.2.2 dL_mover_20 X.lk
set_option maxHeartbeats 4000000 in
set_option maxRecDepth 100000 in
theorem e_contest_r {l : Launch} {D : va_G} {ay : Nat → ClassId} {ad : Nat → Nat} {oa : Nat} {sd : Nat → Nat} {a1 : Int32} {a2 : Int32} {σ : Mem} {ov : Int64} {v : Int32} (hI : adOK ad) (ho : ¬ AC ad oa) (hF : F_X3_contest a1 a2 σ = some (Sum.inr v)) : Met l yL_contest wsL_contest ({ frames := 7, cells := 0, slots := 0, locals := 132 } : Room) (va_Pc [.ref (ad 0), .int a1, .int a2, .ref oa] (fun U => PP D ay (wL ay ad oa (σ, ov)) U ∧ TX (A2 ad oa) sd U)) (va_Qi (pE (0, (σ, v.toInt64))) (fun u => PP D ay (wL ay ad oa u)) (A2 ad oa)) 0 0 (A2 ad oa) := by
  refine g_startW (wd := wL ay ad oa) (A := A2 ad oa) (own := RL) (mL := 5) (rt := some .int) (hh := [(0, 10, 13, 21), (0, 10, 17, 13)]) (by decide) rfl rfl (Nat.le_of_ble_eq_true rfl) ?_
  intro p e s m below meth c ls X htab hT hl
  have hl : lv_has ls 5 [(0, .ref (ad 0)), (1, .int a1), (2, .int a2), (3, .ref oa)] := hl
  refine g_aload_n X dL_contest_0 rfl (lv_at hl 3 rfl) ?_
  refine g_iconst (v := 0) X dL_contest_1 (by decide) ?_
  refine g_aload_n X dL_contest_2 rfl (lv_at hl 0 rfl) ?_
  refine g_iload_n X dL_contest_3 rfl (lv_at hl 1 rfl) ?_
  refine g_iload_n X dL_contest_4 rfl (lv_at hl 2 rfl) ?_
  refine k_Vi X (res := v) (As := [.int a1, .int a2]) (rest := [.int 0, .ref oa]) (lift_i (post2 := pP v (σ, ov)) ho (fun r τ h => ⟨h.1, by rw [h.2]⟩) (c_X3_contest hI hF)) (cwV 2 X.ts gL_contest_X3_contest rfl rfl rfl (by decide +kernel) ⟨Nat.le_of_ble_eq_true rfl, Nat.le_of_ble_eq_true rfl⟩) ⟨0, 3, _, _, wL_obj, rfl, rfl⟩ rfl hl.1 rfl (Nat.le_of_ble_eq_true rfl) dL_contest_5 ?_
  refine g_i2l X dL_contest_8 ?_
  refine g_last X (wL_D hI ho) (σ, v.toInt64) (i := 0) wL_o (by unfold vp_in; decide) wL_set dL_contest_9 ?_
  refine g_goto (tgt := 21) X dL_contest_10 (by decide) ?_
  refine g_iconst (v := 0) X dL_contest_21 (by decide) ?_
  exact g_iret X (pE_mk rfl) dL_contest_22
set_option maxHeartbeats 4000000 in
set_option maxRecDepth 100000 in
theorem e_contest_2 {l : Launch} (hlt : l.stackTraces = false) {D : va_G} {ay : Nat → ClassId} {ad : Nat → Nat} {oa : Nat} {sd : Nat → Nat} {a1 : Int32} {a2 : Int32} {σ : Mem} {ov : Int64} (hI : adOK ad) (ho : ¬ AC ad oa) (hF : F_X3_contest a1 a2 σ = some (Sum.inl 2)) : Met l yL_contest wsL_contest ({ frames := 7, cells := 1, slots := 6, locals := 132 } : Room) (va_Pc [.ref (ad 0), .int a1, .int a2, .ref oa] (fun U => PP D ay (wL ay ad oa (σ, ov)) U ∧ TX (A2 ad oa) sd U)) (va_Qi (pE ((1 : Int32), (σ, ov))) (fun u => PP D ay (wL ay ad oa u)) (A2 ad oa)) 1 6 (A2 ad oa) := by
  refine g_startW (wd := wL ay ad oa) (A := A2 ad oa) (own := RL) (mL := 5) (rt := some .int) (hh := [(0, 10, 13, 21), (0, 10, 17, 13)]) (by decide) rfl rfl (Nat.le_of_ble_eq_true rfl) ?_
  intro p e s m below meth c ls X htab hT hl
  have hl : lv_has ls 5 [(0, .ref (ad 0)), (1, .int a1), (2, .int a2), (3, .ref oa)] := hl
  refine g_aload_n X dL_contest_0 rfl (lv_at hl 3 rfl) ?_
  refine g_iconst (v := 0) X dL_contest_1 (by decide) ?_
  refine g_aload_n X dL_contest_2 rfl (lv_at hl 0 rfl) ?_
  refine g_iload_n X dL_contest_3 rfl (lv_at hl 1 rfl) ?_
  refine g_iload_n X dL_contest_4 rfl (lv_at hl 2 rfl) ?_
  refine gf_throw (St := Mem × Int64) (fr := oL ay oa ov) (σ := σ) rfl (fun k q hk => by rw [oL_at hk]; exact ho) X hT (E0 := exE 2) (As := [.int a1, .int a2]) (rest := [.int 0, .ref oa]) (t_X3_contest hlt hI hF) (cwV 2 X.ts gL_contest_X3_contest rfl rfl rfl (by decide +kernel) ⟨Nat.le_of_ble_eq_true rfl, Nat.le_of_ble_eq_true rfl⟩) rfl hl.1 rfl (Nat.le_of_ble_eq_true rfl) dL_contest_5 (Nat.le_of_ble_eq_true rfl) (Nat.le_of_ble_eq_true rfl) (fun ce q9 H1 locs1 hP hS hce hcv hcl => ?_)
  refine vx_catch (name := "java/lang/IndexOutOfBoundsException") (E := exE 2) X.ow [] ⟨0, 10, 13, 21⟩ [⟨0, 10, 17, 13⟩] (by rw [htab]; rfl) (fun z hz => nomatch hz) (by decide) (by decide) (X.ts (.classLink RL 21 "java/lang/IndexOutOfBoundsException") (by decide +kernel)) (va_Nw.use rfl (hT.2.1 ("java/lang/IndexOutOfBoundsException", "java/lang/IndexOutOfBoundsException") (by decide))) hce hcv hcl ?_
  refine lv_astore (lv' := [(4, _), (0, _), (1, _), (2, _), (3, _)]) X.x X.b dL_contest_13 hl (by decide) rfl (fun ls hl => ?_)
  refine lv_iconst (v := 1) X.x X.b dL_contest_15 (by decide) ?_
  exact W.iret X.x X.b X.rtt (fun t ht hW => ⟨⟨1, (σ, ov), rfl, rfl, (show PP D ay (wL ay ad oa (σ, ov)) t from ⟨by rw [ht]; exact hP, KK.warm hW X.kk⟩)⟩, hS.F ht⟩) hS.2.2 dL_contest_16 X.lk
set_option maxHeartbeats 4000000 in
set_option maxRecDepth 100000 in
theorem e_contest_0 {l : Launch} (hlt : l.stackTraces = false) {D : va_G} {ay : Nat → ClassId} {ad : Nat → Nat} {oa : Nat} {sd : Nat → Nat} {a1 : Int32} {a2 : Int32} {σ : Mem} {ov : Int64} (hI : adOK ad) (ho : ¬ AC ad oa) (hF : F_X3_contest a1 a2 σ = some (Sum.inl 0)) : Met l yL_contest wsL_contest ({ frames := 7, cells := 1, slots := 6, locals := 132 } : Room) (va_Pc [.ref (ad 0), .int a1, .int a2, .ref oa] (fun U => PP D ay (wL ay ad oa (σ, ov)) U ∧ TX (A2 ad oa) sd U)) (va_Qi (pE ((2 : Int32), (σ, ov))) (fun u => PP D ay (wL ay ad oa u)) (A2 ad oa)) 1 6 (A2 ad oa) := by
  refine g_startW (wd := wL ay ad oa) (A := A2 ad oa) (own := RL) (mL := 5) (rt := some .int) (hh := [(0, 10, 13, 21), (0, 10, 17, 13)]) (by decide) rfl rfl (Nat.le_of_ble_eq_true rfl) ?_
  intro p e s m below meth c ls X htab hT hl
  have hl : lv_has ls 5 [(0, .ref (ad 0)), (1, .int a1), (2, .int a2), (3, .ref oa)] := hl
  refine g_aload_n X dL_contest_0 rfl (lv_at hl 3 rfl) ?_
  refine g_iconst (v := 0) X dL_contest_1 (by decide) ?_
  refine g_aload_n X dL_contest_2 rfl (lv_at hl 0 rfl) ?_
  refine g_iload_n X dL_contest_3 rfl (lv_at hl 1 rfl) ?_
  refine g_iload_n X dL_contest_4 rfl (lv_at hl 2 rfl) ?_
  refine gf_throw (St := Mem × Int64) (fr := oL ay oa ov) (σ := σ) rfl (fun k q hk => by rw [oL_at hk]; exact ho) X hT (E0 := exE 0) (As := [.int a1, .int a2]) (rest := [.int 0, .ref oa]) (t_X3_contest hlt hI hF) (cwV 2 X.ts gL_contest_X3_contest rfl rfl rfl (by decide +kernel) ⟨Nat.le_of_ble_eq_true rfl, Nat.le_of_ble_eq_true rfl⟩) rfl hl.1 rfl (Nat.le_of_ble_eq_true rfl) dL_contest_5 (Nat.le_of_ble_eq_true rfl) (Nat.le_of_ble_eq_true rfl) (fun ce q9 H1 locs1 hP hS hce hcv hcl => ?_)
  refine vx_catch (name := "java/lang/IllegalArgumentException") (E := exE 0) X.ow [⟨0, 10, 13, 21⟩] ⟨0, 10, 17, 13⟩ [] (by rw [htab]; rfl) (fun z hz => by
    rcases List.mem_cons.mp hz with rfl | hz
    · exact Or.inr ⟨by decide, "java/lang/IndexOutOfBoundsException", X.ts (.classLink RL 21 "java/lang/IndexOutOfBoundsException") (by decide +kernel), hT.2.2.2.2.2 ("java/lang/IllegalArgumentException", "java/lang/IndexOutOfBoundsException") (by decide)⟩
    · exact nomatch hz) (by decide) (by decide) (X.ts (.classLink RL 13 "java/lang/IllegalArgumentException") (by decide +kernel)) (va_Nw.use rfl (hT.2.1 ("java/lang/IllegalArgumentException", "java/lang/IllegalArgumentException") (by decide))) hce hcv hcl ?_
  refine lv_astore (lv' := [(4, _), (0, _), (1, _), (2, _), (3, _)]) X.x X.b dL_contest_17 hl (by decide) rfl (fun ls hl => ?_)
  refine lv_iconst (v := 2) X.x X.b dL_contest_19 (by decide) ?_
  exact W.iret X.x X.b X.rtt (fun t ht hW => ⟨⟨2, (σ, ov), rfl, rfl, (show PP D ay (wL ay ad oa (σ, ov)) t from ⟨by rw [ht]; exact hP, KK.warm hW X.kk⟩)⟩, hS.F ht⟩) hS.2.2 dL_contest_20 X.lk
set_option maxHeartbeats 4000000 in
set_option maxRecDepth 100000 in
theorem e_nextTurn_r {l : Launch} {D : va_G} {ay : Nat → ClassId} {ad : Nat → Nat} {oa : Nat} {sd : Nat → Nat} {a1 : Int32} {σ : Mem} {ov : Int64} {v : Int32} (hI : adOK ad) (ho : ¬ AC ad oa) (hF : F_X3_nextTurn a1 σ = some (Sum.inr v)) : Met l yL_nextTurn wsL_nextTurn ({ frames := 7, cells := 0, slots := 0, locals := 115 } : Room) (va_Pc [.ref (ad 0), .int a1, .ref oa] (fun U => PP D ay (wL ay ad oa (σ, ov)) U ∧ TX (A2 ad oa) sd U)) (va_Qi (pE (0, (σ, v.toInt64))) (fun u => PP D ay (wL ay ad oa u)) (A2 ad oa)) 0 0 (A2 ad oa) := by
  refine g_startW (wd := wL ay ad oa) (A := A2 ad oa) (own := RL) (mL := 4) (rt := some .int) (hh := [(0, 9, 12, 13)]) (by decide) rfl rfl (Nat.le_of_ble_eq_true rfl) ?_
  intro p e s m below meth c ls X htab hT hl
  have hl : lv_has ls 4 [(0, .ref (ad 0)), (1, .int a1), (2, .ref oa)] := hl
  refine g_aload_n X dL_nextTurn_0 rfl (lv_at hl 2 rfl) ?_
  refine g_iconst (v := 0) X dL_nextTurn_1 (by decide) ?_
  refine g_aload_n X dL_nextTurn_2 rfl (lv_at hl 0 rfl) ?_
  refine g_iload_n X dL_nextTurn_3 rfl (lv_at hl 1 rfl) ?_
  refine k_Vi X (res := v) (As := [.int a1]) (rest := [.int 0, .ref oa]) (lift_i (post2 := pP v (σ, ov)) ho (fun r τ h => ⟨h.1, by rw [h.2]⟩) (c_X3_nextTurn hI hF)) (cwV 1 X.ts gL_nextTurn_X3_nextTurn rfl rfl rfl (by decide +kernel) ⟨Nat.le_of_ble_eq_true rfl, Nat.le_of_ble_eq_true rfl⟩) ⟨0, 3, _, _, wL_obj, rfl, rfl⟩ rfl hl.1 rfl (Nat.le_of_ble_eq_true rfl) dL_nextTurn_4 ?_
  refine g_i2l X dL_nextTurn_7 ?_
  refine g_last X (wL_D hI ho) (σ, v.toInt64) (i := 0) wL_o (by unfold vp_in; decide) wL_set dL_nextTurn_8 ?_
  refine g_goto (tgt := 15) X dL_nextTurn_9 (by decide) ?_
  refine g_iconst (v := 0) X dL_nextTurn_15 (by decide) ?_
  exact g_iret X (pE_mk rfl) dL_nextTurn_16
set_option maxHeartbeats 4000000 in
set_option maxRecDepth 100000 in
theorem e_nextTurn_0 {l : Launch} (hlt : l.stackTraces = false) {D : va_G} {ay : Nat → ClassId} {ad : Nat → Nat} {oa : Nat} {sd : Nat → Nat} {a1 : Int32} {σ : Mem} {ov : Int64} (hI : adOK ad) (ho : ¬ AC ad oa) (hF : F_X3_nextTurn a1 σ = some (Sum.inl 0)) : Met l yL_nextTurn wsL_nextTurn ({ frames := 7, cells := 1, slots := 6, locals := 115 } : Room) (va_Pc [.ref (ad 0), .int a1, .ref oa] (fun U => PP D ay (wL ay ad oa (σ, ov)) U ∧ TX (A2 ad oa) sd U)) (va_Qi (pE ((1 : Int32), (σ, ov))) (fun u => PP D ay (wL ay ad oa u)) (A2 ad oa)) 1 6 (A2 ad oa) := by
  refine g_startW (wd := wL ay ad oa) (A := A2 ad oa) (own := RL) (mL := 4) (rt := some .int) (hh := [(0, 9, 12, 13)]) (by decide) rfl rfl (Nat.le_of_ble_eq_true rfl) ?_
  intro p e s m below meth c ls X htab hT hl
  have hl : lv_has ls 4 [(0, .ref (ad 0)), (1, .int a1), (2, .ref oa)] := hl
  refine g_aload_n X dL_nextTurn_0 rfl (lv_at hl 2 rfl) ?_
  refine g_iconst (v := 0) X dL_nextTurn_1 (by decide) ?_
  refine g_aload_n X dL_nextTurn_2 rfl (lv_at hl 0 rfl) ?_
  refine g_iload_n X dL_nextTurn_3 rfl (lv_at hl 1 rfl) ?_
  refine gf_throw (St := Mem × Int64) (fr := oL ay oa ov) (σ := σ) rfl (fun k q hk => by rw [oL_at hk]; exact ho) X hT (E0 := exE 0) (As := [.int a1]) (rest := [.int 0, .ref oa]) (t_X3_nextTurn hlt hI hF) (cwV 1 X.ts gL_nextTurn_X3_nextTurn rfl rfl rfl (by decide +kernel) ⟨Nat.le_of_ble_eq_true rfl, Nat.le_of_ble_eq_true rfl⟩) rfl hl.1 rfl (Nat.le_of_ble_eq_true rfl) dL_nextTurn_4 (Nat.le_of_ble_eq_true rfl) (Nat.le_of_ble_eq_true rfl) (fun ce q9 H1 locs1 hP hS hce hcv hcl => ?_)
  refine vx_catch (name := "java/lang/IllegalArgumentException") (E := exE 0) X.ow [] ⟨0, 9, 12, 13⟩ [] (by rw [htab]; rfl) (fun z hz => nomatch hz) (by decide) (by decide) (X.ts (.classLink RL 13 "java/lang/IllegalArgumentException") (by decide +kernel)) (va_Nw.use rfl (hT.2.1 ("java/lang/IllegalArgumentException", "java/lang/IllegalArgumentException") (by decide))) hce hcv hcl ?_
  refine lv_astore_n (lv' := [(3, _), (0, _), (1, _), (2, _)]) X.x X.b dL_nextTurn_12 rfl hl (by decide) rfl (fun ls hl => ?_)
  refine lv_iconst (v := 1) X.x X.b dL_nextTurn_13 (by decide) ?_
  exact W.iret X.x X.b X.rtt (fun t ht hW => ⟨⟨1, (σ, ov), rfl, rfl, (show PP D ay (wL ay ad oa (σ, ov)) t from ⟨by rw [ht]; exact hP, KK.warm hW X.kk⟩)⟩, hS.F ht⟩) hS.2.2 dL_nextTurn_14 X.lk
set_option maxHeartbeats 4000000 in
set_option maxRecDepth 100000 in
theorem e_span_r {l : Launch} {D : va_G} {ay : Nat → ClassId} {ad : Nat → Nat} {oa : Nat} {sd : Nat → Nat} {a1 : Int32} {a2 : Int32} {σ : Mem} {ov : Int64} {v : Int32} (hI : adOK ad) (ho : ¬ AC ad oa) (hF : F_X3_span a1 a2 σ = some (Sum.inr v)) : Met l yL_span wsL_span ({ frames := 7, cells := 0, slots := 0, locals := 104 } : Room) (va_Pc [.ref (ad 0), .int a1, .int a2, .ref oa] (fun U => PP D ay (wL ay ad oa (σ, ov)) U ∧ TX (A2 ad oa) sd U)) (va_Qi (pE (0, (σ, v.toInt64))) (fun u => PP D ay (wL ay ad oa u)) (A2 ad oa)) 0 0 (A2 ad oa) := by
  refine g_startW (wd := wL ay ad oa) (A := A2 ad oa) (own := RL) (mL := 5) (rt := some .int) (hh := [(0, 10, 13, 13)]) (by decide) rfl rfl (Nat.le_of_ble_eq_true rfl) ?_
  intro p e s m below meth c ls X htab hT hl
  have hl : lv_has ls 5 [(0, .ref (ad 0)), (1, .int a1), (2, .int a2), (3, .ref oa)] := hl
  refine g_aload_n X dL_span_0 rfl (lv_at hl 3 rfl) ?_
  refine g_iconst (v := 0) X dL_span_1 (by decide) ?_
  refine g_aload_n X dL_span_2 rfl (lv_at hl 0 rfl) ?_
  refine g_iload_n X dL_span_3 rfl (lv_at hl 1 rfl) ?_
  refine g_iload_n X dL_span_4 rfl (lv_at hl 2 rfl) ?_
  refine k_Vi X (res := v) (As := [.int a1, .int a2]) (rest := [.int 0, .ref oa]) (lift_i (post2 := pP v (σ, ov)) ho (fun r τ h => ⟨h.1, by rw [h.2]⟩) (c_X3_span hI hF)) (cwV 2 X.ts gL_span_X3_span rfl rfl rfl (by decide +kernel) ⟨Nat.le_of_ble_eq_true rfl, Nat.le_of_ble_eq_true rfl⟩) ⟨0, 3, _, _, wL_obj, rfl, rfl⟩ rfl hl.1 rfl (Nat.le_of_ble_eq_true rfl) dL_span_5 ?_
  refine g_i2l X dL_span_8 ?_
  refine g_last X (wL_D hI ho) (σ, v.toInt64) (i := 0) wL_o (by unfold vp_in; decide) wL_set dL_span_9 ?_
  refine g_goto (tgt := 17) X dL_span_10 (by decide) ?_
  refine g_iconst (v := 0) X dL_span_17 (by decide) ?_
  exact g_iret X (pE_mk rfl) dL_span_18
set_option maxHeartbeats 4000000 in
set_option maxRecDepth 100000 in
theorem e_span_0 {l : Launch} (hlt : l.stackTraces = false) {D : va_G} {ay : Nat → ClassId} {ad : Nat → Nat} {oa : Nat} {sd : Nat → Nat} {a1 : Int32} {a2 : Int32} {σ : Mem} {ov : Int64} (hI : adOK ad) (ho : ¬ AC ad oa) (hF : F_X3_span a1 a2 σ = some (Sum.inl 0)) : Met l yL_span wsL_span ({ frames := 7, cells := 1, slots := 6, locals := 104 } : Room) (va_Pc [.ref (ad 0), .int a1, .int a2, .ref oa] (fun U => PP D ay (wL ay ad oa (σ, ov)) U ∧ TX (A2 ad oa) sd U)) (va_Qi (pE ((1 : Int32), (σ, ov))) (fun u => PP D ay (wL ay ad oa u)) (A2 ad oa)) 1 6 (A2 ad oa) := by
  refine g_startW (wd := wL ay ad oa) (A := A2 ad oa) (own := RL) (mL := 5) (rt := some .int) (hh := [(0, 10, 13, 13)]) (by decide) rfl rfl (Nat.le_of_ble_eq_true rfl) ?_
  intro p e s m below meth c ls X htab hT hl
  have hl : lv_has ls 5 [(0, .ref (ad 0)), (1, .int a1), (2, .int a2), (3, .ref oa)] := hl
  refine g_aload_n X dL_span_0 rfl (lv_at hl 3 rfl) ?_
  refine g_iconst (v := 0) X dL_span_1 (by decide) ?_
  refine g_aload_n X dL_span_2 rfl (lv_at hl 0 rfl) ?_
  refine g_iload_n X dL_span_3 rfl (lv_at hl 1 rfl) ?_
  refine g_iload_n X dL_span_4 rfl (lv_at hl 2 rfl) ?_
  refine gf_throw (St := Mem × Int64) (fr := oL ay oa ov) (σ := σ) rfl (fun k q hk => by rw [oL_at hk]; exact ho) X hT (E0 := exE 0) (As := [.int a1, .int a2]) (rest := [.int 0, .ref oa]) (t_X3_span hlt hI hF) (cwV 2 X.ts gL_span_X3_span rfl rfl rfl (by decide +kernel) ⟨Nat.le_of_ble_eq_true rfl, Nat.le_of_ble_eq_true rfl⟩) rfl hl.1 rfl (Nat.le_of_ble_eq_true rfl) dL_span_5 (Nat.le_of_ble_eq_true rfl) (Nat.le_of_ble_eq_true rfl) (fun ce q9 H1 locs1 hP hS hce hcv hcl => ?_)
  refine vx_catch (name := "java/lang/IllegalArgumentException") (E := exE 0) X.ow [] ⟨0, 10, 13, 13⟩ [] (by rw [htab]; rfl) (fun z hz => nomatch hz) (by decide) (by decide) (X.ts (.classLink RL 13 "java/lang/IllegalArgumentException") (by decide +kernel)) (va_Nw.use rfl (hT.2.1 ("java/lang/IllegalArgumentException", "java/lang/IllegalArgumentException") (by decide))) hce hcv hcl ?_
  refine lv_astore (lv' := [(4, _), (0, _), (1, _), (2, _), (3, _)]) X.x X.b dL_span_13 hl (by decide) rfl (fun ls hl => ?_)
  refine lv_iconst (v := 1) X.x X.b dL_span_15 (by decide) ?_
  exact W.iret X.x X.b X.rtt (fun t ht hW => ⟨⟨1, (σ, ov), rfl, rfl, (show PP D ay (wL ay ad oa (σ, ov)) t from ⟨by rw [ht]; exact hP, KK.warm hW X.kk⟩)⟩, hS.F ht⟩) hS.2.2 dL_span_16 X.lk
set_option maxHeartbeats 4000000 in
set_option maxRecDepth 100000 in
theorem e_count_r {l : Launch} {D : va_G} {ay : Nat → ClassId} {ad : Nat → Nat} {oa : Nat} {sd : Nat → Nat} {a1 : Int32} {σ : Mem} {ov : Int64} {v : Int32} (hI : adOK ad) (ho : ¬ AC ad oa) (hF : F_X3_count a1 σ = some (Sum.inr v)) : Met l yL_count wsL_count ({ frames := 7, cells := 0, slots := 0, locals := 103 } : Room) (va_Pc [.ref (ad 0), .int a1, .ref oa] (fun U => PP D ay (wL ay ad oa (σ, ov)) U ∧ TX (A2 ad oa) sd U)) (va_Qi (pE (0, (σ, v.toInt64))) (fun u => PP D ay (wL ay ad oa u)) (A2 ad oa)) 0 0 (A2 ad oa) := by
  refine g_startW (wd := wL ay ad oa) (A := A2 ad oa) (own := RL) (mL := 4) (rt := some .int) (hh := [(0, 9, 12, 13)]) (by decide) rfl rfl (Nat.le_of_ble_eq_true rfl) ?_
  intro p e s m below meth c ls X htab hT hl
  have hl : lv_has ls 4 [(0, .ref (ad 0)), (1, .int a1), (2, .ref oa)] := hl
  refine g_aload_n X dL_count_0 rfl (lv_at hl 2 rfl) ?_
  refine g_iconst (v := 0) X dL_count_1 (by decide) ?_
  refine g_aload_n X dL_count_2 rfl (lv_at hl 0 rfl) ?_
  refine g_iload_n X dL_count_3 rfl (lv_at hl 1 rfl) ?_
  refine k_Vi X (res := v) (As := [.int a1]) (rest := [.int 0, .ref oa]) (lift_i (post2 := pP v (σ, ov)) ho (fun r τ h => ⟨h.1, by rw [h.2]⟩) (c_X3_count hI hF)) (cwV 1 X.ts gL_count_X3_count rfl rfl rfl (by decide +kernel) ⟨Nat.le_of_ble_eq_true rfl, Nat.le_of_ble_eq_true rfl⟩) ⟨0, 3, _, _, wL_obj, rfl, rfl⟩ rfl hl.1 rfl (Nat.le_of_ble_eq_true rfl) dL_count_4 ?_
  refine g_i2l X dL_count_7 ?_
  refine g_last X (wL_D hI ho) (σ, v.toInt64) (i := 0) wL_o (by unfold vp_in; decide) wL_set dL_count_8 ?_
  refine g_goto (tgt := 15) X dL_count_9 (by decide) ?_
  refine g_iconst (v := 0) X dL_count_15 (by decide) ?_
  exact g_iret X (pE_mk rfl) dL_count_16
set_option maxHeartbeats 4000000 in
set_option maxRecDepth 100000 in
theorem e_count_0 {l : Launch} (hlt : l.stackTraces = false) {D : va_G} {ay : Nat → ClassId} {ad : Nat → Nat} {oa : Nat} {sd : Nat → Nat} {a1 : Int32} {σ : Mem} {ov : Int64} (hI : adOK ad) (ho : ¬ AC ad oa) (hF : F_X3_count a1 σ = some (Sum.inl 0)) : Met l yL_count wsL_count ({ frames := 7, cells := 1, slots := 6, locals := 103 } : Room) (va_Pc [.ref (ad 0), .int a1, .ref oa] (fun U => PP D ay (wL ay ad oa (σ, ov)) U ∧ TX (A2 ad oa) sd U)) (va_Qi (pE ((1 : Int32), (σ, ov))) (fun u => PP D ay (wL ay ad oa u)) (A2 ad oa)) 1 6 (A2 ad oa) := by
  refine g_startW (wd := wL ay ad oa) (A := A2 ad oa) (own := RL) (mL := 4) (rt := some .int) (hh := [(0, 9, 12, 13)]) (by decide) rfl rfl (Nat.le_of_ble_eq_true rfl) ?_
  intro p e s m below meth c ls X htab hT hl
  have hl : lv_has ls 4 [(0, .ref (ad 0)), (1, .int a1), (2, .ref oa)] := hl
  refine g_aload_n X dL_count_0 rfl (lv_at hl 2 rfl) ?_
  refine g_iconst (v := 0) X dL_count_1 (by decide) ?_
  refine g_aload_n X dL_count_2 rfl (lv_at hl 0 rfl) ?_
  refine g_iload_n X dL_count_3 rfl (lv_at hl 1 rfl) ?_
  refine gf_throw (St := Mem × Int64) (fr := oL ay oa ov) (σ := σ) rfl (fun k q hk => by rw [oL_at hk]; exact ho) X hT (E0 := exE 0) (As := [.int a1]) (rest := [.int 0, .ref oa]) (t_X3_count hlt hI hF) (cwV 1 X.ts gL_count_X3_count rfl rfl rfl (by decide +kernel) ⟨Nat.le_of_ble_eq_true rfl, Nat.le_of_ble_eq_true rfl⟩) rfl hl.1 rfl (Nat.le_of_ble_eq_true rfl) dL_count_4 (Nat.le_of_ble_eq_true rfl) (Nat.le_of_ble_eq_true rfl) (fun ce q9 H1 locs1 hP hS hce hcv hcl => ?_)
  refine vx_catch (name := "java/lang/IllegalArgumentException") (E := exE 0) X.ow [] ⟨0, 9, 12, 13⟩ [] (by rw [htab]; rfl) (fun z hz => nomatch hz) (by decide) (by decide) (X.ts (.classLink RL 13 "java/lang/IllegalArgumentException") (by decide +kernel)) (va_Nw.use rfl (hT.2.1 ("java/lang/IllegalArgumentException", "java/lang/IllegalArgumentException") (by decide))) hce hcv hcl ?_
  refine lv_astore_n (lv' := [(3, _), (0, _), (1, _), (2, _)]) X.x X.b dL_count_12 rfl hl (by decide) rfl (fun ls hl => ?_)
  refine lv_iconst (v := 1) X.x X.b dL_count_13 (by decide) ?_
  exact W.iret X.x X.b X.rtt (fun t ht hW => ⟨⟨1, (σ, ov), rfl, rfl, (show PP D ay (wL ay ad oa (σ, ov)) t from ⟨by rw [ht]; exact hP, KK.warm hW X.kk⟩)⟩, hS.F ht⟩) hS.2.2 dL_count_14 X.lk
set_option maxHeartbeats 4000000 in
set_option maxRecDepth 100000 in
theorem e_setting_r {l : Launch} {D : va_G} {ay : Nat → ClassId} {ad : Nat → Nat} {oa : Nat} {sd : Nat → Nat} {a1 : Int32} {σ : Mem} {ov : Int64} {v : Int32} (hI : adOK ad) (ho : ¬ AC ad oa) (hF : F_X3_setting a1 σ = some (Sum.inr v)) : Met l yL_setting wsL_setting ({ frames := 7, cells := 0, slots := 0, locals := 103 } : Room) (va_Pc [.ref (ad 0), .int a1, .ref oa] (fun U => PP D ay (wL ay ad oa (σ, ov)) U ∧ TX (A2 ad oa) sd U)) (va_Qi (pE (0, (σ, v.toInt64))) (fun u => PP D ay (wL ay ad oa u)) (A2 ad oa)) 0 0 (A2 ad oa) := by
  refine g_startW (wd := wL ay ad oa) (A := A2 ad oa) (own := RL) (mL := 4) (rt := some .int) (hh := [(0, 9, 12, 21)]) (by decide) rfl rfl (Nat.le_of_ble_eq_true rfl) ?_
  intro p e s m below meth c ls X htab hT hl
  have hl : lv_has ls 4 [(0, .ref (ad 0)), (1, .int a1), (2, .ref oa)] := hl
  refine g_aload_n X dL_setting_0 rfl (lv_at hl 2 rfl) ?_
  refine g_iconst (v := 0) X dL_setting_1 (by decide) ?_
  refine g_aload_n X dL_setting_2 rfl (lv_at hl 0 rfl) ?_
  refine g_iload_n X dL_setting_3 rfl (lv_at hl 1 rfl) ?_
  refine k_Vi X (res := v) (As := [.int a1]) (rest := [.int 0, .ref oa]) (lift_i (post2 := pP v (σ, ov)) ho (fun r τ h => ⟨h.1, by rw [h.2]⟩) (c_X3_setting hI hF)) (cwV 1 X.ts gL_setting_X3_setting rfl rfl rfl (by decide +kernel) ⟨Nat.le_of_ble_eq_true rfl, Nat.le_of_ble_eq_true rfl⟩) ⟨0, 3, _, _, wL_obj, rfl, rfl⟩ rfl hl.1 rfl (Nat.le_of_ble_eq_true rfl) dL_setting_4 ?_
  refine g_i2l X dL_setting_7 ?_
  refine g_last X (wL_D hI ho) (σ, v.toInt64) (i := 0) wL_o (by unfold vp_in; decide) wL_set dL_setting_8 ?_
  refine g_goto (tgt := 15) X dL_setting_9 (by decide) ?_
  refine g_iconst (v := 0) X dL_setting_15 (by decide) ?_
  exact g_iret X (pE_mk rfl) dL_setting_16
set_option maxHeartbeats 4000000 in
set_option maxRecDepth 100000 in
theorem e_setting_2 {l : Launch} (hlt : l.stackTraces = false) {D : va_G} {ay : Nat → ClassId} {ad : Nat → Nat} {oa : Nat} {sd : Nat → Nat} {a1 : Int32} {σ : Mem} {ov : Int64} (hI : adOK ad) (ho : ¬ AC ad oa) (hF : F_X3_setting a1 σ = some (Sum.inl 2)) : Met l yL_setting wsL_setting ({ frames := 7, cells := 1, slots := 6, locals := 103 } : Room) (va_Pc [.ref (ad 0), .int a1, .ref oa] (fun U => PP D ay (wL ay ad oa (σ, ov)) U ∧ TX (A2 ad oa) sd U)) (va_Qi (pE ((1 : Int32), (σ, ov))) (fun u => PP D ay (wL ay ad oa u)) (A2 ad oa)) 1 6 (A2 ad oa) := by
  refine g_startW (wd := wL ay ad oa) (A := A2 ad oa) (own := RL) (mL := 4) (rt := some .int) (hh := [(0, 9, 12, 21)]) (by decide) rfl rfl (Nat.le_of_ble_eq_true rfl) ?_
  intro p e s m below meth c ls X htab hT hl
  have hl : lv_has ls 4 [(0, .ref (ad 0)), (1, .int a1), (2, .ref oa)] := hl
  refine g_aload_n X dL_setting_0 rfl (lv_at hl 2 rfl) ?_
  refine g_iconst (v := 0) X dL_setting_1 (by decide) ?_
  refine g_aload_n X dL_setting_2 rfl (lv_at hl 0 rfl) ?_
  refine g_iload_n X dL_setting_3 rfl (lv_at hl 1 rfl) ?_
  refine gf_throw (St := Mem × Int64) (fr := oL ay oa ov) (σ := σ) rfl (fun k q hk => by rw [oL_at hk]; exact ho) X hT (E0 := exE 2) (As := [.int a1]) (rest := [.int 0, .ref oa]) (t_X3_setting hlt hI hF) (cwV 1 X.ts gL_setting_X3_setting rfl rfl rfl (by decide +kernel) ⟨Nat.le_of_ble_eq_true rfl, Nat.le_of_ble_eq_true rfl⟩) rfl hl.1 rfl (Nat.le_of_ble_eq_true rfl) dL_setting_4 (Nat.le_of_ble_eq_true rfl) (Nat.le_of_ble_eq_true rfl) (fun ce q9 H1 locs1 hP hS hce hcv hcl => ?_)
  refine vx_catch (name := "java/lang/IndexOutOfBoundsException") (E := exE 2) X.ow [] ⟨0, 9, 12, 21⟩ [] (by rw [htab]; rfl) (fun z hz => nomatch hz) (by decide) (by decide) (X.ts (.classLink RL 21 "java/lang/IndexOutOfBoundsException") (by decide +kernel)) (va_Nw.use rfl (hT.2.1 ("java/lang/IndexOutOfBoundsException", "java/lang/IndexOutOfBoundsException") (by decide))) hce hcv hcl ?_
  refine lv_astore_n (lv' := [(3, _), (0, _), (1, _), (2, _)]) X.x X.b dL_setting_12 rfl hl (by decide) rfl (fun ls hl => ?_)
  refine lv_iconst (v := 1) X.x X.b dL_setting_13 (by decide) ?_
  exact W.iret X.x X.b X.rtt (fun t ht hW => ⟨⟨1, (σ, ov), rfl, rfl, (show PP D ay (wL ay ad oa (σ, ov)) t from ⟨by rw [ht]; exact hP, KK.warm hW X.kk⟩)⟩, hS.F ht⟩) hS.2.2 dL_setting_14 X.lk
set_option maxHeartbeats 4000000 in
set_option maxRecDepth 100000 in
theorem e_leaderAfter_r {l : Launch} {D : va_G} {ay : Nat → ClassId} {ad : Nat → Nat} {oa : Nat} {sd : Nat → Nat} {a1 : Int32} {σ : Mem} {ov : Int64} {v : Int32} (hI : adOK ad) (ho : ¬ AC ad oa) (hF : F_X3_leaderAfter a1 σ = some (Sum.inr v)) : Met l yL_leaderAfter wsL_leaderAfter ({ frames := 7, cells := 0, slots := 0, locals := 103 } : Room) (va_Pc [.ref (ad 0), .int a1, .ref oa] (fun U => PP D ay (wL ay ad oa (σ, ov)) U ∧ TX (A2 ad oa) sd U)) (va_Qi (pE (0, (σ, v.toInt64))) (fun u => PP D ay (wL ay ad oa u)) (A2 ad oa)) 0 0 (A2 ad oa) := by
  refine g_startW (wd := wL ay ad oa) (A := A2 ad oa) (own := RL) (mL := 4) (rt := some .int) (hh := [(0, 9, 12, 13)]) (by decide) rfl rfl (Nat.le_of_ble_eq_true rfl) ?_
  intro p e s m below meth c ls X htab hT hl
  have hl : lv_has ls 4 [(0, .ref (ad 0)), (1, .int a1), (2, .ref oa)] := hl
  refine g_aload_n X dL_leaderAfter_0 rfl (lv_at hl 2 rfl) ?_
  refine g_iconst (v := 0) X dL_leaderAfter_1 (by decide) ?_
  refine g_aload_n X dL_leaderAfter_2 rfl (lv_at hl 0 rfl) ?_
  refine g_iload_n X dL_leaderAfter_3 rfl (lv_at hl 1 rfl) ?_
  refine k_Vi X (res := v) (As := [.int a1]) (rest := [.int 0, .ref oa]) (lift_i (post2 := pP v (σ, ov)) ho (fun r τ h => ⟨h.1, by rw [h.2]⟩) (c_X3_leaderAfter hI hF)) (cwV 1 X.ts gL_leaderAfter_X3_leaderAfter rfl rfl rfl (by decide +kernel) ⟨Nat.le_of_ble_eq_true rfl, Nat.le_of_ble_eq_true rfl⟩) ⟨0, 3, _, _, wL_obj, rfl, rfl⟩ rfl hl.1 rfl (Nat.le_of_ble_eq_true rfl) dL_leaderAfter_4 ?_
  refine g_i2l X dL_leaderAfter_7 ?_
  refine g_last X (wL_D hI ho) (σ, v.toInt64) (i := 0) wL_o (by unfold vp_in; decide) wL_set dL_leaderAfter_8 ?_
  refine g_goto (tgt := 15) X dL_leaderAfter_9 (by decide) ?_
  refine g_iconst (v := 0) X dL_leaderAfter_15 (by decide) ?_
  exact g_iret X (pE_mk rfl) dL_leaderAfter_16
set_option maxHeartbeats 4000000 in
set_option maxRecDepth 100000 in
theorem e_leaderAfter_0 {l : Launch} (hlt : l.stackTraces = false) {D : va_G} {ay : Nat → ClassId} {ad : Nat → Nat} {oa : Nat} {sd : Nat → Nat} {a1 : Int32} {σ : Mem} {ov : Int64} (hI : adOK ad) (ho : ¬ AC ad oa) (hF : F_X3_leaderAfter a1 σ = some (Sum.inl 0)) : Met l yL_leaderAfter wsL_leaderAfter ({ frames := 7, cells := 1, slots := 6, locals := 103 } : Room) (va_Pc [.ref (ad 0), .int a1, .ref oa] (fun U => PP D ay (wL ay ad oa (σ, ov)) U ∧ TX (A2 ad oa) sd U)) (va_Qi (pE ((1 : Int32), (σ, ov))) (fun u => PP D ay (wL ay ad oa u)) (A2 ad oa)) 1 6 (A2 ad oa) := by
  refine g_startW (wd := wL ay ad oa) (A := A2 ad oa) (own := RL) (mL := 4) (rt := some .int) (hh := [(0, 9, 12, 13)]) (by decide) rfl rfl (Nat.le_of_ble_eq_true rfl) ?_
  intro p e s m below meth c ls X htab hT hl
  have hl : lv_has ls 4 [(0, .ref (ad 0)), (1, .int a1), (2, .ref oa)] := hl
  refine g_aload_n X dL_leaderAfter_0 rfl (lv_at hl 2 rfl) ?_
  refine g_iconst (v := 0) X dL_leaderAfter_1 (by decide) ?_
  refine g_aload_n X dL_leaderAfter_2 rfl (lv_at hl 0 rfl) ?_
  refine g_iload_n X dL_leaderAfter_3 rfl (lv_at hl 1 rfl) ?_
  refine gf_throw (St := Mem × Int64) (fr := oL ay oa ov) (σ := σ) rfl (fun k q hk => by rw [oL_at hk]; exact ho) X hT (E0 := exE 0) (As := [.int a1]) (rest := [.int 0, .ref oa]) (t_X3_leaderAfter hlt hI hF) (cwV 1 X.ts gL_leaderAfter_X3_leaderAfter rfl rfl rfl (by decide +kernel) ⟨Nat.le_of_ble_eq_true rfl, Nat.le_of_ble_eq_true rfl⟩) rfl hl.1 rfl (Nat.le_of_ble_eq_true rfl) dL_leaderAfter_4 (Nat.le_of_ble_eq_true rfl) (Nat.le_of_ble_eq_true rfl) (fun ce q9 H1 locs1 hP hS hce hcv hcl => ?_)
  refine vx_catch (name := "java/lang/IllegalArgumentException") (E := exE 0) X.ow [] ⟨0, 9, 12, 13⟩ [] (by rw [htab]; rfl) (fun z hz => nomatch hz) (by decide) (by decide) (X.ts (.classLink RL 13 "java/lang/IllegalArgumentException") (by decide +kernel)) (va_Nw.use rfl (hT.2.1 ("java/lang/IllegalArgumentException", "java/lang/IllegalArgumentException") (by decide))) hce hcv hcl ?_
  refine lv_astore_n (lv' := [(3, _), (0, _), (1, _), (2, _)]) X.x X.b dL_leaderAfter_12 rfl hl (by decide) rfl (fun ls hl => ?_)
  refine lv_iconst (v := 1) X.x X.b dL_leaderAfter_13 (by decide) ?_
  exact W.iret X.x X.b X.rtt (fun t ht hW => ⟨⟨1, (σ, ov), rfl, rfl, (show PP D ay (wL ay ad oa (σ, ov)) t from ⟨by rw [ht]; exact hP, KK.warm hW X.kk⟩)⟩, hS.F ht⟩) hS.2.2 dL_leaderAfter_14 X.lk
set_option maxHeartbeats 4000000 in
set_option maxRecDepth 100000 in
theorem e_overtakes_r {l : Launch} {D : va_G} {ay : Nat → ClassId} {ad : Nat → Nat} {oa : Nat} {sd : Nat → Nat} {a1 : Int32} {a2 : Int32} {a3 : Int32} {σ : Mem} {ov : Int64} {v : Int32} (hI : adOK ad) (ho : ¬ AC ad oa) (hF : F_X3_overtakes a1 a2 a3 σ = some (Sum.inr v)) : Met l yL_overtakes wsL_overtakes ({ frames := 7, cells := 0, slots := 0, locals := 108 } : Room) (va_Pc [.ref (ad 0), .int a1, .int a2, .int a3, .ref oa] (fun U => PP D ay (wL ay ad oa (σ, ov)) U ∧ TX (A2 ad oa) sd U)) (va_Qi (pE (0, (σ, v.toInt64))) (fun u => PP D ay (wL ay ad oa u)) (A2 ad oa)) 0 0 (A2 ad oa) := by
  refine g_startW (wd := wL ay ad oa) (A := A2 ad oa) (own := RL) (mL := 6) (rt := some .int) (hh := [(0, 12, 15, 21), (0, 12, 19, 13)]) (by decide) rfl rfl (Nat.le_of_ble_eq_true rfl) ?_
  intro p e s m below meth c ls X htab hT hl
  have hl : lv_has ls 6 [(0, .ref (ad 0)), (1, .int a1), (2, .int a2), (3, .int a3), (4, .ref oa)] := hl
  refine g_aload X dL_overtakes_0 (lv_at hl 4 rfl) ?_
  refine g_iconst (v := 0) X dL_overtakes_2 (by decide) ?_
  refine g_aload_n X dL_overtakes_3 rfl (lv_at hl 0 rfl) ?_
  refine g_iload_n X dL_overtakes_4 rfl (lv_at hl 1 rfl) ?_
  refine g_iload_n X dL_overtakes_5 rfl (lv_at hl 2 rfl) ?_
  refine g_iload_n X dL_overtakes_6 rfl (lv_at hl 3 rfl) ?_
  refine k_Vi X (res := v) (As := [.int a1, .int a2, .int a3]) (rest := [.int 0, .ref oa]) (lift_i (post2 := pP v (σ, ov)) ho (fun r τ h => ⟨h.1, by rw [h.2]⟩) (c_X3_overtakes hI hF)) (cwV 3 X.ts gL_overtakes_X3_overtakes rfl rfl rfl (by decide +kernel) ⟨Nat.le_of_ble_eq_true rfl, Nat.le_of_ble_eq_true rfl⟩) ⟨0, 3, _, _, wL_obj, rfl, rfl⟩ rfl hl.1 rfl (Nat.le_of_ble_eq_true rfl) dL_overtakes_7 ?_
  refine g_i2l X dL_overtakes_10 ?_
  refine g_last X (wL_D hI ho) (σ, v.toInt64) (i := 0) wL_o (by unfold vp_in; decide) wL_set dL_overtakes_11 ?_
  refine g_goto (tgt := 23) X dL_overtakes_12 (by decide) ?_
  refine g_iconst (v := 0) X dL_overtakes_23 (by decide) ?_
  exact g_iret X (pE_mk rfl) dL_overtakes_24
set_option maxHeartbeats 4000000 in
set_option maxRecDepth 100000 in
theorem e_overtakes_2 {l : Launch} (hlt : l.stackTraces = false) {D : va_G} {ay : Nat → ClassId} {ad : Nat → Nat} {oa : Nat} {sd : Nat → Nat} {a1 : Int32} {a2 : Int32} {a3 : Int32} {σ : Mem} {ov : Int64} (hI : adOK ad) (ho : ¬ AC ad oa) (hF : F_X3_overtakes a1 a2 a3 σ = some (Sum.inl 2)) : Met l yL_overtakes wsL_overtakes ({ frames := 7, cells := 1, slots := 6, locals := 108 } : Room) (va_Pc [.ref (ad 0), .int a1, .int a2, .int a3, .ref oa] (fun U => PP D ay (wL ay ad oa (σ, ov)) U ∧ TX (A2 ad oa) sd U)) (va_Qi (pE ((1 : Int32), (σ, ov))) (fun u => PP D ay (wL ay ad oa u)) (A2 ad oa)) 1 6 (A2 ad oa) := by
  refine g_startW (wd := wL ay ad oa) (A := A2 ad oa) (own := RL) (mL := 6) (rt := some .int) (hh := [(0, 12, 15, 21), (0, 12, 19, 13)]) (by decide) rfl rfl (Nat.le_of_ble_eq_true rfl) ?_
  intro p e s m below meth c ls X htab hT hl
  have hl : lv_has ls 6 [(0, .ref (ad 0)), (1, .int a1), (2, .int a2), (3, .int a3), (4, .ref oa)] := hl
  refine g_aload X dL_overtakes_0 (lv_at hl 4 rfl) ?_
  refine g_iconst (v := 0) X dL_overtakes_2 (by decide) ?_
  refine g_aload_n X dL_overtakes_3 rfl (lv_at hl 0 rfl) ?_
  refine g_iload_n X dL_overtakes_4 rfl (lv_at hl 1 rfl) ?_
  refine g_iload_n X dL_overtakes_5 rfl (lv_at hl 2 rfl) ?_
  refine g_iload_n X dL_overtakes_6 rfl (lv_at hl 3 rfl) ?_
  refine gf_throw (St := Mem × Int64) (fr := oL ay oa ov) (σ := σ) rfl (fun k q hk => by rw [oL_at hk]; exact ho) X hT (E0 := exE 2) (As := [.int a1, .int a2, .int a3]) (rest := [.int 0, .ref oa]) (t_X3_overtakes hlt hI hF) (cwV 3 X.ts gL_overtakes_X3_overtakes rfl rfl rfl (by decide +kernel) ⟨Nat.le_of_ble_eq_true rfl, Nat.le_of_ble_eq_true rfl⟩) rfl hl.1 rfl (Nat.le_of_ble_eq_true rfl) dL_overtakes_7 (Nat.le_of_ble_eq_true rfl) (Nat.le_of_ble_eq_true rfl) (fun ce q9 H1 locs1 hP hS hce hcv hcl => ?_)
  refine vx_catch (name := "java/lang/IndexOutOfBoundsException") (E := exE 2) X.ow [] ⟨0, 12, 15, 21⟩ [⟨0, 12, 19, 13⟩] (by rw [htab]; rfl) (fun z hz => nomatch hz) (by decide) (by decide) (X.ts (.classLink RL 21 "java/lang/IndexOutOfBoundsException") (by decide +kernel)) (va_Nw.use rfl (hT.2.1 ("java/lang/IndexOutOfBoundsException", "java/lang/IndexOutOfBoundsException") (by decide))) hce hcv hcl ?_
  refine lv_astore (lv' := [(5, _), (0, _), (1, _), (2, _), (3, _), (4, _)]) X.x X.b dL_overtakes_15 hl (by decide) rfl (fun ls hl => ?_)
  refine lv_iconst (v := 1) X.x X.b dL_overtakes_17 (by decide) ?_
  exact W.iret X.x X.b X.rtt (fun t ht hW => ⟨⟨1, (σ, ov), rfl, rfl, (show PP D ay (wL ay ad oa (σ, ov)) t from ⟨by rw [ht]; exact hP, KK.warm hW X.kk⟩)⟩, hS.F ht⟩) hS.2.2 dL_overtakes_18 X.lk
set_option maxHeartbeats 4000000 in
set_option maxRecDepth 100000 in
theorem e_overtakes_0 {l : Launch} (hlt : l.stackTraces = false) {D : va_G} {ay : Nat → ClassId} {ad : Nat → Nat} {oa : Nat} {sd : Nat → Nat} {a1 : Int32} {a2 : Int32} {a3 : Int32} {σ : Mem} {ov : Int64} (hI : adOK ad) (ho : ¬ AC ad oa) (hF : F_X3_overtakes a1 a2 a3 σ = some (Sum.inl 0)) : Met l yL_overtakes wsL_overtakes ({ frames := 7, cells := 1, slots := 6, locals := 108 } : Room) (va_Pc [.ref (ad 0), .int a1, .int a2, .int a3, .ref oa] (fun U => PP D ay (wL ay ad oa (σ, ov)) U ∧ TX (A2 ad oa) sd U)) (va_Qi (pE ((2 : Int32), (σ, ov))) (fun u => PP D ay (wL ay ad oa u)) (A2 ad oa)) 1 6 (A2 ad oa) := by
  refine g_startW (wd := wL ay ad oa) (A := A2 ad oa) (own := RL) (mL := 6) (rt := some .int) (hh := [(0, 12, 15, 21), (0, 12, 19, 13)]) (by decide) rfl rfl (Nat.le_of_ble_eq_true rfl) ?_
  intro p e s m below meth c ls X htab hT hl
  have hl : lv_has ls 6 [(0, .ref (ad 0)), (1, .int a1), (2, .int a2), (3, .int a3), (4, .ref oa)] := hl
  refine g_aload X dL_overtakes_0 (lv_at hl 4 rfl) ?_
  refine g_iconst (v := 0) X dL_overtakes_2 (by decide) ?_
  refine g_aload_n X dL_overtakes_3 rfl (lv_at hl 0 rfl) ?_
  refine g_iload_n X dL_overtakes_4 rfl (lv_at hl 1 rfl) ?_
  refine g_iload_n X dL_overtakes_5 rfl (lv_at hl 2 rfl) ?_
  refine g_iload_n X dL_overtakes_6 rfl (lv_at hl 3 rfl) ?_
  refine gf_throw (St := Mem × Int64) (fr := oL ay oa ov) (σ := σ) rfl (fun k q hk => by rw [oL_at hk]; exact ho) X hT (E0 := exE 0) (As := [.int a1, .int a2, .int a3]) (rest := [.int 0, .ref oa]) (t_X3_overtakes hlt hI hF) (cwV 3 X.ts gL_overtakes_X3_overtakes rfl rfl rfl (by decide +kernel) ⟨Nat.le_of_ble_eq_true rfl, Nat.le_of_ble_eq_true rfl⟩) rfl hl.1 rfl (Nat.le_of_ble_eq_true rfl) dL_overtakes_7 (Nat.le_of_ble_eq_true rfl) (Nat.le_of_ble_eq_true rfl) (fun ce q9 H1 locs1 hP hS hce hcv hcl => ?_)
  refine vx_catch (name := "java/lang/IllegalArgumentException") (E := exE 0) X.ow [⟨0, 12, 15, 21⟩] ⟨0, 12, 19, 13⟩ [] (by rw [htab]; rfl) (fun z hz => by
    rcases List.mem_cons.mp hz with rfl | hz
    · exact Or.inr ⟨by decide, "java/lang/IndexOutOfBoundsException", X.ts (.classLink RL 21 "java/lang/IndexOutOfBoundsException") (by decide +kernel), hT.2.2.2.2.2 ("java/lang/IllegalArgumentException", "java/lang/IndexOutOfBoundsException") (by decide)⟩
    · exact nomatch hz) (by decide) (by decide) (X.ts (.classLink RL 13 "java/lang/IllegalArgumentException") (by decide +kernel)) (va_Nw.use rfl (hT.2.1 ("java/lang/IllegalArgumentException", "java/lang/IllegalArgumentException") (by decide))) hce hcv hcl ?_
  refine lv_astore (lv' := [(5, _), (0, _), (1, _), (2, _), (3, _), (4, _)]) X.x X.b dL_overtakes_19 hl (by decide) rfl (fun ls hl => ?_)
  refine lv_iconst (v := 2) X.x X.b dL_overtakes_21 (by decide) ?_
  exact W.iret X.x X.b X.rtt (fun t ht hW => ⟨⟨2, (σ, ov), rfl, rfl, (show PP D ay (wL ay ad oa (σ, ov)) t from ⟨by rw [ht]; exact hP, KK.warm hW X.kk⟩)⟩, hS.F ht⟩) hS.2.2 dL_overtakes_22 X.lk
set_option maxHeartbeats 4000000 in
set_option maxRecDepth 100000 in
theorem e_turnsIn_r {l : Launch} {D : va_G} {ay : Nat → ClassId} {ad : Nat → Nat} {oa : Nat} {sd : Nat → Nat} {a1 : Int32} {σ : Mem} {ov : Int64} {v : Int32} (hI : adOK ad) (ho : ¬ AC ad oa) (hF : F_X3_turnsIn a1 σ = some (Sum.inr v)) : Met l yL_turnsIn wsL_turnsIn ({ frames := 7, cells := 0, slots := 0, locals := 105 } : Room) (va_Pc [.ref (ad 0), .int a1, .ref oa] (fun U => PP D ay (wL ay ad oa (σ, ov)) U ∧ TX (A2 ad oa) sd U)) (va_Qi (pE (0, (σ, v.toInt64))) (fun u => PP D ay (wL ay ad oa u)) (A2 ad oa)) 0 0 (A2 ad oa) := by
  refine g_startW (wd := wL ay ad oa) (A := A2 ad oa) (own := RL) (mL := 4) (rt := some .int) (hh := [(0, 9, 12, 13)]) (by decide) rfl rfl (Nat.le_of_ble_eq_true rfl) ?_
  intro p e s m below meth c ls X htab hT hl
  have hl : lv_has ls 4 [(0, .ref (ad 0)), (1, .int a1), (2, .ref oa)] := hl
  refine g_aload_n X dL_turnsIn_0 rfl (lv_at hl 2 rfl) ?_
  refine g_iconst (v := 0) X dL_turnsIn_1 (by decide) ?_
  refine g_aload_n X dL_turnsIn_2 rfl (lv_at hl 0 rfl) ?_
  refine g_iload_n X dL_turnsIn_3 rfl (lv_at hl 1 rfl) ?_
  refine k_Vi X (res := v) (As := [.int a1]) (rest := [.int 0, .ref oa]) (lift_i (post2 := pP v (σ, ov)) ho (fun r τ h => ⟨h.1, by rw [h.2]⟩) (c_X3_turnsIn hI hF)) (cwV 1 X.ts gL_turnsIn_X3_turnsIn rfl rfl rfl (by decide +kernel) ⟨Nat.le_of_ble_eq_true rfl, Nat.le_of_ble_eq_true rfl⟩) ⟨0, 3, _, _, wL_obj, rfl, rfl⟩ rfl hl.1 rfl (Nat.le_of_ble_eq_true rfl) dL_turnsIn_4 ?_
  refine g_i2l X dL_turnsIn_7 ?_
  refine g_last X (wL_D hI ho) (σ, v.toInt64) (i := 0) wL_o (by unfold vp_in; decide) wL_set dL_turnsIn_8 ?_
  refine g_goto (tgt := 15) X dL_turnsIn_9 (by decide) ?_
  refine g_iconst (v := 0) X dL_turnsIn_15 (by decide) ?_
  exact g_iret X (pE_mk rfl) dL_turnsIn_16
set_option maxHeartbeats 4000000 in
set_option maxRecDepth 100000 in
theorem e_turnsIn_0 {l : Launch} (hlt : l.stackTraces = false) {D : va_G} {ay : Nat → ClassId} {ad : Nat → Nat} {oa : Nat} {sd : Nat → Nat} {a1 : Int32} {σ : Mem} {ov : Int64} (hI : adOK ad) (ho : ¬ AC ad oa) (hF : F_X3_turnsIn a1 σ = some (Sum.inl 0)) : Met l yL_turnsIn wsL_turnsIn ({ frames := 7, cells := 1, slots := 6, locals := 105 } : Room) (va_Pc [.ref (ad 0), .int a1, .ref oa] (fun U => PP D ay (wL ay ad oa (σ, ov)) U ∧ TX (A2 ad oa) sd U)) (va_Qi (pE ((1 : Int32), (σ, ov))) (fun u => PP D ay (wL ay ad oa u)) (A2 ad oa)) 1 6 (A2 ad oa) := by
  refine g_startW (wd := wL ay ad oa) (A := A2 ad oa) (own := RL) (mL := 4) (rt := some .int) (hh := [(0, 9, 12, 13)]) (by decide) rfl rfl (Nat.le_of_ble_eq_true rfl) ?_
  intro p e s m below meth c ls X htab hT hl
  have hl : lv_has ls 4 [(0, .ref (ad 0)), (1, .int a1), (2, .ref oa)] := hl
  refine g_aload_n X dL_turnsIn_0 rfl (lv_at hl 2 rfl) ?_
  refine g_iconst (v := 0) X dL_turnsIn_1 (by decide) ?_
  refine g_aload_n X dL_turnsIn_2 rfl (lv_at hl 0 rfl) ?_
  refine g_iload_n X dL_turnsIn_3 rfl (lv_at hl 1 rfl) ?_
  refine gf_throw (St := Mem × Int64) (fr := oL ay oa ov) (σ := σ) rfl (fun k q hk => by rw [oL_at hk]; exact ho) X hT (E0 := exE 0) (As := [.int a1]) (rest := [.int 0, .ref oa]) (t_X3_turnsIn hlt hI hF) (cwV 1 X.ts gL_turnsIn_X3_turnsIn rfl rfl rfl (by decide +kernel) ⟨Nat.le_of_ble_eq_true rfl, Nat.le_of_ble_eq_true rfl⟩) rfl hl.1 rfl (Nat.le_of_ble_eq_true rfl) dL_turnsIn_4 (Nat.le_of_ble_eq_true rfl) (Nat.le_of_ble_eq_true rfl) (fun ce q9 H1 locs1 hP hS hce hcv hcl => ?_)
  refine vx_catch (name := "java/lang/IllegalArgumentException") (E := exE 0) X.ow [] ⟨0, 9, 12, 13⟩ [] (by rw [htab]; rfl) (fun z hz => nomatch hz) (by decide) (by decide) (X.ts (.classLink RL 13 "java/lang/IllegalArgumentException") (by decide +kernel)) (va_Nw.use rfl (hT.2.1 ("java/lang/IllegalArgumentException", "java/lang/IllegalArgumentException") (by decide))) hce hcv hcl ?_
  refine lv_astore_n (lv' := [(3, _), (0, _), (1, _), (2, _)]) X.x X.b dL_turnsIn_12 rfl hl (by decide) rfl (fun ls hl => ?_)
  refine lv_iconst (v := 1) X.x X.b dL_turnsIn_13 (by decide) ?_
  exact W.iret X.x X.b X.rtt (fun t ht hW => ⟨⟨1, (σ, ov), rfl, rfl, (show PP D ay (wL ay ad oa (σ, ov)) t from ⟨by rw [ht]; exact hP, KK.warm hW X.kk⟩)⟩, hS.F ht⟩) hS.2.2 dL_turnsIn_14 X.lk
set_option maxHeartbeats 4000000 in
set_option maxRecDepth 100000 in
theorem e_leastSpeed_r {l : Launch} {D : va_G} {ay : Nat → ClassId} {ad : Nat → Nat} {oa : Nat} {sd : Nat → Nat} {a1 : Int32} {a2 : Int32} {σ : Mem} {ov : Int64} {v : Int32} (hI : adOK ad) (ho : ¬ AC ad oa) (hF : F_X3_leastSpeed a1 a2 σ = some (Sum.inr v)) : Met l yL_leastSpeed wsL_leastSpeed ({ frames := 7, cells := 0, slots := 0, locals := 105 } : Room) (va_Pc [.ref (ad 0), .int a1, .int a2, .ref oa] (fun U => PP D ay (wL ay ad oa (σ, ov)) U ∧ TX (A2 ad oa) sd U)) (va_Qi (pE (0, (σ, v.toInt64))) (fun u => PP D ay (wL ay ad oa u)) (A2 ad oa)) 0 0 (A2 ad oa) := by
  refine g_startW (wd := wL ay ad oa) (A := A2 ad oa) (own := RL) (mL := 5) (rt := some .int) (hh := [(0, 10, 13, 21), (0, 10, 17, 13)]) (by decide) rfl rfl (Nat.le_of_ble_eq_true rfl) ?_
  intro p e s m below meth c ls X htab hT hl
  have hl : lv_has ls 5 [(0, .ref (ad 0)), (1, .int a1), (2, .int a2), (3, .ref oa)] := hl
  refine g_aload_n X dL_leastSpeed_0 rfl (lv_at hl 3 rfl) ?_
  refine g_iconst (v := 0) X dL_leastSpeed_1 (by decide) ?_
  refine g_aload_n X dL_leastSpeed_2 rfl (lv_at hl 0 rfl) ?_
  refine g_iload_n X dL_leastSpeed_3 rfl (lv_at hl 1 rfl) ?_
  refine g_iload_n X dL_leastSpeed_4 rfl (lv_at hl 2 rfl) ?_
  refine k_Vi X (res := v) (As := [.int a1, .int a2]) (rest := [.int 0, .ref oa]) (lift_i (post2 := pP v (σ, ov)) ho (fun r τ h => ⟨h.1, by rw [h.2]⟩) (c_X3_leastSpeed hI hF)) (cwV 2 X.ts gL_leastSpeed_X3_leastSpeed rfl rfl rfl (by decide +kernel) ⟨Nat.le_of_ble_eq_true rfl, Nat.le_of_ble_eq_true rfl⟩) ⟨0, 3, _, _, wL_obj, rfl, rfl⟩ rfl hl.1 rfl (Nat.le_of_ble_eq_true rfl) dL_leastSpeed_5 ?_
  refine g_i2l X dL_leastSpeed_8 ?_
  refine g_last X (wL_D hI ho) (σ, v.toInt64) (i := 0) wL_o (by unfold vp_in; decide) wL_set dL_leastSpeed_9 ?_
  refine g_goto (tgt := 21) X dL_leastSpeed_10 (by decide) ?_
  refine g_iconst (v := 0) X dL_leastSpeed_21 (by decide) ?_
  exact g_iret X (pE_mk rfl) dL_leastSpeed_22
set_option maxHeartbeats 4000000 in
set_option maxRecDepth 100000 in
theorem e_leastSpeed_2 {l : Launch} (hlt : l.stackTraces = false) {D : va_G} {ay : Nat → ClassId} {ad : Nat → Nat} {oa : Nat} {sd : Nat → Nat} {a1 : Int32} {a2 : Int32} {σ : Mem} {ov : Int64} (hI : adOK ad) (ho : ¬ AC ad oa) (hF : F_X3_leastSpeed a1 a2 σ = some (Sum.inl 2)) : Met l yL_leastSpeed wsL_leastSpeed ({ frames := 7, cells := 1, slots := 6, locals := 105 } : Room) (va_Pc [.ref (ad 0), .int a1, .int a2, .ref oa] (fun U => PP D ay (wL ay ad oa (σ, ov)) U ∧ TX (A2 ad oa) sd U)) (va_Qi (pE ((1 : Int32), (σ, ov))) (fun u => PP D ay (wL ay ad oa u)) (A2 ad oa)) 1 6 (A2 ad oa) := by
  refine g_startW (wd := wL ay ad oa) (A := A2 ad oa) (own := RL) (mL := 5) (rt := some .int) (hh := [(0, 10, 13, 21), (0, 10, 17, 13)]) (by decide) rfl rfl (Nat.le_of_ble_eq_true rfl) ?_
  intro p e s m below meth c ls X htab hT hl
  have hl : lv_has ls 5 [(0, .ref (ad 0)), (1, .int a1), (2, .int a2), (3, .ref oa)] := hl
  refine g_aload_n X dL_leastSpeed_0 rfl (lv_at hl 3 rfl) ?_
  refine g_iconst (v := 0) X dL_leastSpeed_1 (by decide) ?_
  refine g_aload_n X dL_leastSpeed_2 rfl (lv_at hl 0 rfl) ?_
  refine g_iload_n X dL_leastSpeed_3 rfl (lv_at hl 1 rfl) ?_
  refine g_iload_n X dL_leastSpeed_4 rfl (lv_at hl 2 rfl) ?_
  refine gf_throw (St := Mem × Int64) (fr := oL ay oa ov) (σ := σ) rfl (fun k q hk => by rw [oL_at hk]; exact ho) X hT (E0 := exE 2) (As := [.int a1, .int a2]) (rest := [.int 0, .ref oa]) (t_X3_leastSpeed hlt hI hF) (cwV 2 X.ts gL_leastSpeed_X3_leastSpeed rfl rfl rfl (by decide +kernel) ⟨Nat.le_of_ble_eq_true rfl, Nat.le_of_ble_eq_true rfl⟩) rfl hl.1 rfl (Nat.le_of_ble_eq_true rfl) dL_leastSpeed_5 (Nat.le_of_ble_eq_true rfl) (Nat.le_of_ble_eq_true rfl) (fun ce q9 H1 locs1 hP hS hce hcv hcl => ?_)
  refine vx_catch (name := "java/lang/IndexOutOfBoundsException") (E := exE 2) X.ow [] ⟨0, 10, 13, 21⟩ [⟨0, 10, 17, 13⟩] (by rw [htab]; rfl) (fun z hz => nomatch hz) (by decide) (by decide) (X.ts (.classLink RL 21 "java/lang/IndexOutOfBoundsException") (by decide +kernel)) (va_Nw.use rfl (hT.2.1 ("java/lang/IndexOutOfBoundsException", "java/lang/IndexOutOfBoundsException") (by decide))) hce hcv hcl ?_
  refine lv_astore (lv' := [(4, _), (0, _), (1, _), (2, _), (3, _)]) X.x X.b dL_leastSpeed_13 hl (by decide) rfl (fun ls hl => ?_)
  refine lv_iconst (v := 1) X.x X.b dL_leastSpeed_15 (by decide) ?_
  exact W.iret X.x X.b X.rtt (fun t ht hW => ⟨⟨1, (σ, ov), rfl, rfl, (show PP D ay (wL ay ad oa (σ, ov)) t from ⟨by rw [ht]; exact hP, KK.warm hW X.kk⟩)⟩, hS.F ht⟩) hS.2.2 dL_leastSpeed_16 X.lk
set_option maxHeartbeats 4000000 in
set_option maxRecDepth 100000 in
theorem e_leastSpeed_0 {l : Launch} (hlt : l.stackTraces = false) {D : va_G} {ay : Nat → ClassId} {ad : Nat → Nat} {oa : Nat} {sd : Nat → Nat} {a1 : Int32} {a2 : Int32} {σ : Mem} {ov : Int64} (hI : adOK ad) (ho : ¬ AC ad oa) (hF : F_X3_leastSpeed a1 a2 σ = some (Sum.inl 0)) : Met l yL_leastSpeed wsL_leastSpeed ({ frames := 7, cells := 1, slots := 6, locals := 105 } : Room) (va_Pc [.ref (ad 0), .int a1, .int a2, .ref oa] (fun U => PP D ay (wL ay ad oa (σ, ov)) U ∧ TX (A2 ad oa) sd U)) (va_Qi (pE ((2 : Int32), (σ, ov))) (fun u => PP D ay (wL ay ad oa u)) (A2 ad oa)) 1 6 (A2 ad oa) := by
  refine g_startW (wd := wL ay ad oa) (A := A2 ad oa) (own := RL) (mL := 5) (rt := some .int) (hh := [(0, 10, 13, 21), (0, 10, 17, 13)]) (by decide) rfl rfl (Nat.le_of_ble_eq_true rfl) ?_
  intro p e s m below meth c ls X htab hT hl
  have hl : lv_has ls 5 [(0, .ref (ad 0)), (1, .int a1), (2, .int a2), (3, .ref oa)] := hl
  refine g_aload_n X dL_leastSpeed_0 rfl (lv_at hl 3 rfl) ?_
  refine g_iconst (v := 0) X dL_leastSpeed_1 (by decide) ?_
  refine g_aload_n X dL_leastSpeed_2 rfl (lv_at hl 0 rfl) ?_
  refine g_iload_n X dL_leastSpeed_3 rfl (lv_at hl 1 rfl) ?_
  refine g_iload_n X dL_leastSpeed_4 rfl (lv_at hl 2 rfl) ?_
  refine gf_throw (St := Mem × Int64) (fr := oL ay oa ov) (σ := σ) rfl (fun k q hk => by rw [oL_at hk]; exact ho) X hT (E0 := exE 0) (As := [.int a1, .int a2]) (rest := [.int 0, .ref oa]) (t_X3_leastSpeed hlt hI hF) (cwV 2 X.ts gL_leastSpeed_X3_leastSpeed rfl rfl rfl (by decide +kernel) ⟨Nat.le_of_ble_eq_true rfl, Nat.le_of_ble_eq_true rfl⟩) rfl hl.1 rfl (Nat.le_of_ble_eq_true rfl) dL_leastSpeed_5 (Nat.le_of_ble_eq_true rfl) (Nat.le_of_ble_eq_true rfl) (fun ce q9 H1 locs1 hP hS hce hcv hcl => ?_)
  refine vx_catch (name := "java/lang/IllegalArgumentException") (E := exE 0) X.ow [⟨0, 10, 13, 21⟩] ⟨0, 10, 17, 13⟩ [] (by rw [htab]; rfl) (fun z hz => by
    rcases List.mem_cons.mp hz with rfl | hz
    · exact Or.inr ⟨by decide, "java/lang/IndexOutOfBoundsException", X.ts (.classLink RL 21 "java/lang/IndexOutOfBoundsException") (by decide +kernel), hT.2.2.2.2.2 ("java/lang/IllegalArgumentException", "java/lang/IndexOutOfBoundsException") (by decide)⟩
    · exact nomatch hz) (by decide) (by decide) (X.ts (.classLink RL 13 "java/lang/IllegalArgumentException") (by decide +kernel)) (va_Nw.use rfl (hT.2.1 ("java/lang/IllegalArgumentException", "java/lang/IllegalArgumentException") (by decide))) hce hcv hcl ?_
  refine lv_astore (lv' := [(4, _), (0, _), (1, _), (2, _), (3, _)]) X.x X.b dL_leastSpeed_17 hl (by decide) rfl (fun ls hl => ?_)
  refine lv_iconst (v := 2) X.x X.b dL_leastSpeed_19 (by decide) ?_
  exact W.iret X.x X.b X.rtt (fun t ht hW => ⟨⟨2, (σ, ov), rfl, rfl, (show PP D ay (wL ay ad oa (σ, ov)) t from ⟨by rw [ht]; exact hP, KK.warm hW X.kk⟩)⟩, hS.F ht⟩) hS.2.2 dL_leastSpeed_20 X.lk
set_option maxHeartbeats 4000000 in
set_option maxRecDepth 100000 in
theorem e_leadShare_r {l : Launch} {D : va_G} {ay : Nat → ClassId} {ad : Nat → Nat} {oa : Nat} {sd : Nat → Nat} {a1 : Int32} {σ : Mem} {ov : UInt64} {v : UInt64} (hI : adOK ad) (ho : ¬ AC ad oa) (hF : F_X3_leadShare a1 σ = some (Sum.inr v)) : Met l yL_leadShare wsL_leadShare ({ frames := 7, cells := 0, slots := 0, locals := 108 } : Room) (va_Pc [.ref (ad 0), .int a1, .ref oa] (fun U => PP D ay (wV ay ad oa (σ, ov)) U ∧ TX (A2 ad oa) sd U)) (va_Qi (pE (0, (σ, v))) (fun u => PP D ay (wV ay ad oa u)) (A2 ad oa)) 0 0 (A2 ad oa) := by
  refine g_startW (wd := wV ay ad oa) (A := A2 ad oa) (own := RL) (mL := 4) (rt := some .int) (hh := [(0, 8, 11, 21)]) (by decide) rfl rfl (Nat.le_of_ble_eq_true rfl) ?_
  intro p e s m below meth c ls X htab hT hl
  have hl : lv_has ls 4 [(0, .ref (ad 0)), (1, .int a1), (2, .ref oa)] := hl
  refine g_aload_n X dL_leadShare_0 rfl (lv_at hl 2 rfl) ?_
  refine g_iconst (v := 0) X dL_leadShare_1 (by decide) ?_
  refine g_aload_n X dL_leadShare_2 rfl (lv_at hl 0 rfl) ?_
  refine g_iload_n X dL_leadShare_3 rfl (lv_at hl 1 rfl) ?_
  refine k_Vd X (res := v) (As := [.int a1]) (rest := [.int 0, .ref oa]) (lift_d (post2 := pP v (σ, ov)) ho (fun r τ h => ⟨h.1, by rw [h.2]⟩) (c_X3_leadShare hI hF)) (cwV 1 X.ts gL_leadShare_X3_leadShare rfl rfl rfl (by decide +kernel) ⟨Nat.le_of_ble_eq_true rfl, Nat.le_of_ble_eq_true rfl⟩) ⟨0, 3, _, _, wV_obj, rfl, rfl⟩ rfl hl.1 rfl (Nat.le_of_ble_eq_true rfl) dL_leadShare_4 ?_
  refine g_dast X (wV_D hI ho) (σ, v) (i := 0) wV_o (by unfold vp_in; decide) wV_set dL_leadShare_7 ?_
  refine g_goto (tgt := 14) X dL_leadShare_8 (by decide) ?_
  refine g_iconst (v := 0) X dL_leadShare_14 (by decide) ?_
  exact g_iret X (pE_mk rfl) dL_leadShare_15
set_option maxHeartbeats 4000000 in
set_option maxRecDepth 100000 in
theorem e_leadShare_2 {l : Launch} (hlt : l.stackTraces = false) {D : va_G} {ay : Nat → ClassId} {ad : Nat → Nat} {oa : Nat} {sd : Nat → Nat} {a1 : Int32} {σ : Mem} {ov : UInt64} (hI : adOK ad) (ho : ¬ AC ad oa) (hF : F_X3_leadShare a1 σ = some (Sum.inl 2)) : Met l yL_leadShare wsL_leadShare ({ frames := 7, cells := 1, slots := 6, locals := 108 } : Room) (va_Pc [.ref (ad 0), .int a1, .ref oa] (fun U => PP D ay (wV ay ad oa (σ, ov)) U ∧ TX (A2 ad oa) sd U)) (va_Qi (pE ((1 : Int32), (σ, ov))) (fun u => PP D ay (wV ay ad oa u)) (A2 ad oa)) 1 6 (A2 ad oa) := by
  refine g_startW (wd := wV ay ad oa) (A := A2 ad oa) (own := RL) (mL := 4) (rt := some .int) (hh := [(0, 8, 11, 21)]) (by decide) rfl rfl (Nat.le_of_ble_eq_true rfl) ?_
  intro p e s m below meth c ls X htab hT hl
  have hl : lv_has ls 4 [(0, .ref (ad 0)), (1, .int a1), (2, .ref oa)] := hl
  refine g_aload_n X dL_leadShare_0 rfl (lv_at hl 2 rfl) ?_
  refine g_iconst (v := 0) X dL_leadShare_1 (by decide) ?_
  refine g_aload_n X dL_leadShare_2 rfl (lv_at hl 0 rfl) ?_
  refine g_iload_n X dL_leadShare_3 rfl (lv_at hl 1 rfl) ?_
  refine gf_throw (St := Mem × UInt64) (fr := oD ay oa ov) (σ := σ) rfl (fun k q hk => by rw [oD_at hk]; exact ho) X hT (E0 := exE 2) (As := [.int a1]) (rest := [.int 0, .ref oa]) (t_X3_leadShare hlt hI hF) (cwV 1 X.ts gL_leadShare_X3_leadShare rfl rfl rfl (by decide +kernel) ⟨Nat.le_of_ble_eq_true rfl, Nat.le_of_ble_eq_true rfl⟩) rfl hl.1 rfl (Nat.le_of_ble_eq_true rfl) dL_leadShare_4 (Nat.le_of_ble_eq_true rfl) (Nat.le_of_ble_eq_true rfl) (fun ce q9 H1 locs1 hP hS hce hcv hcl => ?_)
  refine vx_catch (name := "java/lang/IndexOutOfBoundsException") (E := exE 2) X.ow [] ⟨0, 8, 11, 21⟩ [] (by rw [htab]; rfl) (fun z hz => nomatch hz) (by decide) (by decide) (X.ts (.classLink RL 21 "java/lang/IndexOutOfBoundsException") (by decide +kernel)) (va_Nw.use rfl (hT.2.1 ("java/lang/IndexOutOfBoundsException", "java/lang/IndexOutOfBoundsException") (by decide))) hce hcv hcl ?_
  refine lv_astore_n (lv' := [(3, _), (0, _), (1, _), (2, _)]) X.x X.b dL_leadShare_11 rfl hl (by decide) rfl (fun ls hl => ?_)
  refine lv_iconst (v := 1) X.x X.b dL_leadShare_12 (by decide) ?_
  exact W.iret X.x X.b X.rtt (fun t ht hW => ⟨⟨1, (σ, ov), rfl, rfl, (show PP D ay (wV ay ad oa (σ, ov)) t from ⟨by rw [ht]; exact hP, KK.warm hW X.kk⟩)⟩, hS.F ht⟩) hS.2.2 dL_leadShare_13 X.lk
