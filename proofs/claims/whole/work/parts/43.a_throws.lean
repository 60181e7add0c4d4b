theorem tb_63 : ∀ w ∈ (vx_atS RX3 63 "java/lang/IllegalArgumentException" exN).filter (fun w => !goodWord w), w ∈ badW := by decide +kernel
theorem tg_63 : ∀ w ∈ Cond.classLink RX3 59 "java/lang/IllegalArgumentException" :: Cond.initialized "java/lang/IllegalArgumentException" :: vx_atS RX3 63 "java/lang/IllegalArgumentException" exN, vx_ot w = true := by decide +kernel
theorem tb_74 : ∀ w ∈ (vx_atS RX3 74 "java/lang/IllegalStateException" exN).filter (fun w => !goodWord w), w ∈ badW := by decide +kernel
theorem tg_74 : ∀ w ∈ Cond.classLink RX3 70 "java/lang/IllegalStateException" :: Cond.initialized "java/lang/IllegalStateException" :: vx_atS RX3 74 "java/lang/IllegalStateException" exN, vx_ot w = true := by decide +kernel
theorem tb_92 : ∀ w ∈ (vx_atS RX3 92 "java/lang/IndexOutOfBoundsException" exN).filter (fun w => !goodWord w), w ∈ badW := by decide +kernel
theorem tg_92 : ∀ w ∈ Cond.classLink RX3 88 "java/lang/IndexOutOfBoundsException" :: Cond.initialized "java/lang/IndexOutOfBoundsException" :: vx_atS RX3 92 "java/lang/IndexOutOfBoundsException" exN, vx_ot w = true := by decide +kernel
set_option maxHeartbeats 4000000 in
set_option maxRecDepth 100000 in
theorem t_X3_add {l : Launch} (hlt : l.stackTraces = false) {D : va_G} {ay : Nat → ClassId} {ad : Nat → Nat} {a1 : Int32} {a2 : Int32} {σ : Mem} {k : Nat} {sd : Nat → Nat} {Qc : Array Value → State → Outcome → State → Prop} (hI : adOK ad) (hF : F_X3_add a1 a2 σ = some (Sum.inl k)) : vx_Met l yX3_add wsX3_add ({ frames := 6, cells := 1, slots := 6, locals := 125 } : Room) (va_Pc [.ref (ad 0), .int a1, .int a2] (fun U => PP D ay (wC ay ad σ) U ∧ TX (AC ad) sd U)) Qc (vx_X (fun _ : Unit => True) (fun E _ t => E = exE k ∧ va_P D vwCl (wC ay ad σ) t.heap) (AC ad)) 1 6 (AC ad) := by
  refine g_startT (wd := wC ay ad) (A := AC ad) (own := RX3) (mL := 4) (rt := (some .int)) (by decide) rfl rfl (Nat.le_of_ble_eq_true rfl) ?_
  intro p e s m below meth c ls X hno hT hl
  have hl : lv_has ls 4 [(0, .ref (ad 0)), (1, .int a1), (2, .int a2)] := hl
  rw [F_X3_add] at hF
  refine g_iload_n X dX3_add_0 rfl (lv_at hl 1 rfl) ?_
  refine g_sipush (v := -9999) X dX3_add_1 (by decide) ?_
  refine g_sipush (v := 9999) X dX3_add_4 (by decide) ?_
  obtain ⟨r7, hr7, hF⟩ := obind hF
  refine k_Sz X (As := [.int a1, .int (-9999 : Int32), .int (9999 : Int32)]) (rest := []) (c_X3_isWithin hI hr7) (va_cwS 3 X.ts gX3_add_X3_isWithin rfl rfl rfl (by decide +kernel) ⟨Nat.le_of_ble_eq_true rfl, Nat.le_of_ble_eq_true rfl⟩) rfl hl.1 rfl (Nat.le_of_ble_eq_true rfl) dX3_add_7 (fun hz7 => ?_)
  refine g_if_eq (tgt := 20) X dX3_add_10 (by decide) (fun hc10 => ?_) (fun hc10 => ?_)
  · have hF := ite_t hF hc10
    have e9 := inl_inj hF
    subst e9
    exact g_throw X hlt hno hT (text := "value or speed is out of range") (E0 := exE 0) (cls := "java/lang/IllegalArgumentException") rfl hl.1 (by decide +kernel) (by decide) (fun w hw => X.ts w (List.mem_cons_of_mem _ (List.mem_append_left _ (List.mem_append_right _ hw)))) tb_63 tg_63 (X.ts (.classLink RX3 59 "java/lang/IllegalArgumentException") (by decide +kernel)) (X.ts (.initialized "java/lang/IllegalArgumentException") (by decide +kernel)) dX3_add_20 dX3_add_23 dX3_add_24 dX3_add_26 dX3_add_29 (Nat.le_of_ble_eq_true rfl) (Nat.le_of_ble_eq_true rfl) (Nat.le_of_ble_eq_true rfl) (Nat.le_of_ble_eq_true rfl)
  · have hF := ite_f hF hc10
    refine g_iload_n X dX3_add_13 rfl (lv_at hl 2 rfl) ?_
    obtain ⟨r14, hr14, hF⟩ := obind hF
    refine k_Sz X (As := [.int a2]) (rest := []) (c_X3_isSpeed hI hr14) (va_cwS 1 X.ts gX3_add_X3_isSpeed rfl rfl rfl (by decide +kernel) ⟨Nat.le_of_ble_eq_true rfl, Nat.le_of_ble_eq_true rfl⟩) rfl hl.1 rfl (Nat.le_of_ble_eq_true rfl) dX3_add_14 (fun hz14 => ?_)
    refine g_if_ne (tgt := 30) X dX3_add_17 (by decide) (fun hc17 => ?_) (fun hc17 => ?_)
    · have hF := ite_t hF hc17
      refine g_aload_n X dX3_add_30 rfl (lv_at hl 0 rfl) ?_
      refine g_get X 0 (lt_obj) in_X3_add_X3 rfl 0 (by decide) (X.ts (.fieldLink RX3 12 "LeadTimes" "now" "LLeadTimes$State;") (by decide +kernel)) rfl rfl dX3_add_31 ?_
      obtain ⟨r34, hr34, hF⟩ := obind hF
      refine k_Vi X (As := []) (rest := []) (c_X1_freeSlot hI isSt6 hr34) (cwV 0 X.ts gX3_add_X1_freeSlot rfl rfl rfl (by decide +kernel) ⟨Nat.le_of_ble_eq_true rfl, Nat.le_of_ble_eq_true rfl⟩) ⟨6, 1, _, _, st_obj isSt6, rfl, rfl⟩ rfl hl.1 rfl (Nat.le_of_ble_eq_true rfl) dX3_add_34 ?_
      refine g_istore_n (lv' := [(3, _), (0, _), (1, _), (2, _)]) X dX3_add_37 rfl hl (by decide) rfl (fun ls hl => ?_)
      refine g_iload_n X dX3_add_38 rfl (lv_at hl 0 rfl) ?_
      refine g_iconst (v := -1) X dX3_add_39 (by decide) ?_
      refine g_icmp_ne (tgt := 53) X dX3_add_40 (by decide) (fun hc40 => ?_) (fun hc40 => ?_)
      · have hF := ite_t hF hc40
        exact (inR_ne hF).elim
      · have hF := ite_n hF hc40
        have e9 := inl_inj hF
        subst e9
        exact g_throw X hlt hno hT (text := "no slot is free") (E0 := exE 1) (cls := "java/lang/IllegalStateException") rfl hl.1 (by decide +kernel) (by decide) (fun w hw => X.ts w (List.mem_cons_of_mem _ (List.mem_append_right _ hw))) tb_74 tg_74 (X.ts (.classLink RX3 70 "java/lang/IllegalStateException") (by decide +kernel)) (X.ts (.initialized "java/lang/IllegalStateException") (by decide +kernel)) dX3_add_43 dX3_add_46 dX3_add_47 dX3_add_49 dX3_add_52 (Nat.le_of_ble_eq_true rfl) (Nat.le_of_ble_eq_true rfl) (Nat.le_of_ble_eq_true rfl) (Nat.le_of_ble_eq_true rfl)
    · have hF := ite_n hF hc17
      have e9 := inl_inj hF
      subst e9
      exact g_throw X hlt hno hT (text := "value or speed is out of range") (E0 := exE 0) (cls := "java/lang/IllegalArgumentException") rfl hl.1 (by decide +kernel) (by decide) (fun w hw => X.ts w (List.mem_cons_of_mem _ (List.mem_append_left _ (List.mem_append_right _ hw)))) tb_63 tg_63 (X.ts (.classLink RX3 59 "java/lang/IllegalArgumentException") (by decide +kernel)) (X.ts (.initialized "java/lang/IllegalArgumentException") (by decide +kernel)) dX3_add_20 dX3_add_23 dX3_add_24 dX3_add_26 dX3_add_29 (Nat.le_of_ble_eq_true rfl) (Nat.le_of_ble_eq_true rfl) (Nat.le_of_ble_eq_true rfl) (Nat.le_of_ble_eq_true rfl)
set_option maxHeartbeats 4000000 in
set_option maxRecDepth 100000 in
theorem t_X3_remove {l : Launch} (hlt : l.stackTraces = false) {D : va_G} {ay : Nat → ClassId} {ad : Nat → Nat} {a1 : Int32} {σ : Mem} {k : Nat} {sd : Nat → Nat} {Qc : Array Value → State → Outcome → State → Prop} (hI : adOK ad) (hF : F_X3_remove a1 σ = some (Sum.inl k)) : vx_Met l yX3_remove wsX3_remove ({ frames := 6, cells := 1, slots := 6, locals := 125 } : Room) (va_Pc [.ref (ad 0), .int a1] (fun U => PP D ay (wC ay ad σ) U ∧ TX (AC ad) sd U)) Qc (vx_X (fun _ : Unit => True) (fun E _ t => E = exE k ∧ va_P D vwCl (wC ay ad σ) t.heap) (AC ad)) 1 6 (AC ad) := by
  refine g_startT (wd := wC ay ad) (A := AC ad) (own := RX3) (mL := 3) (rt := (some .int)) (by decide) rfl rfl (Nat.le_of_ble_eq_true rfl) ?_
  intro p e s m below meth c ls X hno hT hl
  have hl : lv_has ls 3 [(0, .ref (ad 0)), (1, .int a1)] := hl
  rw [F_X3_remove] at hF
  refine g_aload_n X dX3_remove_0 rfl (lv_at hl 0 rfl) ?_
  refine g_get X 0 (lt_obj) in_X3_remove_X3 rfl 0 (by decide) (X.ts (.fieldLink RX3 12 "LeadTimes" "now" "LLeadTimes$State;") (by decide +kernel)) rfl rfl dX3_remove_1 ?_
  refine g_iload_n X dX3_remove_4 rfl (lv_at hl 1 rfl) ?_
  obtain ⟨r5, hr5, hF⟩ := obind hF
  refine k_Vz X (As := [.int a1]) (rest := []) (c_X1_has hI isSt6 hr5) (cwV 1 X.ts gX3_remove_X1_has rfl rfl rfl (by decide +kernel) ⟨Nat.le_of_ble_eq_true rfl, Nat.le_of_ble_eq_true rfl⟩) ⟨6, 1, _, _, st_obj isSt6, rfl, rfl⟩ rfl hl.1 rfl (Nat.le_of_ble_eq_true rfl) dX3_remove_5 (fun hz5 => ?_)
  refine g_if_ne (tgt := 21) X dX3_remove_8 (by decide) (fun hc8 => ?_) (fun hc8 => ?_)
  · have hF := ite_t hF hc8
    exact (inR_ne hF).elim
  · have hF := ite_n hF hc8
    have e9 := inl_inj hF
    subst e9
    exact g_throw X hlt hno hT (text := "no mover on this slot") (E0 := exE 2) (cls := "java/lang/IndexOutOfBoundsException") rfl hl.1 (by decide +kernel) (by decide) (fun w hw => X.ts w (List.mem_cons_of_mem _ (List.mem_append_right _ hw))) tb_92 tg_92 (X.ts (.classLink RX3 88 "java/lang/IndexOutOfBoundsException") (by decide +kernel)) (X.ts (.initialized "java/lang/IndexOutOfBoundsException") (by decide +kernel)) dX3_remove_11 dX3_remove_14 dX3_remove_15 dX3_remove_17 dX3_remove_20 (Nat.le_of_ble_eq_true rfl) (Nat.le_of_ble_eq_true rfl) (Nat.le_of_ble_eq_true rfl) (Nat.le_of_ble_eq_true rfl)
set_option maxHeartbeats 4000000 in
set_option maxRecDepth 100000 in
theorem t_X3_speed {l : Launch} (hlt : l.stackTraces = false) {D : va_G} {ay : Nat → ClassId} {ad : Nat → Nat} {a1 : Int32} {a2 : Int32} {σ : Mem} {k : Nat} {sd : Nat → Nat} {Qc : Array Value → State → Outcome → State → Prop} (hI : adOK ad) (hF : F_X3_speed a1 a2 σ = some (Sum.inl k)) : vx_Met l yX3_speed wsX3_speed ({ frames := 6, cells := 1, slots := 6, locals := 125 } : Room) (va_Pc [.ref (ad 0), .int a1, .int a2] (fun U => PP D ay (wC ay ad σ) U ∧ TX (AC ad) sd U)) Qc (vx_X (fun _ : Unit => True) (fun E _ t => E = exE k ∧ va_P D vwCl (wC ay ad σ) t.heap) (AC ad)) 1 6 (AC ad) := by
  refine g_startT (wd := wC ay ad) (A := AC ad) (own := RX3) (mL := 4) (rt := (some .int)) (by decide) rfl rfl (Nat.le_of_ble_eq_true rfl) ?_
  intro p e s m below meth c ls X hno hT hl
  have hl : lv_has ls 4 [(0, .ref (ad 0)), (1, .int a1), (2, .int a2)] := hl
  rw [F_X3_speed] at hF
  refine g_aload_n X dX3_speed_0 rfl (lv_at hl 0 rfl) ?_
  refine g_get X 0 (lt_obj) in_X3_speed_X3 rfl 0 (by decide) (X.ts (.fieldLink RX3 12 "LeadTimes" "now" "LLeadTimes$State;") (by decide +kernel)) rfl rfl dX3_speed_1 ?_
  refine g_iload_n X dX3_speed_4 rfl (lv_at hl 1 rfl) ?_
  obtain ⟨r5, hr5, hF⟩ := obind hF
  refine k_Vz X (As := [.int a1]) (rest := []) (c_X1_has hI isSt6 hr5) (cwV 1 X.ts gX3_speed_X1_has rfl rfl rfl (by decide +kernel) ⟨Nat.le_of_ble_eq_true rfl, Nat.le_of_ble_eq_true rfl⟩) ⟨6, 1, _, _, st_obj isSt6, rfl, rfl⟩ rfl hl.1 rfl (Nat.le_of_ble_eq_true rfl) dX3_speed_5 (fun hz5 => ?_)
  refine g_if_ne (tgt := 21) X dX3_speed_8 (by decide) (fun hc8 => ?_) (fun hc8 => ?_)
  · have hF := ite_t hF hc8
    refine g_iload_n X dX3_speed_21 rfl (lv_at hl 2 rfl) ?_
    obtain ⟨r22, hr22, hF⟩ := obind hF
    refine k_Sz X (As := [.int a2]) (rest := []) (c_X3_isSpeed hI hr22) (va_cwS 1 X.ts gX3_speed_X3_isSpeed rfl rfl rfl (by decide +kernel) ⟨Nat.le_of_ble_eq_true rfl, Nat.le_of_ble_eq_true rfl⟩) rfl hl.1 rfl (Nat.le_of_ble_eq_true rfl) dX3_speed_22 (fun hz22 => ?_)
    refine g_if_ne (tgt := 38) X dX3_speed_25 (by decide) (fun hc25 => ?_) (fun hc25 => ?_)
    · have hF := ite_t hF hc25
      exact (inR_ne hF).elim
    · have hF := ite_n hF hc25
      have e9 := inl_inj hF
      subst e9
      exact g_throw X hlt hno hT (text := "speed is out of range") (E0 := exE 0) (cls := "java/lang/IllegalArgumentException") rfl hl.1 (by decide +kernel) (by decide) (fun w hw => X.ts w (List.mem_cons_of_mem _ (List.mem_append_right _ hw))) tb_63 tg_63 (X.ts (.classLink RX3 59 "java/lang/IllegalArgumentException") (by decide +kernel)) (X.ts (.initialized "java/lang/IllegalArgumentException") (by decide +kernel)) dX3_speed_28 dX3_speed_31 dX3_speed_32 dX3_speed_34 dX3_speed_37 (Nat.le_of_ble_eq_true rfl) (Nat.le_of_ble_eq_true rfl) (Nat.le_of_ble_eq_true rfl) (Nat.le_of_ble_eq_true rfl)
  · have hF := ite_n hF hc8
    have e9 := inl_inj hF
    subst e9
    exact g_throw X hlt hno hT (text := "no mover on this slot") (E0 := exE 2) (cls := "java/lang/IndexOutOfBoundsException") rfl hl.1 (by decide +kernel) (by decide) (fun w hw => X.ts w (List.mem_cons_of_mem _ (List.mem_append_left _ (List.mem_append_right _ hw)))) tb_92 tg_92 (X.ts (.classLink RX3 88 "java/lang/IndexOutOfBoundsException") (by decide +kernel)) (X.ts (.initialized "java/lang/IndexOutOfBoundsException") (by decide +kernel)) dX3_speed_11 dX3_speed_14 dX3_speed_15 dX3_speed_17 dX3_speed_20 (Nat.le_of_ble_eq_true rfl) (Nat.le_of_ble_eq_true rfl) (Nat.le_of_ble_eq_true rfl) (Nat.le_of_ble_eq_true rfl)
set_option maxHeartbeats 4000000 in
set_option maxRecDepth 100000 in
theorem t_X3_jump {l : Launch} (hlt : l.stackTraces = false) {D : va_G} {ay : Nat → ClassId} {ad : Nat → Nat} {a1 : Int32} {a2 : Int32} {σ : Mem} {k : Nat} {sd : Nat → Nat} {Qc : Array Value → State → Outcome → State → Prop} (hI : adOK ad) (hF : F_X3_jump a1 a2 σ = some (Sum.inl k)) : vx_Met l yX3_jump wsX3_jump ({ frames := 6, cells := 1, slots := 6, locals := 125 } : Room) (va_Pc [.ref (ad 0), .int a1, .int a2] (fun U => PP D ay (wC ay ad σ) U ∧ TX (AC ad) sd U)) Qc (vx_X (fun _ : Unit => True) (fun E _ t => E = exE k ∧ va_P D vwCl (wC ay ad σ) t.heap) (AC ad)) 1 6 (AC ad) := by
  refine g_startT (wd := wC ay ad) (A := AC ad) (own := RX3) (mL := 4) (rt := (some .int)) (by decide) rfl rfl (Nat.le_of_ble_eq_true rfl) ?_
  intro p e s m below meth c ls X hno hT hl
  have hl : lv_has ls 4 [(0, .ref (ad 0)), (1, .int a1), (2, .int a2)] := hl
  rw [F_X3_jump] at hF
  refine g_aload_n X dX3_jump_0 rfl (lv_at hl 0 rfl) ?_
  refine g_get X 0 (lt_obj) in_X3_jump_X3 rfl 0 (by decide) (X.ts (.fieldLink RX3 12 "LeadTimes" "now" "LLeadTimes$State;") (by decide +kernel)) rfl rfl dX3_jump_1 ?_
  refine g_iload_n X dX3_jump_4 rfl (lv_at hl 1 rfl) ?_
  obtain ⟨r5, hr5, hF⟩ := obind hF
  refine k_Vz X (As := [.int a1]) (rest := []) (c_X1_has hI isSt6 hr5) (cwV 1 X.ts gX3_jump_X1_has rfl rfl rfl (by decide +kernel) ⟨Nat.le_of_ble_eq_true rfl, Nat.le_of_ble_eq_true rfl⟩) ⟨6, 1, _, _, st_obj isSt6, rfl, rfl⟩ rfl hl.1 rfl (Nat.le_of_ble_eq_true rfl) dX3_jump_5 (fun hz5 => ?_)
  refine g_if_ne (tgt := 21) X dX3_jump_8 (by decide) (fun hc8 => ?_) (fun hc8 => ?_)
  · have hF := ite_t hF hc8
    refine g_iload_n X dX3_jump_21 rfl (lv_at hl 2 rfl) ?_
    refine g_sipush (v := -9999) X dX3_jump_22 (by decide) ?_
    refine g_sipush (v := 9999) X dX3_jump_25 (by decide) ?_
    obtain ⟨r28, hr28, hF⟩ := obind hF
    refine k_Sz X (As := [.int a2, .int (-9999 : Int32), .int (9999 : Int32)]) (rest := []) (c_X3_isWithin hI hr28) (va_cwS 3 X.ts gX3_jump_X3_isWithin rfl rfl rfl (by decide +kernel) ⟨Nat.le_of_ble_eq_true rfl, Nat.le_of_ble_eq_true rfl⟩) rfl hl.1 rfl (Nat.le_of_ble_eq_true rfl) dX3_jump_28 (fun hz28 => ?_)
    refine g_if_ne (tgt := 44) X dX3_jump_31 (by decide) (fun hc31 => ?_) (fun hc31 => ?_)
    · have hF := ite_t hF hc31
      refine g_aload_n X dX3_jump_44 rfl (lv_at hl 0 rfl) ?_
      refine g_get X 0 (lt_obj) in_X3_jump_X3 rfl 0 (by decide) (X.ts (.fieldLink RX3 12 "LeadTimes" "now" "LLeadTimes$State;") (by decide +kernel)) rfl rfl dX3_jump_45 ?_
      refine g_iload_n X dX3_jump_48 rfl (lv_at hl 1 rfl) ?_
      obtain ⟨r49, hr49, hF⟩ := obind hF
      refine k_Vi X (As := [.int a1]) (rest := []) (c_X1_valueOf hI isSt6 hr49) (cwV 1 X.ts gX3_jump_X1_valueOf rfl rfl rfl (by decide +kernel) ⟨Nat.le_of_ble_eq_true rfl, Nat.le_of_ble_eq_true rfl⟩) ⟨6, 1, _, _, st_obj isSt6, rfl, rfl⟩ rfl hl.1 rfl (Nat.le_of_ble_eq_true rfl) dX3_jump_49 ?_
      refine g_iload_n X dX3_jump_52 rfl (lv_at hl 2 rfl) ?_
      refine g_iadd X dX3_jump_53 ?_
      refine g_istore_n (lv' := [(3, _), (0, _), (1, _), (2, _)]) X dX3_jump_54 rfl hl (by decide) rfl (fun ls hl => ?_)
      refine g_iload_n X dX3_jump_55 rfl (lv_at hl 0 rfl) ?_
      refine g_ldc X dX3_jump_56 (X.ts (.constant RX3 111 (-1000000)) (by decide +kernel)) ?_
      refine g_ldc X dX3_jump_58 (X.ts (.constant RX3 112 (1000000)) (by decide +kernel)) ?_
      obtain ⟨r60, hr60, hF⟩ := obind hF
      refine k_Sz X (As := [.int (r49 + a2), .int (-1000000 : Int32), .int (1000000 : Int32)]) (rest := []) (c_X3_isWithin hI hr60) (va_cwS 3 X.ts gX3_jump_X3_isWithin rfl rfl rfl (by decide +kernel) ⟨Nat.le_of_ble_eq_true rfl, Nat.le_of_ble_eq_true rfl⟩) rfl hl.1 rfl (Nat.le_of_ble_eq_true rfl) dX3_jump_60 (fun hz60 => ?_)
      refine g_if_ne (tgt := 76) X dX3_jump_63 (by decide) (fun hc63 => ?_) (fun hc63 => ?_)
      · have hF := ite_t hF hc63
        exact (inR_ne hF).elim
      · have hF := ite_n hF hc63
        have e9 := inl_inj hF
        subst e9
        exact g_throw X hlt hno hT (text := "the value would be out of range") (E0 := exE 1) (cls := "java/lang/IllegalStateException") rfl hl.1 (by decide +kernel) (by decide) (fun w hw => X.ts w (List.mem_cons_of_mem _ (List.mem_append_right _ hw))) tb_74 tg_74 (X.ts (.classLink RX3 70 "java/lang/IllegalStateException") (by decide +kernel)) (X.ts (.initialized "java/lang/IllegalStateException") (by decide +kernel)) dX3_jump_66 dX3_jump_69 dX3_jump_70 dX3_jump_72 dX3_jump_75 (Nat.le_of_ble_eq_true rfl) (Nat.le_of_ble_eq_true rfl) (Nat.le_of_ble_eq_true rfl) (Nat.le_of_ble_eq_true rfl)
    · have hF := ite_n hF hc31
      have e9 := inl_inj hF
      subst e9
      exact g_throw X hlt hno hT (text := "by is out of range") (E0 := exE 0) (cls := "java/lang/IllegalArgumentException") rfl hl.1 (by decide +kernel) (by decide) (fun w hw => X.ts w (List.mem_cons_of_mem _ (List.mem_append_left _ (List.mem_append_right _ hw)))) tb_63 tg_63 (X.ts (.classLink RX3 59 "java/lang/IllegalArgumentException") (by decide +kernel)) (X.ts (.initialized "java/lang/IllegalArgumentException") (by decide +kernel)) dX3_jump_34 dX3_jump_37 dX3_jump_38 dX3_jump_40 dX3_jump_43 (Nat.le_of_ble_eq_true rfl) (Nat.le_of_ble_eq_true rfl) (Nat.le_of_ble_eq_true rfl) (Nat.le_of_ble_eq_true rfl)
  · have hF := ite_n hF hc8
    have e9 := inl_inj hF
    subst e9
    exact g_throw X hlt hno hT (text := "no mover on this slot") (E0 := exE 2) (cls := "java/lang/IndexOutOfBoundsException") rfl hl.1 (by decide +kernel) (by decide) (fun w hw => X.ts w (List.mem_cons_of_mem _ (List.mem_append_left _ (List.mem_append_left _ (List.mem_append_right _ hw))))) tb_92 tg_92 (X.ts (.classLink RX3 88 "java/lang/IndexOutOfBoundsException") (by decide +kernel)) (X.ts (.initialized "java/lang/IndexOutOfBoundsException") (by decide +kernel)) dX3_jump_11 dX3_jump_14 dX3_jump_15 dX3_jump_17 dX3_jump_20 (Nat.le_of_ble_eq_true rfl) (Nat.le_of_ble_eq_true rfl) (Nat.le_of_ble_eq_true rfl) (Nat.le_of_ble_eq_true rfl)
set_option maxHeartbeats 4000000 in
set_option maxRecDepth 100000 in
theorem t_X3_swap {l : Launch} (hlt : l.stackTraces = false) {D : va_G} {ay : Nat → ClassId} {ad : Nat → Nat} {a1 : Int32} {a2 : Int32} {σ : Mem} {k : Nat} {sd : Nat → Nat} {Qc : Array Value → State → Outcome → State → Prop} (hI : adOK ad) (hF : F_X3_swap a1 a2 σ = some (Sum.inl k)) : vx_Met l yX3_swap wsX3_swap ({ frames := 6, cells := 1, slots := 6, locals := 125 } : Room) (va_Pc [.ref (ad 0), .int a1, .int a2] (fun U => PP D ay (wC ay ad σ) U ∧ TX (AC ad) sd U)) Qc (vx_X (fun _ : Unit => True) (fun E _ t => E = exE k ∧ va_P D vwCl (wC ay ad σ) t.heap) (AC ad)) 1 6 (AC ad) := by
  refine g_startT (wd := wC ay ad) (A := AC ad) (own := RX3) (mL := 7) (rt := (some .int)) (by decide) rfl rfl (Nat.le_of_ble_eq_true rfl) ?_
  intro p e s m below meth c ls X hno hT hl
  have hl : lv_has ls 7 [(0, .ref (ad 0)), (1, .int a1), (2, .int a2)] := hl
  rw [F_X3_swap] at hF
  refine g_iload_n X dX3_swap_0 rfl (lv_at hl 1 rfl) ?_
  obtain ⟨r1, hr1, hF⟩ := obind hF
  refine k_Sz X (As := [.int a1]) (rest := []) (c_X3_isSlot hI hr1) (va_cwS 1 X.ts gX3_swap_X3_isSlot rfl rfl rfl (by decide +kernel) ⟨Nat.le_of_ble_eq_true rfl, Nat.le_of_ble_eq_true rfl⟩) rfl hl.1 rfl (Nat.le_of_ble_eq_true rfl) dX3_swap_1 (fun hz1 => ?_)
  refine g_if_eq (tgt := 14) X dX3_swap_4 (by decide) (fun hc4 => ?_) (fun hc4 => ?_)
  · have hF := ite_t hF hc4
    have e9 := inl_inj hF
    subst e9
    exact g_throw X hlt hno hT (text := "no such slot") (E0 := exE 2) (cls := "java/lang/IndexOutOfBoundsException") rfl hl.1 (by decide +kernel) (by decide) (fun w hw => X.ts w (List.mem_cons_of_mem _ (List.mem_append_right _ hw))) tb_92 tg_92 (X.ts (.classLink RX3 88 "java/lang/IndexOutOfBoundsException") (by decide +kernel)) (X.ts (.initialized "java/lang/IndexOutOfBoundsException") (by decide +kernel)) dX3_swap_14 dX3_swap_17 dX3_swap_18 dX3_swap_20 dX3_swap_23 (Nat.le_of_ble_eq_true rfl) (Nat.le_of_ble_eq_true rfl) (Nat.le_of_ble_eq_true rfl) (Nat.le_of_ble_eq_true rfl)
  · have hF := ite_f hF hc4
    refine g_iload_n X dX3_swap_7 rfl (lv_at hl 2 rfl) ?_
    obtain ⟨r8, hr8, hF⟩ := obind hF
    refine k_Sz X (As := [.int a2]) (rest := []) (c_X3_isSlot hI hr8) (va_cwS 1 X.ts gX3_swap_X3_isSlot rfl rfl rfl (by decide +kernel) ⟨Nat.le_of_ble_eq_true rfl, Nat.le_of_ble_eq_true rfl⟩) rfl hl.1 rfl (Nat.le_of_ble_eq_true rfl) dX3_swap_8 (fun hz8 => ?_)
    refine g_if_ne (tgt := 24) X dX3_swap_11 (by decide) (fun hc11 => ?_) (fun hc11 => ?_)
    · have hF := ite_t hF hc11
      exact (inR_ne hF).elim
    · have hF := ite_n hF hc11
      have e9 := inl_inj hF
      subst e9
      exact g_throw X hlt hno hT (text := "no such slot") (E0 := exE 2) (cls := "java/lang/IndexOutOfBoundsException") rfl hl.1 (by decide +kernel) (by decide) (fun w hw => X.ts w (List.mem_cons_of_mem _ (List.mem_append_right _ hw))) tb_92 tg_92 (X.ts (.classLink RX3 88 "java/lang/IndexOutOfBoundsException") (by decide +kernel)) (X.ts (.initialized "java/lang/IndexOutOfBoundsException") (by decide +kernel)) dX3_swap_14 dX3_swap_17 dX3_swap_18 dX3_swap_20 dX3_swap_23 (Nat.le_of_ble_eq_true rfl) (Nat.le_of_ble_eq_true rfl) (Nat.le_of_ble_eq_true rfl) (Nat.le_of_ble_eq_true rfl)
set_option maxHeartbeats 4000000 in
set_option maxRecDepth 100000 in
theorem t_X3_pass {l : Launch} (hlt : l.stackTraces = false) {D : va_G} {ay : Nat → ClassId} {ad : Nat → Nat} {a1 : Int32} {σ : Mem} {k : Nat} {sd : Nat → Nat} {Qc : Array Value → State → Outcome → State → Prop} (hI : adOK ad) (hF : F_X3_pass a1 σ = some (Sum.inl k)) : vx_Met l yX3_pass wsX3_pass ({ frames := 6, cells := 1, slots := 6, locals := 149 } : Room) (va_Pc [.ref (ad 0), .int a1] (fun U => PP D ay (wC ay ad σ) U ∧ TX (AC ad) sd U)) Qc (vx_X (fun _ : Unit => True) (fun E _ t => E = exE k ∧ va_P D vwCl (wC ay ad σ) t.heap) (AC ad)) 1 6 (AC ad) := by
  refine g_startT (wd := wC ay ad) (A := AC ad) (own := RX3) (mL := 2) (rt := (some .int)) (by decide) rfl rfl (Nat.le_of_ble_eq_true rfl) ?_
  intro p e s m below meth c ls X hno hT hl
  have hl : lv_has ls 2 [(0, .ref (ad 0)), (1, .int a1)] := hl
  rw [F_X3_pass] at hF
  refine g_iload_n X dX3_pass_0 rfl (lv_at hl 1 rfl) ?_
  refine g_iconst (v := 1) X dX3_pass_1 (by decide) ?_
  refine g_bipush (v := 99) X dX3_pass_2 (by decide) ?_
  obtain ⟨r4, hr4, hF⟩ := obind hF
  refine k_Sz X (As := [.int a1, .int (1 : Int32), .int (99 : Int32)]) (rest := []) (c_X3_isWithin hI hr4) (va_cwS 3 X.ts gX3_pass_X3_isWithin rfl rfl rfl (by decide +kernel) ⟨Nat.le_of_ble_eq_true rfl, Nat.le_of_ble_eq_true rfl⟩) rfl hl.1 rfl (Nat.le_of_ble_eq_true rfl) dX3_pass_4 (fun hz4 => ?_)
  refine g_if_ne (tgt := 20) X dX3_pass_7 (by decide) (fun hc7 => ?_) (fun hc7 => ?_)
  · have hF := ite_t hF hc7
    refine g_aload_n X dX3_pass_20 rfl (lv_at hl 0 rfl) ?_
    refine g_get X 0 (lt_obj) in_X3_pass_X3 rfl 0 (by decide) (X.ts (.fieldLink RX3 12 "LeadTimes" "now" "LLeadTimes$State;") (by decide +kernel)) rfl rfl dX3_pass_21 ?_
    refine g_get X 6 (st_obj isSt6) in_X3_pass_X1 rfl 5 (by decide) (X.ts (.fieldLink RX3 129 "LeadTimes$State" "time" "I") (by decide +kernel)) rfl rfl dX3_pass_24 ?_
    refine g_iload_n X dX3_pass_27 rfl (lv_at hl 1 rfl) ?_
    refine g_iadd X dX3_pass_28 ?_
    refine g_sipush (v := 9999) X dX3_pass_29 (by decide) ?_
    refine g_icmp_le (tgt := 45) X dX3_pass_32 (by decide) (fun hc32 => ?_) (fun hc32 => ?_)
    · have hF := ite_t hF hc32
      exact (inR_ne hF).elim
    · have hF := ite_f hF hc32
      have e9 := inl_inj hF
      subst e9
      exact g_throw X hlt hno hT (text := "the time would be out of range") (E0 := exE 1) (cls := "java/lang/IllegalStateException") rfl hl.1 (by decide +kernel) (by decide) (fun w hw => X.ts w (List.mem_cons_of_mem _ (List.mem_append_right _ hw))) tb_74 tg_74 (X.ts (.classLink RX3 70 "java/lang/IllegalStateException") (by decide +kernel)) (X.ts (.initialized "java/lang/IllegalStateException") (by decide +kernel)) dX3_pass_35 dX3_pass_38 dX3_pass_39 dX3_pass_41 dX3_pass_44 (Nat.le_of_ble_eq_true rfl) (Nat.le_of_ble_eq_true rfl) (Nat.le_of_ble_eq_true rfl) (Nat.le_of_ble_eq_true rfl)
  · have hF := ite_n hF hc7
    have e9 := inl_inj hF
    subst e9
    exact g_throw X hlt hno hT (text := "by is out of range") (E0 := exE 0) (cls := "java/lang/IllegalArgumentException") rfl hl.1 (by decide +kernel) (by decide) (fun w hw => X.ts w (List.mem_cons_of_mem _ (List.mem_append_left _ (List.mem_append_right _ hw)))) tb_63 tg_63 (X.ts (.classLink RX3 59 "java/lang/IllegalArgumentException") (by decide +kernel)) (X.ts (.initialized "java/lang/IllegalArgumentException") (by decide +kernel)) dX3_pass_10 dX3_pass_13 dX3_pass_14 dX3_pass_16 dX3_pass_19 (Nat.le_of_ble_eq_true rfl) (Nat.le_of_ble_eq_true rfl) (Nat.le_of_ble_eq_true rfl) (Nat.le_of_ble_eq_true rfl)
set_option maxHeartbeats 4000000 in
set_option maxRecDepth 100000 in
theorem t_X3_passToTurn {l : Launch} (hlt : l.stackTraces = false) {D : va_G} {ay : Nat → ClassId} {ad : Nat → Nat} {σ : Mem} {k : Nat} {sd : Nat → Nat} {Qc : Array Value → State → Outcome → State → Prop} (hI : adOK ad) (hF : F_X3_passToTurn  σ = some (Sum.inl k)) : vx_Met l yX3_passToTurn wsX3_passToTurn ({ frames := 6, cells := 1, slots := 6, locals := 149 } : Room) (va_Pc [.ref (ad 0)] (fun U => PP D ay (wC ay ad σ) U ∧ TX (AC ad) sd U)) Qc (vx_X (fun _ : Unit => True) (fun E _ t => E = exE k ∧ va_P D vwCl (wC ay ad σ) t.heap) (AC ad)) 1 6 (AC ad) := by
  refine g_startT (wd := wC ay ad) (A := AC ad) (own := RX3) (mL := 3) (rt := (some .int)) (by decide) rfl rfl (Nat.le_of_ble_eq_true rfl) ?_
  intro p e s m below meth c ls X hno hT hl
  have hl : lv_has ls 3 [(0, .ref (ad 0))] := hl
  rw [F_X3_passToTurn] at hF
  refine g_aload_n X dX3_passToTurn_0 rfl (lv_at hl 0 rfl) ?_
  obtain ⟨r1, hr1, hF⟩ := obind hF
  refine k_Vi X (As := []) (rest := []) (c_X3_firstToTurn hI hr1) (cwV 0 X.ts gX3_passToTurn_X3_firstToTurn rfl rfl rfl (by decide +kernel) ⟨Nat.le_of_ble_eq_true rfl, Nat.le_of_ble_eq_true rfl⟩) ⟨0, 3, _, _, lt_obj, rfl, rfl⟩ rfl hl.1 rfl (Nat.le_of_ble_eq_true rfl) dX3_passToTurn_1 ?_
  refine g_istore_n (lv' := [(1, _), (0, _)]) X dX3_passToTurn_4 rfl hl (by decide) rfl (fun ls hl => ?_)
  refine g_iload_n X dX3_passToTurn_5 rfl (lv_at hl 0 rfl) ?_
  refine g_iconst (v := -1) X dX3_passToTurn_6 (by decide) ?_
  refine g_icmp_ne (tgt := 20) X dX3_passToTurn_7 (by decide) (fun hc7 => ?_) (fun hc7 => ?_)
  · have hF := ite_t hF hc7
    refine g_aload_n X dX3_passToTurn_20 rfl (lv_at hl 1 rfl) ?_
    refine g_iload_n X dX3_passToTurn_21 rfl (lv_at hl 0 rfl) ?_
    obtain ⟨r22, hr22, hF⟩ := obind hF
    refine k_Vr X (As := [.int r1]) (rest := []) (c_X3_courseOf hI hr22) (cwV 1 X.ts gX3_passToTurn_X3_courseOf rfl rfl rfl (by decide +kernel) ⟨Nat.le_of_ble_eq_true rfl, Nat.le_of_ble_eq_true rfl⟩) ⟨0, 3, _, _, lt_obj, rfl, rfl⟩ rfl hl.1 rfl (Nat.le_of_ble_eq_true rfl) dX3_passToTurn_22 ?_
    refine g_iconst (v := 1) X dX3_passToTurn_25 (by decide) ?_
    obtain ⟨r26, hr26, hF⟩ := obind hF
    refine k_Vi X (As := [.int (1 : Int32)]) (rest := []) (c_X0_wholeUnitsTo hI (is_X3_courseOf hr22) hr26) (cwV 1 X.ts gX3_passToTurn_X0_wholeUnitsTo rfl rfl rfl (by decide +kernel) ⟨Nat.le_of_ble_eq_true rfl, Nat.le_of_ble_eq_true rfl⟩) ⟨r22, 0, _, _, co_obj (is_X3_courseOf hr22), rfl, rfl⟩ rfl hl.1 rfl (Nat.le_of_ble_eq_true rfl) dX3_passToTurn_26 ?_
    refine g_istore_n (lv' := [(2, _), (1, _), (0, _)]) X dX3_passToTurn_29 rfl hl (by decide) rfl (fun ls hl => ?_)
    refine g_iload_n X dX3_passToTurn_30 rfl (lv_at hl 0 rfl) ?_
    refine g_sipush (v := 9999) X dX3_passToTurn_31 (by decide) ?_
    refine g_aload_n X dX3_passToTurn_34 rfl (lv_at hl 2 rfl) ?_
    refine g_get X 0 (lt_obj) in_X3_passToTurn_X3 rfl 0 (by decide) (X.ts (.fieldLink RX3 12 "LeadTimes" "now" "LLeadTimes$State;") (by decide +kernel)) rfl rfl dX3_passToTurn_35 ?_
    refine g_get X 6 (st_obj isSt6) in_X3_passToTurn_X1 rfl 5 (by decide) (X.ts (.fieldLink RX3 129 "LeadTimes$State" "time" "I") (by decide +kernel)) rfl rfl dX3_passToTurn_38 ?_
    refine g_isub X dX3_passToTurn_41 ?_
    refine g_icmp_le (tgt := 55) X dX3_passToTurn_42 (by decide) (fun hc42 => ?_) (fun hc42 => ?_)
    · have hF := ite_t hF hc42
      exact (inR_ne hF).elim
    · have hF := ite_f hF hc42
      have e9 := inl_inj hF
      subst e9
      exact g_throw X hlt hno hT (text := "the time would be out of range") (E0 := exE 1) (cls := "java/lang/IllegalStateException") rfl hl.1 (by decide +kernel) (by decide) (fun w hw => X.ts w (List.mem_cons_of_mem _ (List.mem_append_right _ hw))) tb_74 tg_74 (X.ts (.classLink RX3 70 "java/lang/IllegalStateException") (by decide +kernel)) (X.ts (.initialized "java/lang/IllegalStateException") (by decide +kernel)) dX3_passToTurn_45 dX3_passToTurn_48 dX3_passToTurn_49 dX3_passToTurn_51 dX3_passToTurn_54 (Nat.le_of_ble_eq_true rfl) (Nat.le_of_ble_eq_true rfl) (Nat.le_of_ble_eq_true rfl) (Nat.le_of_ble_eq_true rfl)
  · have hF := ite_n hF hc7
    have e9 := inl_inj hF
    subst e9
    exact g_throw X hlt hno hT (text := "no contest turns any more") (E0 := exE 1) (cls := "java/lang/IllegalStateException") rfl hl.1 (by decide +kernel) (by decide) (fun w hw => X.ts w (List.mem_cons_of_mem _ (List.mem_append_right _ hw))) tb_74 tg_74 (X.ts (.classLink RX3 70 "java/lang/IllegalStateException") (by decide +kernel)) (X.ts (.initialized "java/lang/IllegalStateException") (by decide +kernel)) dX3_passToTurn_10 dX3_passToTurn_13 dX3_passToTurn_14 dX3_passToTurn_16 dX3_passToTurn_19 (Nat.le_of_ble_eq_true rfl) (Nat.le_of_ble_eq_true rfl) (Nat.le_of_ble_eq_true rfl) (Nat.le_of_ble_eq_true rfl)
set_option maxHeartbeats 4000000 in
set_option maxRecDepth 100000 in
theorem t_X3_set {l : Launch} (hlt : l.stackTraces = false) {D : va_G} {ay : Nat → ClassId} {ad : Nat → Nat} {a1 : Int32} {a2 : Int32} {σ : Mem} {k : Nat} {sd : Nat → Nat} {Qc : Array Value → State → Outcome → State → Prop} (hI : adOK ad) (hF : F_X3_set a1 a2 σ = some (Sum.inl k)) : vx_Met l yX3_set wsX3_set ({ frames := 6, cells := 1, slots := 6, locals := 125 } : Room) (va_Pc [.ref (ad 0), .int a1, .int a2] (fun U => PP D ay (wC ay ad σ) U ∧ TX (AC ad) sd U)) Qc (vx_X (fun _ : Unit => True) (fun E _ t => E = exE k ∧ va_P D vwCl (wC ay ad σ) t.heap) (AC ad)) 1 6 (AC ad) := by
  refine g_startT (wd := wC ay ad) (A := AC ad) (own := RX3) (mL := 5) (rt := (some .int)) (by decide) rfl rfl (Nat.le_of_ble_eq_true rfl) ?_
  intro p e s m below meth c ls X hno hT hl
  have hl : lv_has ls 5 [(0, .ref (ad 0)), (1, .int a1), (2, .int a2)] := hl
  rw [F_X3_set] at hF
  refine g_iload_n X dX3_set_0 rfl (lv_at hl 1 rfl) ?_
  refine g_if_eq (tgt := 19) X dX3_set_1 (by decide) (fun hc1 => ?_) (fun hc1 => ?_)
  · have hF := ite_t hF hc1
    refine g_iload_n X dX3_set_19 rfl (lv_at hl 1 rfl) ?_
    obtain ⟨v20, hR20, hF⟩ := obind hF
    refine g_cut (nM := 5) [(0, .ref (ad 0)), (1, .int a1), (2, .int a2)] (σ) 40 [.int v20] (fun ls hl => ?_) (fun J20 => ?_)
    · refine g_istore_n (lv' := [(3, _), (0, _), (1, _), (2, _)]) X dX3_set_40 rfl hl (by decide) rfl (fun ls hl => ?_)
      refine g_iload_n X dX3_set_41 rfl (lv_at hl 0 rfl) ?_
      refine g_if_ne (tgt := 55) X dX3_set_42 (by decide) (fun hc42 => ?_) (fun hc42 => ?_)
      · have hF := ite_t hF hc42
        exact (inR_ne hF).elim
      · have hF := ite_n hF hc42
        have e9 := inl_inj hF
        subst e9
        exact g_throw X hlt hno hT (text := "value is out of range") (E0 := exE 0) (cls := "java/lang/IllegalArgumentException") rfl hl.1 (by decide +kernel) (by decide) (fun w hw => X.ts w (List.mem_cons_of_mem _ (List.mem_append_right _ hw))) tb_63 tg_63 (X.ts (.classLink RX3 59 "java/lang/IllegalArgumentException") (by decide +kernel)) (X.ts (.initialized "java/lang/IllegalArgumentException") (by decide +kernel)) dX3_set_45 dX3_set_48 dX3_set_49 dX3_set_51 dX3_set_54 (Nat.le_of_ble_eq_true rfl) (Nat.le_of_ble_eq_true rfl) (Nat.le_of_ble_eq_true rfl) (Nat.le_of_ble_eq_true rfl)
    · refine g_if_ne (tgt := 32) X dX3_set_20 (by decide) (fun hc20 => ?_) (fun hc20 => ?_)
      · have hR20 := ite_t hR20 hc20
        refine g_iload_n X dX3_set_32 rfl (lv_at hl 2 rfl) ?_
        refine g_iconst (v := 1) X dX3_set_33 (by decide) ?_
        refine g_sipush (v := 999) X dX3_set_34 (by decide) ?_
        obtain ⟨r37, hr37, hR20⟩ := obind hR20
        refine k_Sz X (As := [.int a2, .int (1 : Int32), .int (999 : Int32)]) (rest := []) (c_X3_isWithin hI hr37) (va_cwS 3 X.ts gX3_set_X3_isWithin rfl rfl rfl (by decide +kernel) ⟨Nat.le_of_ble_eq_true rfl, Nat.le_of_ble_eq_true rfl⟩) rfl hl.1 rfl (Nat.le_of_ble_eq_true rfl) dX3_set_37 (fun hz37 => ?_)
        have e20 := some_inj hR20
        subst e20
        exact J20 ls (lv_sub hl [0, 1, 2] rfl)
      · have hR20 := ite_n hR20 hc20
        refine g_iload_n X dX3_set_23 rfl (lv_at hl 2 rfl) ?_
        refine g_iconst (v := 0) X dX3_set_24 (by decide) ?_
        refine g_iconst (v := 1) X dX3_set_25 (by decide) ?_
        obtain ⟨r26, hr26, hR20⟩ := obind hR20
        refine k_Sz X (As := [.int a2, .int (0 : Int32), .int (1 : Int32)]) (rest := []) (c_X3_isWithin hI hr26) (va_cwS 3 X.ts gX3_set_X3_isWithin rfl rfl rfl (by decide +kernel) ⟨Nat.le_of_ble_eq_true rfl, Nat.le_of_ble_eq_true rfl⟩) rfl hl.1 rfl (Nat.le_of_ble_eq_true rfl) dX3_set_26 (fun hz26 => ?_)
        refine g_goto (tgt := 40) X dX3_set_29 (by decide) ?_
        have e20 := some_inj hR20
        subst e20
        exact J20 ls (lv_sub hl [0, 1, 2] rfl)
  · have hF := ite_f hF hc1
    refine g_iload_n X dX3_set_4 rfl (lv_at hl 1 rfl) ?_
    refine g_iconst (v := 1) X dX3_set_5 (by decide) ?_
    refine g_icmp_eq (tgt := 19) X dX3_set_6 (by decide) (fun hc6 => ?_) (fun hc6 => ?_)
    · have hF := ite_t hF hc6
      refine g_iload_n X dX3_set_19 rfl (lv_at hl 1 rfl) ?_
      obtain ⟨v20, hR20, hF⟩ := obind hF
      refine g_cut (nM := 5) [(0, .ref (ad 0)), (1, .int a1), (2, .int a2)] (σ) 40 [.int v20] (fun ls hl => ?_) (fun J20 => ?_)
      · refine g_istore_n (lv' := [(3, _), (0, _), (1, _), (2, _)]) X dX3_set_40 rfl hl (by decide) rfl (fun ls hl => ?_)
        refine g_iload_n X dX3_set_41 rfl (lv_at hl 0 rfl) ?_
        refine g_if_ne (tgt := 55) X dX3_set_42 (by decide) (fun hc42 => ?_) (fun hc42 => ?_)
        · have hF := ite_t hF hc42
          exact (inR_ne hF).elim
        · have hF := ite_n hF hc42
          have e9 := inl_inj hF
          subst e9
          exact g_throw X hlt hno hT (text := "value is out of range") (E0 := exE 0) (cls := "java/lang/IllegalArgumentException") rfl hl.1 (by decide +kernel) (by decide) (fun w hw => X.ts w (List.mem_cons_of_mem _ (List.mem_append_right _ hw))) tb_63 tg_63 (X.ts (.classLink RX3 59 "java/lang/IllegalArgumentException") (by decide +kernel)) (X.ts (.initialized "java/lang/IllegalArgumentException") (by decide +kernel)) dX3_set_45 dX3_set_48 dX3_set_49 dX3_set_51 dX3_set_54 (Nat.le_of_ble_eq_true rfl) (Nat.le_of_ble_eq_true rfl) (Nat.le_of_ble_eq_true rfl) (Nat.le_of_ble_eq_true rfl)
      · refine g_if_ne (tgt := 32) X dX3_set_20 (by decide) (fun hc20 => ?_) (fun hc20 => ?_)
        · have hR20 := ite_t hR20 hc20
          refine g_iload_n X dX3_set_32 rfl (lv_at hl 2 rfl) ?_
          refine g_iconst (v := 1) X dX3_set_33 (by decide) ?_
          refine g_sipush (v := 999) X dX3_set_34 (by decide) ?_
          obtain ⟨r37, hr37, hR20⟩ := obind hR20
          refine k_Sz X (As := [.int a2, .int (1 : Int32), .int (999 : Int32)]) (rest := []) (c_X3_isWithin hI hr37) (va_cwS 3 X.ts gX3_set_X3_isWithin rfl rfl rfl (by decide +kernel) ⟨Nat.le_of_ble_eq_true rfl, Nat.le_of_ble_eq_true rfl⟩) rfl hl.1 rfl (Nat.le_of_ble_eq_true rfl) dX3_set_37 (fun hz37 => ?_)
          have e20 := some_inj hR20
          subst e20
          exact J20 ls (lv_sub hl [0, 1, 2] rfl)
        · have hR20 := ite_n hR20 hc20
          refine g_iload_n X dX3_set_23 rfl (lv_at hl 2 rfl) ?_
          refine g_iconst (v := 0) X dX3_set_24 (by decide) ?_
          refine g_iconst (v := 1) X dX3_set_25 (by decide) ?_
          obtain ⟨r26, hr26, hR20⟩ := obind hR20
          refine k_Sz X (As := [.int a2, .int (0 : Int32), .int (1 : Int32)]) (rest := []) (c_X3_isWithin hI hr26) (va_cwS 3 X.ts gX3_set_X3_isWithin rfl rfl rfl (by decide +kernel) ⟨Nat.le_of_ble_eq_true rfl, Nat.le_of_ble_eq_true rfl⟩) rfl hl.1 rfl (Nat.le_of_ble_eq_true rfl) dX3_set_26 (fun hz26 => ?_)
          refine g_goto (tgt := 40) X dX3_set_29 (by decide) ?_
          have e20 := some_inj hR20
          subst e20
          exact J20 ls (lv_sub hl [0, 1, 2] rfl)
    · have hF := ite_f hF hc6
      have e9 := inl_inj hF
      subst e9
      exact g_throw X hlt hno hT (text := "no such setting") (E0 := exE 2) (cls := "java/lang/IndexOutOfBoundsException") rfl hl.1 (by decide +kernel) (by decide) (fun w hw => X.ts w (List.mem_cons_of_mem _ (List.mem_append_left _ (List.mem_append_right _ hw)))) tb_92 tg_92 (X.ts (.classLink RX3 88 "java/lang/IndexOutOfBoundsException") (by decide +kernel)) (X.ts (.initialized "java/lang/IndexOutOfBoundsException") (by decide +kernel)) dX3_set_9 dX3_set_12 dX3_set_13 dX3_set_15 dX3_set_18 (Nat.le_of_ble_eq_true rfl) (Nat.le_of_ble_eq_true rfl) (Nat.le_of_ble_eq_true rfl) (Nat.le_of_ble_eq_true rfl)
set_option maxHeartbeats 4000000 in
set_option maxRecDepth 100000 in
theorem t_X3_append {l : Launch} (hlt : l.stackTraces = false) {D : va_G} {ay : Nat → ClassId} {ad : Nat → Nat} {a1 : Int32} {σ : Mem} {k : Nat} {sd : Nat → Nat} {Qc : Array Value → State → Outcome → State → Prop} (hI : adOK ad) (hF : F_X3_append a1 σ = some (Sum.inl k)) : vx_Met l yX3_append wsX3_append ({ frames := 6, cells := 1, slots := 6, locals := 82 } : Room) (va_Pc [.ref (ad 0), .int a1] (fun U => PP D ay (wC ay ad σ) U ∧ TX (AC ad) sd U)) Qc (vx_X (fun _ : Unit => True) (fun E _ t => E = exE k ∧ va_P D vwCl (wC ay ad σ) t.heap) (AC ad)) 1 6 (AC ad) := by
  refine g_startT (wd := wC ay ad) (A := AC ad) (own := RX3) (mL := 2) (rt := (some .int)) (by decide) rfl rfl (Nat.le_of_ble_eq_true rfl) ?_
  intro p e s m below meth c ls X hno hT hl
  have hl : lv_has ls 2 [(0, .ref (ad 0)), (1, .int a1)] := hl
  rw [F_X3_append] at hF
  refine g_iload_n X dX3_append_0 rfl (lv_at hl 1 rfl) ?_
  refine g_bipush (v := 33) X dX3_append_1 (by decide) ?_
  refine g_bipush (v := 126) X dX3_append_3 (by decide) ?_
  obtain ⟨r5, hr5, hF⟩ := obind hF
  refine k_Sz X (As := [.int a1, .int (33 : Int32), .int (126 : Int32)]) (rest := []) (c_X3_isWithin hI hr5) (va_cwS 3 X.ts gX3_append_X3_isWithin rfl rfl rfl (by decide +kernel) ⟨Nat.le_of_ble_eq_true rfl, Nat.le_of_ble_eq_true rfl⟩) rfl hl.1 rfl (Nat.le_of_ble_eq_true rfl) dX3_append_5 (fun hz5 => ?_)
  refine g_if_ne (tgt := 21) X dX3_append_8 (by decide) (fun hc8 => ?_) (fun hc8 => ?_)
  · have hF := ite_t hF hc8
    refine g_aload_n X dX3_append_21 rfl (lv_at hl 0 rfl) ?_
    refine g_get X 0 (lt_obj) in_X3_append_X3 rfl 7 (by decide) (X.ts (.fieldLink RX3 47 "LeadTimes" "text" "LLeadTimes$Text;") (by decide +kernel)) rfl rfl dX3_append_22 ?_
    refine g_get X 4 (tx_obj) in_X3_append_X2 rfl 1 (by decide) (X.ts (.fieldLink RX3 164 "LeadTimes$Text" "length" "I") (by decide +kernel)) rfl rfl dX3_append_25 ?_
    refine g_bipush (v := 60) X dX3_append_28 (by decide) ?_
    refine g_icmp_lt (tgt := 43) X dX3_append_30 (by decide) (fun hc30 => ?_) (fun hc30 => ?_)
    · have hF := ite_t hF hc30
      exact (inR_ne hF).elim
    · have hF := ite_f hF hc30
      have e9 := inl_inj hF
      subst e9
      exact g_throw X hlt hno hT (text := "the buffer is full") (E0 := exE 1) (cls := "java/lang/IllegalStateException") rfl hl.1 (by decide +kernel) (by decide) (fun w hw => X.ts w (List.mem_cons_of_mem _ (List.mem_append_right _ hw))) tb_74 tg_74 (X.ts (.classLink RX3 70 "java/lang/IllegalStateException") (by decide +kernel)) (X.ts (.initialized "java/lang/IllegalStateException") (by decide +kernel)) dX3_append_33 dX3_append_36 dX3_append_37 dX3_append_39 dX3_append_42 (Nat.le_of_ble_eq_true rfl) (Nat.le_of_ble_eq_true rfl) (Nat.le_of_ble_eq_true rfl) (Nat.le_of_ble_eq_true rfl)
  · have hF := ite_n hF hc8
    have e9 := inl_inj hF
    subst e9
    exact g_throw X hlt hno hT (text := "code is out of range") (E0 := exE 0) (cls := "java/lang/IllegalArgumentException") rfl hl.1 (by decide +kernel) (by decide) (fun w hw => X.ts w (List.mem_cons_of_mem _ (List.mem_append_left _ (List.mem_append_right _ hw)))) tb_63 tg_63 (X.ts (.classLink RX3 59 "java/lang/IllegalArgumentException") (by decide +kernel)) (X.ts (.initialized "java/lang/IllegalArgumentException") (by decide +kernel)) dX3_append_11 dX3_append_14 dX3_append_15 dX3_append_17 dX3_append_20 (Nat.le_of_ble_eq_true rfl) (Nat.le_of_ble_eq_true rfl) (Nat.le_of_ble_eq_true rfl) (Nat.le_of_ble_eq_true rfl)
set_option maxHeartbeats 4000000 in
set_option maxRecDepth 100000 in
theorem t_X3_addAll {l : Launch} (hlt : l.stackTraces = false) {D : va_G} {ay : Nat → ClassId} {ad : Nat → Nat} {σ : Mem} {k : Nat} {sd : Nat → Nat} {Qc : Array Value → State → Outcome → State → Prop} (hI : adOK ad) (hF : F_X3_addAll  σ = some (Sum.inl k)) : vx_Met l yX3_addAll wsX3_addAll ({ frames := 6, cells := 1, slots := 6, locals := 125 } : Room) (va_Pc [.ref (ad 0)] (fun U => PP D ay (wC ay ad σ) U ∧ TX (AC ad) sd U)) Qc (vx_X (fun _ : Unit => True) (fun E _ t => E = exE k ∧ va_P D vwCl (wC ay ad σ) t.heap) (AC ad)) 1 6 (AC ad) := by
  refine g_startT (wd := wC ay ad) (A := AC ad) (own := RX3) (mL := 5) (rt := (some .int)) (by decide) rfl rfl (Nat.le_of_ble_eq_true rfl) ?_
  intro p e s m below meth c ls X hno hT hl
  have hl : lv_has ls 5 [(0, .ref (ad 0))] := hl
  rw [F_X3_addAll] at hF
  refine g_aload_n X dX3_addAll_0 rfl (lv_at hl 0 rfl) ?_
  refine g_get X 0 (lt_obj) in_X3_addAll_X3 rfl 7 (by decide) (X.ts (.fieldLink RX3 47 "LeadTimes" "text" "LLeadTimes$Text;") (by decide +kernel)) rfl rfl dX3_addAll_1 ?_
  obtain ⟨r4, hr4, hF⟩ := obind hF
  refine k_Vz X (As := []) (rest := []) (c_X2_isComplete hI hr4) (cwV 0 X.ts gX3_addAll_X2_isComplete rfl rfl rfl (by decide +kernel) ⟨Nat.le_of_ble_eq_true rfl, Nat.le_of_ble_eq_true rfl⟩) ⟨4, 2, _, _, tx_obj, rfl, rfl⟩ rfl hl.1 rfl (Nat.le_of_ble_eq_true rfl) dX3_addAll_4 (fun hz4 => ?_)
  refine g_if_ne (tgt := 20) X dX3_addAll_7 (by decide) (fun hc7 => ?_) (fun hc7 => ?_)
  · have hF := ite_t hF hc7
    refine g_aload_n X dX3_addAll_20 rfl (lv_at hl 0 rfl) ?_
    refine g_get X 0 (lt_obj) in_X3_addAll_X3 rfl 7 (by decide) (X.ts (.fieldLink RX3 47 "LeadTimes" "text" "LLeadTimes$Text;") (by decide +kernel)) rfl rfl dX3_addAll_21 ?_
    obtain ⟨r24, hr24, hF⟩ := obind hF
    refine k_Vi X (As := []) (rest := []) (c_X2_moversInside hI hr24) (cwV 0 X.ts gX3_addAll_X2_moversInside rfl rfl rfl (by decide +kernel) ⟨Nat.le_of_ble_eq_true rfl, Nat.le_of_ble_eq_true rfl⟩) ⟨4, 2, _, _, tx_obj, rfl, rfl⟩ rfl hl.1 rfl (Nat.le_of_ble_eq_true rfl) dX3_addAll_24 ?_
    refine g_istore_n (lv' := [(1, _), (0, _)]) X dX3_addAll_27 rfl hl (by decide) rfl (fun ls hl => ?_)
    refine g_iload_n X dX3_addAll_28 rfl (lv_at hl 0 rfl) ?_
    refine g_bipush (v := 16) X dX3_addAll_29 (by decide) ?_
    refine g_aload_n X dX3_addAll_31 rfl (lv_at hl 1 rfl) ?_
    refine g_get X 0 (lt_obj) in_X3_addAll_X3 rfl 0 (by decide) (X.ts (.fieldLink RX3 12 "LeadTimes" "now" "LLeadTimes$State;") (by decide +kernel)) rfl rfl dX3_addAll_32 ?_
    obtain ⟨r35, hr35, hF⟩ := obind hF
    refine k_Vi X (As := []) (rest := [.int (16 : Int32), .int r24]) (c_X1_moverCount hI isSt6 hr35) (cwV 0 X.ts gX3_addAll_X1_moverCount rfl rfl rfl (by decide +kernel) ⟨Nat.le_of_ble_eq_true rfl, Nat.le_of_ble_eq_true rfl⟩) ⟨6, 1, _, _, st_obj isSt6, rfl, rfl⟩ rfl hl.1 rfl (Nat.le_of_ble_eq_true rfl) dX3_addAll_35 ?_
    refine g_isub X dX3_addAll_38 ?_
    refine g_icmp_le (tgt := 52) X dX3_addAll_39 (by decide) (fun hc39 => ?_) (fun hc39 => ?_)
    · have hF := ite_t hF hc39
      exact (inR_ne hF).elim
    · have hF := ite_f hF hc39
      have e9 := inl_inj hF
      subst e9
      exact g_throw X hlt hno hT (text := "too few slots are free") (E0 := exE 1) (cls := "java/lang/IllegalStateException") rfl hl.1 (by decide +kernel) (by decide) (fun w hw => X.ts w (List.mem_cons_of_mem _ (List.mem_append_right _ hw))) tb_74 tg_74 (X.ts (.classLink RX3 70 "java/lang/IllegalStateException") (by decide +kernel)) (X.ts (.initialized "java/lang/IllegalStateException") (by decide +kernel)) dX3_addAll_42 dX3_addAll_45 dX3_addAll_46 dX3_addAll_48 dX3_addAll_51 (Nat.le_of_ble_eq_true rfl) (Nat.le_of_ble_eq_true rfl) (Nat.le_of_ble_eq_true rfl) (Nat.le_of_ble_eq_true rfl)
  · have hF := ite_n hF hc7
    have e9 := inl_inj hF
    subst e9
    exact g_throw X hlt hno hT (text := "the buffer is not complete movers") (E0 := exE 0) (cls := "java/lang/IllegalArgumentException") rfl hl.1 (by decide +kernel) (by decide) (fun w hw => X.ts w (List.mem_cons_of_mem _ (List.mem_append_left _ (List.mem_append_right _ hw)))) tb_63 tg_63 (X.ts (.classLink RX3 59 "java/lang/IllegalArgumentException") (by decide +kernel)) (X.ts (.initialized "java/lang/IllegalArgumentException") (by decide +kernel)) dX3_addAll_10 dX3_addAll_13 dX3_addAll_14 dX3_addAll_16 dX3_addAll_19 (Nat.le_of_ble_eq_true rfl) (Nat.le_of_ble_eq_true rfl) (Nat.le_of_ble_eq_true rfl) (Nat.le_of_ble_eq_true rfl)
set_option maxHeartbeats 4000000 in
set_option maxRecDepth 100000 in
theorem t_X3_undo {l : Launch} (hlt : l.stackTraces = false) {D : va_G} {ay : Nat → ClassId} {ad : Nat → Nat} {σ : Mem} {k : Nat} {sd : Nat → Nat} {Qc : Array Value → State → Outcome → State → Prop} (hI : adOK ad) (hF : F_X3_undo  σ = some (Sum.inl k)) : vx_Met l yX3_undo wsX3_undo ({ frames := 6, cells := 1, slots := 6, locals := 125 } : Room) (va_Pc [.ref (ad 0)] (fun U => PP D ay (wC ay ad σ) U ∧ TX (AC ad) sd U)) Qc (vx_X (fun _ : Unit => True) (fun E _ t => E = exE k ∧ va_P D vwCl (wC ay ad σ) t.heap) (AC ad)) 1 6 (AC ad) := by
  refine g_startT (wd := wC ay ad) (A := AC ad) (own := RX3) (mL := 2) (rt := (some .int)) (by decide) rfl rfl (Nat.le_of_ble_eq_true rfl) ?_
  intro p e s m below meth c ls X hno hT hl
  have hl : lv_has ls 2 [(0, .ref (ad 0))] := hl
  rw [F_X3_undo] at hF
  refine g_aload_n X dX3_undo_0 rfl (lv_at hl 0 rfl) ?_
  refine g_get X 0 (lt_obj) in_X3_undo_X3 rfl 3 (by decide) (X.ts (.fieldLink RX3 24 "LeadTimes" "savedCount" "I") (by decide +kernel)) rfl rfl dX3_undo_1 ?_
  refine g_iconst (v := 1) X dX3_undo_4 (by decide) ?_
  refine g_icmp_ge (tgt := 18) X dX3_undo_5 (by decide) (fun hc5 => ?_) (fun hc5 => ?_)
  · have hF := ite_t hF hc5
    exact (inR_ne hF).elim
  · have hF := ite_f hF hc5
    have e9 := inl_inj hF
    subst e9
    exact g_throw X hlt hno hT (text := "no state is saved") (E0 := exE 1) (cls := "java/lang/IllegalStateException") rfl hl.1 (by decide +kernel) (by decide) (fun w hw => X.ts w (List.mem_cons_of_mem _ (List.mem_append_right _ hw))) tb_74 tg_74 (X.ts (.classLink RX3 70 "java/lang/IllegalStateException") (by decide +kernel)) (X.ts (.initialized "java/lang/IllegalStateException") (by decide +kernel)) dX3_undo_8 dX3_undo_11 dX3_undo_12 dX3_undo_14 dX3_undo_17 (Nat.le_of_ble_eq_true rfl) (Nat.le_of_ble_eq_true rfl) (Nat.le_of_ble_eq_true rfl) (Nat.le_of_ble_eq_true rfl)
set_option maxHeartbeats 4000000 in
set_option maxRecDepth 100000 in
theorem t_X3_mover {l : Launch} (hlt : l.stackTraces = false) {D : va_G} {ay : Nat → ClassId} {ad : Nat → Nat} {a1 : Int32} {a2 : Int32} {σ : Mem} {k : Nat} {sd : Nat → Nat} {Qc : Array Value → State → Outcome → State → Prop} (hI : adOK ad) (hF : F_X3_mover a1 a2 σ = some (Sum.inl k)) : vx_Met l yX3_mover wsX3_mover ({ frames := 6, cells := 1, slots := 6, locals := 96 } : Room) (va_Pc [.ref (ad 0), .int a1, .int a2] (fun U => PP D ay (wC ay ad σ) U ∧ TX (AC ad) sd U)) Qc (vx_X (fun _ : Unit => True) (fun E _ t => E = exE k ∧ va_P D vwCl (wC ay ad σ) t.heap) (AC ad)) 1 6 (AC ad) := by
  refine g_startT (wd := wC ay ad) (A := AC ad) (own := RX3) (mL := 3) (rt := (some .int)) (by decide) rfl rfl (Nat.le_of_ble_eq_true rfl) ?_
  intro p e s m below meth c ls X hno hT hl
  have hl : lv_has ls 3 [(0, .ref (ad 0)), (1, .int a1), (2, .int a2)] := hl
  rw [F_X3_mover] at hF
  refine g_aload_n X dX3_mover_0 rfl (lv_at hl 0 rfl) ?_
  refine g_get X 0 (lt_obj) in_X3_mover_X3 rfl 0 (by decide) (X.ts (.fieldLink RX3 12 "LeadTimes" "now" "LLeadTimes$State;") (by decide +kernel)) rfl rfl dX3_mover_1 ?_
  refine g_iload_n X dX3_mover_4 rfl (lv_at hl 1 rfl) ?_
  obtain ⟨r5, hr5, hF⟩ := obind hF
  refine k_Vz X (As := [.int a1]) (rest := []) (c_X1_has hI isSt6 hr5) (cwV 1 X.ts gX3_mover_X1_has rfl rfl rfl (by decide +kernel) ⟨Nat.le_of_ble_eq_true rfl, Nat.le_of_ble_eq_true rfl⟩) ⟨6, 1, _, _, st_obj isSt6, rfl, rfl⟩ rfl hl.1 rfl (Nat.le_of_ble_eq_true rfl) dX3_mover_5 (fun hz5 => ?_)
  refine g_if_ne (tgt := 21) X dX3_mover_8 (by decide) (fun hc8 => ?_) (fun hc8 => ?_)
  · have hF := ite_t hF hc8
    refine g_iload_n X dX3_mover_21 rfl (lv_at hl 2 rfl) ?_
    by_cases hc22_0 : a2 = 0
    · have hF := ite_t hF hc22_0
      refine g_tableIn (tgt := 64) X dX3_mover_22 (by rw [hc22_0]; decide) (by rw [hc22_0]; decide) (by rw [hc22_0]; rfl) (by decide) ?_
      exact (inR_ne hF).elim
    have hF := ite_f hF hc22_0
    by_cases hc22_1 : a2 = 1
    · have hF := ite_t hF hc22_1
      refine g_tableIn (tgt := 73) X dX3_mover_22 (by rw [hc22_1]; decide) (by rw [hc22_1]; decide) (by rw [hc22_1]; rfl) (by decide) ?_
      exact (inR_ne hF).elim
    have hF := ite_f hF hc22_1
    by_cases hc22_2 : a2 = 2
    · have hF := ite_t hF hc22_2
      refine g_tableIn (tgt := 82) X dX3_mover_22 (by rw [hc22_2]; decide) (by rw [hc22_2]; decide) (by rw [hc22_2]; rfl) (by decide) ?_
      exact (inR_ne hF).elim
    have hF := ite_f hF hc22_2
    by_cases hc22_3 : a2 = 3
    · have hF := ite_t hF hc22_3
      refine g_tableIn (tgt := 91) X dX3_mover_22 (by rw [hc22_3]; decide) (by rw [hc22_3]; decide) (by rw [hc22_3]; rfl) (by decide) ?_
      exact (inR_ne hF).elim
    have hF := ite_f hF hc22_3
    by_cases hc22_4 : a2 = 4
    · have hF := ite_t hF hc22_4
      refine g_tableIn (tgt := 97) X dX3_mover_22 (by rw [hc22_4]; decide) (by rw [hc22_4]; decide) (by rw [hc22_4]; rfl) (by decide) ?_
      exact (inR_ne hF).elim
    have hF := ite_f hF hc22_4
    by_cases hc22_5 : a2 = 5
    · have hF := ite_t hF hc22_5
      refine g_tableIn (tgt := 120) X dX3_mover_22 (by rw [hc22_5]; decide) (by rw [hc22_5]; decide) (by rw [hc22_5]; rfl) (by decide) ?_
      exact (inR_ne hF).elim
    have hF := ite_f hF hc22_5
    by_cases hc22_6 : a2 = 6
    · have hF := ite_t hF hc22_6
      refine g_tableIn (tgt := 136) X dX3_mover_22 (by rw [hc22_6]; decide) (by rw [hc22_6]; decide) (by rw [hc22_6]; rfl) (by decide) ?_
      exact (inR_ne hF).elim
    have hF := ite_f hF hc22_6
    refine g_tableOut (tgt := 145) X dX3_mover_22 (tb_out6 hc22_0 hc22_1 hc22_2 hc22_3 hc22_4 hc22_5 hc22_6) (by decide) ?_
    have e9 := inl_inj hF
    subst e9
    exact g_throw X hlt hno hT (text := "no such property") (E0 := exE 0) (cls := "java/lang/IllegalArgumentException") rfl hl.1 (by decide +kernel) (by decide) (fun w hw => X.ts w (List.mem_cons_of_mem _ (List.mem_append_right _ hw))) tb_63 tg_63 (X.ts (.classLink RX3 59 "java/lang/IllegalArgumentException") (by decide +kernel)) (X.ts (.initialized "java/lang/IllegalArgumentException") (by decide +kernel)) dX3_mover_145 dX3_mover_148 dX3_mover_149 dX3_mover_151 dX3_mover_154 (Nat.le_of_ble_eq_true rfl) (Nat.le_of_ble_eq_true rfl) (Nat.le_of_ble_eq_true rfl) (Nat.le_of_ble_eq_true rfl)
  · have hF := ite_n hF hc8
    have e9 := inl_inj hF
    subst e9
    exact g_throw X hlt hno hT (text := "no mover on this slot") (E0 := exE 2) (cls := "java/lang/IndexOutOfBoundsException") rfl hl.1 (by decide +kernel) (by decide) (fun w hw => X.ts w (List.mem_cons_of_mem _ (List.mem_append_left _ (List.mem_append_right _ hw)))) tb_92 tg_92 (X.ts (.classLink RX3 88 "java/lang/IndexOutOfBoundsException") (by decide +kernel)) (X.ts (.initialized "java/lang/IndexOutOfBoundsException") (by decide +kernel)) dX3_mover_11 dX3_mover_14 dX3_mover_15 dX3_mover_17 dX3_mover_20 (Nat.le_of_ble_eq_true rfl) (Nat.le_of_ble_eq_true rfl) (Nat.le_of_ble_eq_true rfl) (Nat.le_of_ble_eq_true rfl)
set_option maxHeartbeats 4000000 in
set_option maxRecDepth 100000 in
theorem t_X3_contest {l : Launch} (hlt : l.stackTraces = false) {D : va_G} {ay : Nat → ClassId} {ad : Nat → Nat} {a1 : Int32} {a2 : Int32} {σ : Mem} {k : Nat} {sd : Nat → Nat} {Qc : Array Value → State → Outcome → State → Prop} (hI : adOK ad) (hF : F_X3_contest a1 a2 σ = some (Sum.inl k)) : vx_Met l yX3_contest wsX3_contest ({ frames := 6, cells := 1, slots := 6, locals := 109 } : Room) (va_Pc [.ref (ad 0), .int a1, .int a2] (fun U => PP D ay (wC ay ad σ) U ∧ TX (AC ad) sd U)) Qc (vx_X (fun _ : Unit => True) (fun E _ t => E = exE k ∧ va_P D vwCl (wC ay ad σ) t.heap) (AC ad)) 1 6 (AC ad) := by
  refine g_startT (wd := wC ay ad) (A := AC ad) (own := RX3) (mL := 4) (rt := (some .int)) (by decide) rfl rfl (Nat.le_of_ble_eq_true rfl) ?_
  intro p e s m below meth c ls X hno hT hl
  have hl : lv_has ls 4 [(0, .ref (ad 0)), (1, .int a1), (2, .int a2)] := hl
  rw [F_X3_contest] at hF
  refine g_iload_n X dX3_contest_0 rfl (lv_at hl 1 rfl) ?_
  refine g_iconst (v := 1) X dX3_contest_1 (by decide) ?_
  refine g_bipush (v := 15) X dX3_contest_2 (by decide) ?_
  obtain ⟨r4, hr4, hF⟩ := obind hF
  refine k_Sz X (As := [.int a1, .int (1 : Int32), .int (15 : Int32)]) (rest := []) (c_X3_isWithin hI hr4) (va_cwS 3 X.ts gX3_contest_X3_isWithin rfl rfl rfl (by decide +kernel) ⟨Nat.le_of_ble_eq_true rfl, Nat.le_of_ble_eq_true rfl⟩) rfl hl.1 rfl (Nat.le_of_ble_eq_true rfl) dX3_contest_4 (fun hz4 => ?_)
  refine g_if_ne (tgt := 20) X dX3_contest_7 (by decide) (fun hc7 => ?_) (fun hc7 => ?_)
  · have hF := ite_t hF hc7
    refine g_aload_n X dX3_contest_20 rfl (lv_at hl 0 rfl) ?_
    refine g_iload_n X dX3_contest_21 rfl (lv_at hl 1 rfl) ?_
    obtain ⟨r22, hr22, hF⟩ := obind hF
    refine k_Vr X (As := [.int a1]) (rest := []) (c_X3_courseOf hI hr22) (cwV 1 X.ts gX3_contest_X3_courseOf rfl rfl rfl (by decide +kernel) ⟨Nat.le_of_ble_eq_true rfl, Nat.le_of_ble_eq_true rfl⟩) ⟨0, 3, _, _, lt_obj, rfl, rfl⟩ rfl hl.1 rfl (Nat.le_of_ble_eq_true rfl) dX3_contest_22 ?_
    refine g_astore_n (lv' := [(3, _), (0, _), (1, _), (2, _)]) X dX3_contest_25 rfl hl (by decide) rfl (fun ls hl => ?_)
    refine g_iload_n X dX3_contest_26 rfl (lv_at hl 3 rfl) ?_
    by_cases hc27_0 : a2 = 0
    · have hF := ite_t hF hc27_0
      refine g_tableIn (tgt := 64) X dX3_contest_27 (by rw [hc27_0]; decide) (by rw [hc27_0]; decide) (by rw [hc27_0]; rfl) (by decide) ?_
      exact (inR_ne hF).elim
    have hF := ite_f hF hc27_0
    by_cases hc27_1 : a2 = 1
    · have hF := ite_t hF hc27_1
      refine g_tableIn (tgt := 70) X dX3_contest_27 (by rw [hc27_1]; decide) (by rw [hc27_1]; decide) (by rw [hc27_1]; rfl) (by decide) ?_
      exact (inR_ne hF).elim
    have hF := ite_f hF hc27_1
    by_cases hc27_2 : a2 = 2
    · have hF := ite_t hF hc27_2
      refine g_tableIn (tgt := 76) X dX3_contest_27 (by rw [hc27_2]; decide) (by rw [hc27_2]; decide) (by rw [hc27_2]; rfl) (by decide) ?_
      exact (inR_ne hF).elim
    have hF := ite_f hF hc27_2
    by_cases hc27_3 : a2 = 3
    · have hF := ite_t hF hc27_3
      refine g_tableIn (tgt := 89) X dX3_contest_27 (by rw [hc27_3]; decide) (by rw [hc27_3]; decide) (by rw [hc27_3]; rfl) (by decide) ?_
      exact (inR_ne hF).elim
    have hF := ite_f hF hc27_3
    by_cases hc27_4 : a2 = 4
    · have hF := ite_t hF hc27_4
      refine g_tableIn (tgt := 95) X dX3_contest_27 (by rw [hc27_4]; decide) (by rw [hc27_4]; decide) (by rw [hc27_4]; rfl) (by decide) ?_
      exact (inR_ne hF).elim
    have hF := ite_f hF hc27_4
    by_cases hc27_5 : a2 = 5
    · have hF := ite_t hF hc27_5
      refine g_tableIn (tgt := 101) X dX3_contest_27 (by rw [hc27_5]; decide) (by rw [hc27_5]; decide) (by rw [hc27_5]; rfl) (by decide) ?_
      exact (inR_ne hF).elim
    have hF := ite_f hF hc27_5
    refine g_tableOut (tgt := 110) X dX3_contest_27 (tb_out5 hc27_0 hc27_1 hc27_2 hc27_3 hc27_4 hc27_5) (by decide) ?_
    have e9 := inl_inj hF
    subst e9
    exact g_throw X hlt hno hT (text := "no such property") (E0 := exE 0) (cls := "java/lang/IllegalArgumentException") rfl hl.1 (by decide +kernel) (by decide) (fun w hw => X.ts w (List.mem_cons_of_mem _ (List.mem_append_right _ hw))) tb_63 tg_63 (X.ts (.classLink RX3 59 "java/lang/IllegalArgumentException") (by decide +kernel)) (X.ts (.initialized "java/lang/IllegalArgumentException") (by decide +kernel)) dX3_contest_110 dX3_contest_113 dX3_contest_114 dX3_contest_116 dX3_contest_119 (Nat.le_of_ble_eq_true rfl) (Nat.le_of_ble_eq_true rfl) (Nat.le_of_ble_eq_true rfl) (Nat.le_of_ble_eq_true rfl)
  · have hF := ite_n hF hc7
    have e9 := inl_inj hF
    subst e9
    exact g_throw X hlt hno hT (text := "no such contest") (E0 := exE 2) (cls := "java/lang/IndexOutOfBoundsException") rfl hl.1 (by decide +kernel) (by decide) (fun w hw => X.ts w (List.mem_cons_of_mem _ (List.mem_append_left _ (List.mem_append_right _ hw)))) tb_92 tg_92 (X.ts (.classLink RX3 88 "java/lang/IndexOutOfBoundsException") (by decide +kernel)) (X.ts (.initialized "java/lang/IndexOutOfBoundsException") (by decide +kernel)) dX3_contest_10 dX3_contest_13 dX3_contest_14 dX3_contest_16 dX3_contest_19 (Nat.le_of_ble_eq_true rfl) (Nat.le_of_ble_eq_true rfl) (Nat.le_of_ble_eq_true rfl) (Nat.le_of_ble_eq_true rfl)
set_option maxHeartbeats 4000000 in
set_option maxRecDepth 100000 in
theorem t_X3_nextTurn {l : Launch} (hlt : l.stackTraces = false) {D : va_G} {ay : Nat → ClassId} {ad : Nat → Nat} {a1 : Int32} {σ : Mem} {k : Nat} {sd : Nat → Nat} {Qc : Array Value → State → Outcome → State → Prop} (hI : adOK ad) (hF : F_X3_nextTurn a1 σ = some (Sum.inl k)) : vx_Met l yX3_nextTurn wsX3_nextTurn ({ frames := 6, cells := 1, slots := 6, locals := 93 } : Room) (va_Pc [.ref (ad 0), .int a1] (fun U => PP D ay (wC ay ad σ) U ∧ TX (AC ad) sd U)) Qc (vx_X (fun _ : Unit => True) (fun E _ t => E = exE k ∧ va_P D vwCl (wC ay ad σ) t.heap) (AC ad)) 1 6 (AC ad) := by
  refine g_startT (wd := wC ay ad) (A := AC ad) (own := RX3) (mL := 3) (rt := (some .int)) (by decide) rfl rfl (Nat.le_of_ble_eq_true rfl) ?_
  intro p e s m below meth c ls X hno hT hl
  have hl : lv_has ls 3 [(0, .ref (ad 0)), (1, .int a1)] := hl
  rw [F_X3_nextTurn] at hF
  refine g_aload_n X dX3_nextTurn_0 rfl (lv_at hl 0 rfl) ?_
  obtain ⟨r1, hr1, hF⟩ := obind hF
  refine k_Vi X (As := []) (rest := []) (c_X3_firstToTurn hI hr1) (cwV 0 X.ts gX3_nextTurn_X3_firstToTurn rfl rfl rfl (by decide +kernel) ⟨Nat.le_of_ble_eq_true rfl, Nat.le_of_ble_eq_true rfl⟩) ⟨0, 3, _, _, lt_obj, rfl, rfl⟩ rfl hl.1 rfl (Nat.le_of_ble_eq_true rfl) dX3_nextTurn_1 ?_
  refine g_istore_n (lv' := [(2, _), (0, _), (1, _)]) X dX3_nextTurn_4 rfl hl (by decide) rfl (fun ls hl => ?_)
  refine g_iload_n X dX3_nextTurn_5 rfl (lv_at hl 2 rfl) ?_
  by_cases hc6_0 : a1 = 0
  · have hF := ite_t hF hc6_0
    refine g_tableIn (tgt := 36) X dX3_nextTurn_6 (by rw [hc6_0]; decide) (by rw [hc6_0]; decide) (by rw [hc6_0]; rfl) (by decide) ?_
    exact (inR_ne hF).elim
  have hF := ite_f hF hc6_0
  by_cases hc6_1 : a1 = 1
  · have hF := ite_t hF hc6_1
    refine g_tableIn (tgt := 62) X dX3_nextTurn_6 (by rw [hc6_1]; decide) (by rw [hc6_1]; decide) (by rw [hc6_1]; rfl) (by decide) ?_
    exact (inR_ne hF).elim
  have hF := ite_f hF hc6_1
  by_cases hc6_2 : a1 = 2
  · have hF := ite_t hF hc6_2
    refine g_tableIn (tgt := 81) X dX3_nextTurn_6 (by rw [hc6_2]; decide) (by rw [hc6_2]; decide) (by rw [hc6_2]; rfl) (by decide) ?_
    exact (inR_ne hF).elim
  have hF := ite_f hF hc6_2
  by_cases hc6_3 : a1 = 3
  · have hF := ite_t hF hc6_3
    refine g_tableIn (tgt := 96) X dX3_nextTurn_6 (by rw [hc6_3]; decide) (by rw [hc6_3]; decide) (by rw [hc6_3]; rfl) (by decide) ?_
    exact (inR_ne hF).elim
  have hF := ite_f hF hc6_3
  refine g_tableOut (tgt := 98) X dX3_nextTurn_6 (tb_out3 hc6_0 hc6_1 hc6_2 hc6_3) (by decide) ?_
  have e9 := inl_inj hF
  subst e9
  exact g_throw X hlt hno hT (text := "no such property") (E0 := exE 0) (cls := "java/lang/IllegalArgumentException") rfl hl.1 (by decide +kernel) (by decide) (fun w hw => X.ts w (List.mem_cons_of_mem _ (List.mem_append_right _ hw))) tb_63 tg_63 (X.ts (.classLink RX3 59 "java/lang/IllegalArgumentException") (by decide +kernel)) (X.ts (.initialized "java/lang/IllegalArgumentException") (by decide +kernel)) dX3_nextTurn_98 dX3_nextTurn_101 dX3_nextTurn_102 dX3_nextTurn_104 dX3_nextTurn_107 (Nat.le_of_ble_eq_true rfl) (Nat.le_of_ble_eq_true rfl) (Nat.le_of_ble_eq_true rfl) (Nat.le_of_ble_eq_true rfl)
set_option maxHeartbeats 4000000 in
set_option maxRecDepth 100000 in
theorem t_X3_span {l : Launch} (hlt : l.stackTraces = false) {D : va_G} {ay : Nat → ClassId} {ad : Nat → Nat} {a1 : Int32} {a2 : Int32} {σ : Mem} {k : Nat} {sd : Nat → Nat} {Qc : Array Value → State → Outcome → State → Prop} (hI : adOK ad) (hF : F_X3_span a1 a2 σ = some (Sum.inl k)) : vx_Met l yX3_span wsX3_span ({ frames := 6, cells := 1, slots := 6, locals := 82 } : Room) (va_Pc [.ref (ad 0), .int a1, .int a2] (fun U => PP D ay (wC ay ad σ) U ∧ TX (AC ad) sd U)) Qc (vx_X (fun _ : Unit => True) (fun E _ t => E = exE k ∧ va_P D vwCl (wC ay ad σ) t.heap) (AC ad)) 1 6 (AC ad) := by
  refine g_startT (wd := wC ay ad) (A := AC ad) (own := RX3) (mL := 3) (rt := (some .int)) (by decide) rfl rfl (Nat.le_of_ble_eq_true rfl) ?_
  intro p e s m below meth c ls X hno hT hl
  have hl : lv_has ls 3 [(0, .ref (ad 0)), (1, .int a1), (2, .int a2)] := hl
  rw [F_X3_span] at hF
  refine g_iload_n X dX3_span_0 rfl (lv_at hl 1 rfl) ?_
  refine g_if_lt (tgt := 13) X dX3_span_1 (by decide) (fun hc1 => ?_) (fun hc1 => ?_)
  · have hF := ite_t hF hc1
    have e9 := inl_inj hF
    subst e9
    exact g_throw X hlt hno hT (text := "no such span or property") (E0 := exE 0) (cls := "java/lang/IllegalArgumentException") rfl hl.1 (by decide +kernel) (by decide) (fun w hw => X.ts w (List.mem_cons_of_mem _ (List.mem_append_right _ hw))) tb_63 tg_63 (X.ts (.classLink RX3 59 "java/lang/IllegalArgumentException") (by decide +kernel)) (X.ts (.initialized "java/lang/IllegalArgumentException") (by decide +kernel)) dX3_span_13 dX3_span_16 dX3_span_17 dX3_span_19 dX3_span_22 (Nat.le_of_ble_eq_true rfl) (Nat.le_of_ble_eq_true rfl) (Nat.le_of_ble_eq_true rfl) (Nat.le_of_ble_eq_true rfl)
  · have hF := ite_f hF hc1
    refine g_iload_n X dX3_span_4 rfl (lv_at hl 2 rfl) ?_
    refine g_iconst (v := 0) X dX3_span_5 (by decide) ?_
    refine g_iconst (v := 2) X dX3_span_6 (by decide) ?_
    obtain ⟨r7, hr7, hF⟩ := obind hF
    refine k_Sz X (As := [.int a2, .int (0 : Int32), .int (2 : Int32)]) (rest := []) (c_X3_isWithin hI hr7) (va_cwS 3 X.ts gX3_span_X3_isWithin rfl rfl rfl (by decide +kernel) ⟨Nat.le_of_ble_eq_true rfl, Nat.le_of_ble_eq_true rfl⟩) rfl hl.1 rfl (Nat.le_of_ble_eq_true rfl) dX3_span_7 (fun hz7 => ?_)
    refine g_if_ne (tgt := 23) X dX3_span_10 (by decide) (fun hc10 => ?_) (fun hc10 => ?_)
    · have hF := ite_t hF hc10
      exact (inR_ne hF).elim
    · have hF := ite_n hF hc10
      have e9 := inl_inj hF
      subst e9
      exact g_throw X hlt hno hT (text := "no such span or property") (E0 := exE 0) (cls := "java/lang/IllegalArgumentException") rfl hl.1 (by decide +kernel) (by decide) (fun w hw => X.ts w (List.mem_cons_of_mem _ (List.mem_append_right _ hw))) tb_63 tg_63 (X.ts (.classLink RX3 59 "java/lang/IllegalArgumentException") (by decide +kernel)) (X.ts (.initialized "java/lang/IllegalArgumentException") (by decide +kernel)) dX3_span_13 dX3_span_16 dX3_span_17 dX3_span_19 dX3_span_22 (Nat.le_of_ble_eq_true rfl) (Nat.le_of_ble_eq_true rfl) (Nat.le_of_ble_eq_true rfl) (Nat.le_of_ble_eq_true rfl)
set_option maxHeartbeats 4000000 in
set_option maxRecDepth 100000 in
theorem t_X3_count {l : Launch} (hlt : l.stackTraces = false) {D : va_G} {ay : Nat → ClassId} {ad : Nat → Nat} {a1 : Int32} {σ : Mem} {k : Nat} {sd : Nat → Nat} {Qc : Array Value → State → Outcome → State → Prop} (hI : adOK ad) (hF : F_X3_count a1 σ = some (Sum.inl k)) : vx_Met l yX3_count wsX3_count ({ frames := 6, cells := 1, slots := 6, locals := 82 } : Room) (va_Pc [.ref (ad 0), .int a1] (fun U => PP D ay (wC ay ad σ) U ∧ TX (AC ad) sd U)) Qc (vx_X (fun _ : Unit => True) (fun E _ t => E = exE k ∧ va_P D vwCl (wC ay ad σ) t.heap) (AC ad)) 1 6 (AC ad) := by
  refine g_startT (wd := wC ay ad) (A := AC ad) (own := RX3) (mL := 2) (rt := (some .int)) (by decide) rfl rfl (Nat.le_of_ble_eq_true rfl) ?_
  intro p e s m below meth c ls X hno hT hl
  have hl : lv_has ls 2 [(0, .ref (ad 0)), (1, .int a1)] := hl
  rw [F_X3_count] at hF
  refine g_iload_n X dX3_count_0 rfl (lv_at hl 1 rfl) ?_
  by_cases hc1_0 : a1 = 0
  · have hF := ite_t hF hc1_0
    refine g_tableIn (tgt := 44) X dX3_count_1 (by rw [hc1_0]; decide) (by rw [hc1_0]; decide) (by rw [hc1_0]; rfl) (by decide) ?_
    exact (inR_ne hF).elim
  have hF := ite_f hF hc1_0
  by_cases hc1_1 : a1 = 1
  · have hF := ite_t hF hc1_1
    refine g_tableIn (tgt := 52) X dX3_count_1 (by rw [hc1_1]; decide) (by rw [hc1_1]; decide) (by rw [hc1_1]; rfl) (by decide) ?_
    exact (inR_ne hF).elim
  have hF := ite_f hF hc1_1
  by_cases hc1_2 : a1 = 2
  · have hF := ite_t hF hc1_2
    refine g_tableIn (tgt := 60) X dX3_count_1 (by rw [hc1_2]; decide) (by rw [hc1_2]; decide) (by rw [hc1_2]; rfl) (by decide) ?_
    exact (inR_ne hF).elim
  have hF := ite_f hF hc1_2
  by_cases hc1_3 : a1 = 3
  · have hF := ite_t hF hc1_3
    refine g_tableIn (tgt := 68) X dX3_count_1 (by rw [hc1_3]; decide) (by rw [hc1_3]; decide) (by rw [hc1_3]; rfl) (by decide) ?_
    exact (inR_ne hF).elim
  have hF := ite_f hF hc1_3
  by_cases hc1_4 : a1 = 4
  · have hF := ite_t hF hc1_4
    refine g_tableIn (tgt := 76) X dX3_count_1 (by rw [hc1_4]; decide) (by rw [hc1_4]; decide) (by rw [hc1_4]; rfl) (by decide) ?_
    exact (inR_ne hF).elim
  have hF := ite_f hF hc1_4
  by_cases hc1_5 : a1 = 5
  · have hF := ite_t hF hc1_5
    refine g_tableIn (tgt := 85) X dX3_count_1 (by rw [hc1_5]; decide) (by rw [hc1_5]; decide) (by rw [hc1_5]; rfl) (by decide) ?_
    exact (inR_ne hF).elim
  have hF := ite_f hF hc1_5
  by_cases hc1_6 : a1 = 6
  · have hF := ite_t hF hc1_6
    refine g_tableIn (tgt := 101) X dX3_count_1 (by rw [hc1_6]; decide) (by rw [hc1_6]; decide) (by rw [hc1_6]; rfl) (by decide) ?_
    exact (inR_ne hF).elim
  have hF := ite_f hF hc1_6
  refine g_tableOut (tgt := 106) X dX3_count_1 (tb_out6 hc1_0 hc1_1 hc1_2 hc1_3 hc1_4 hc1_5 hc1_6) (by decide) ?_
  have e9 := inl_inj hF
  subst e9
  exact g_throw X hlt hno hT (text := "no such number") (E0 := exE 0) (cls := "java/lang/IllegalArgumentException") rfl hl.1 (by decide +kernel) (by decide) (fun w hw => X.ts w (List.mem_cons_of_mem _ (List.mem_append_right _ hw))) tb_63 tg_63 (X.ts (.classLink RX3 59 "java/lang/IllegalArgumentException") (by decide +kernel)) (X.ts (.initialized "java/lang/IllegalArgumentException") (by decide +kernel)) dX3_count_106 dX3_count_109 dX3_count_110 dX3_count_112 dX3_count_115 (Nat.le_of_ble_eq_true rfl) (Nat.le_of_ble_eq_true rfl) (Nat.le_of_ble_eq_true rfl) (Nat.le_of_ble_eq_true rfl)
set_option maxHeartbeats 4000000 in
set_option maxRecDepth 100000 in
theorem t_X3_setting {l : Launch} (hlt : l.stackTraces = false) {D : va_G} {ay : Nat → ClassId} {ad : Nat → Nat} {a1 : Int32} {σ : Mem} {k : Nat} {sd : Nat → Nat} {Qc : Array Value → State → Outcome → State → Prop} (hI : adOK ad) (hF : F_X3_setting a1 σ = some (Sum.inl k)) : vx_Met l yX3_setting wsX3_setting ({ frames := 6, cells := 1, slots := 6, locals := 82 } : Room) (va_Pc [.ref (ad 0), .int a1] (fun U => PP D ay (wC ay ad σ) U ∧ TX (AC ad) sd U)) Qc (vx_X (fun _ : Unit => True) (fun E _ t => E = exE k ∧ va_P D vwCl (wC ay ad σ) t.heap) (AC ad)) 1 6 (AC ad) := by
  refine g_startT (wd := wC ay ad) (A := AC ad) (own := RX3) (mL := 2) (rt := (some .int)) (by decide) rfl rfl (Nat.le_of_ble_eq_true rfl) ?_
  intro p e s m below meth c ls X hno hT hl
  have hl : lv_has ls 2 [(0, .ref (ad 0)), (1, .int a1)] := hl
  rw [F_X3_setting] at hF
  refine g_iload_n X dX3_setting_0 rfl (lv_at hl 1 rfl) ?_
  refine g_if_eq (tgt := 19) X dX3_setting_1 (by decide) (fun hc1 => ?_) (fun hc1 => ?_)
  · have hF := ite_t hF hc1
    exact (inR_ne hF).elim
  · have hF := ite_f hF hc1
    refine g_iload_n X dX3_setting_4 rfl (lv_at hl 1 rfl) ?_
    refine g_iconst (v := 1) X dX3_setting_5 (by decide) ?_
    refine g_icmp_eq (tgt := 19) X dX3_setting_6 (by decide) (fun hc6 => ?_) (fun hc6 => ?_)
    · have hF := ite_t hF hc6
      exact (inR_ne hF).elim
    · have hF := ite_f hF hc6
      have e9 := inl_inj hF
      subst e9
      exact g_throw X hlt hno hT (text := "no such setting") (E0 := exE 2) (cls := "java/lang/IndexOutOfBoundsException") rfl hl.1 (by decide +kernel) (by decide) (fun w hw => X.ts w (List.mem_cons_of_mem _ (List.mem_append_right _ hw))) tb_92 tg_92 (X.ts (.classLink RX3 88 "java/lang/IndexOutOfBoundsException") (by decide +kernel)) (X.ts (.initialized "java/lang/IndexOutOfBoundsException") (by decide +kernel)) dX3_setting_9 dX3_setting_12 dX3_setting_13 dX3_setting_15 dX3_setting_18 (Nat.le_of_ble_eq_true rfl) (Nat.le_of_ble_eq_true rfl) (Nat.le_of_ble_eq_true rfl) (Nat.le_of_ble_eq_true rfl)
set_option maxHeartbeats 4000000 in
set_option maxRecDepth 100000 in
theorem t_X3_leaderAfter {l : Launch} (hlt : l.stackTraces = false) {D : va_G} {ay : Nat → ClassId} {ad : Nat → Nat} {a1 : Int32} {σ : Mem} {k : Nat} {sd : Nat → Nat} {Qc : Array Value → State → Outcome → State → Prop} (hI : adOK ad) (hF : F_X3_leaderAfter a1 σ = some (Sum.inl k)) : vx_Met l yX3_leaderAfter wsX3_leaderAfter ({ frames := 6, cells := 1, slots := 6, locals := 82 } : Room) (va_Pc [.ref (ad 0), .int a1] (fun U => PP D ay (wC ay ad σ) U ∧ TX (AC ad) sd U)) Qc (vx_X (fun _ : Unit => True) (fun E _ t => E = exE k ∧ va_P D vwCl (wC ay ad σ) t.heap) (AC ad)) 1 6 (AC ad) := by
  refine g_startT (wd := wC ay ad) (A := AC ad) (own := RX3) (mL := 2) (rt := (some .int)) (by decide) rfl rfl (Nat.le_of_ble_eq_true rfl) ?_
  intro p e s m below meth c ls X hno hT hl
  have hl : lv_has ls 2 [(0, .ref (ad 0)), (1, .int a1)] := hl
  rw [F_X3_leaderAfter] at hF
  refine g_iload_n X dX3_leaderAfter_0 rfl (lv_at hl 1 rfl) ?_
  refine g_iconst (v := 0) X dX3_leaderAfter_1 (by decide) ?_
  refine g_sipush (v := 9999) X dX3_leaderAfter_2 (by decide) ?_
  obtain ⟨r5, hr5, hF⟩ := obind hF
  refine k_Sz X (As := [.int a1, .int (0 : Int32), .int (9999 : Int32)]) (rest := []) (c_X3_isWithin hI hr5) (va_cwS 3 X.ts gX3_leaderAfter_X3_isWithin rfl rfl rfl (by decide +kernel) ⟨Nat.le_of_ble_eq_true rfl, Nat.le_of_ble_eq_true rfl⟩) rfl hl.1 rfl (Nat.le_of_ble_eq_true rfl) dX3_leaderAfter_5 (fun hz5 => ?_)
  refine g_if_ne (tgt := 21) X dX3_leaderAfter_8 (by decide) (fun hc8 => ?_) (fun hc8 => ?_)
  · have hF := ite_t hF hc8
    exact (inR_ne hF).elim
  · have hF := ite_n hF hc8
    have e9 := inl_inj hF
    subst e9
    exact g_throw X hlt hno hT (text := "after is out of range") (E0 := exE 0) (cls := "java/lang/IllegalArgumentException") rfl hl.1 (by decide +kernel) (by decide) (fun w hw => X.ts w (List.mem_cons_of_mem _ (List.mem_append_right _ hw))) tb_63 tg_63 (X.ts (.classLink RX3 59 "java/lang/IllegalArgumentException") (by decide +kernel)) (X.ts (.initialized "java/lang/IllegalArgumentException") (by decide +kernel)) dX3_leaderAfter_11 dX3_leaderAfter_14 dX3_leaderAfter_15 dX3_leaderAfter_17 dX3_leaderAfter_20 (Nat.le_of_ble_eq_true rfl) (Nat.le_of_ble_eq_true rfl) (Nat.le_of_ble_eq_true rfl) (Nat.le_of_ble_eq_true rfl)
set_option maxHeartbeats 4000000 in
set_option maxRecDepth 100000 in
theorem t_X3_overtakes {l : Launch} (hlt : l.stackTraces = false) {D : va_G} {ay : Nat → ClassId} {ad : Nat → Nat} {a1 : Int32} {a2 : Int32} {a3 : Int32} {σ : Mem} {k : Nat} {sd : Nat → Nat} {Qc : Array Value → State → Outcome → State → Prop} (hI : adOK ad) (hF : F_X3_overtakes a1 a2 a3 σ = some (Sum.inl k)) : vx_Met l yX3_overtakes wsX3_overtakes ({ frames := 6, cells := 1, slots := 6, locals := 82 } : Room) (va_Pc [.ref (ad 0), .int a1, .int a2, .int a3] (fun U => PP D ay (wC ay ad σ) U ∧ TX (AC ad) sd U)) Qc (vx_X (fun _ : Unit => True) (fun E _ t => E = exE k ∧ va_P D vwCl (wC ay ad σ) t.heap) (AC ad)) 1 6 (AC ad) := by
  refine g_startT (wd := wC ay ad) (A := AC ad) (own := RX3) (mL := 7) (rt := (some .int)) (by decide) rfl rfl (Nat.le_of_ble_eq_true rfl) ?_
  intro p e s m below meth c ls X hno hT hl
  have hl : lv_has ls 7 [(0, .ref (ad 0)), (1, .int a1), (2, .int a2), (3, .int a3)] := hl
  rw [F_X3_overtakes] at hF
  refine g_aload_n X dX3_overtakes_0 rfl (lv_at hl 0 rfl) ?_
  refine g_get X 0 (lt_obj) in_X3_overtakes_X3 rfl 0 (by decide) (X.ts (.fieldLink RX3 12 "LeadTimes" "now" "LLeadTimes$State;") (by decide +kernel)) rfl rfl dX3_overtakes_1 ?_
  refine g_iload_n X dX3_overtakes_4 rfl (lv_at hl 1 rfl) ?_
  obtain ⟨r5, hr5, hF⟩ := obind hF
  refine k_Vz X (As := [.int a1]) (rest := []) (c_X1_has hI isSt6 hr5) (cwV 1 X.ts gX3_overtakes_X1_has rfl rfl rfl (by decide +kernel) ⟨Nat.le_of_ble_eq_true rfl, Nat.le_of_ble_eq_true rfl⟩) ⟨6, 1, _, _, st_obj isSt6, rfl, rfl⟩ rfl hl.1 rfl (Nat.le_of_ble_eq_true rfl) dX3_overtakes_5 (fun hz5 => ?_)
  refine g_if_eq (tgt := 22) X dX3_overtakes_8 (by decide) (fun hc8 => ?_) (fun hc8 => ?_)
  · have hF := ite_t hF hc8
    have e9 := inl_inj hF
    subst e9
    exact g_throw X hlt hno hT (text := "no mover on this slot") (E0 := exE 2) (cls := "java/lang/IndexOutOfBoundsException") rfl hl.1 (by decide +kernel) (by decide) (fun w hw => X.ts w (List.mem_cons_of_mem _ (List.mem_append_left _ (List.mem_append_right _ hw)))) tb_92 tg_92 (X.ts (.classLink RX3 88 "java/lang/IndexOutOfBoundsException") (by decide +kernel)) (X.ts (.initialized "java/lang/IndexOutOfBoundsException") (by decide +kernel)) dX3_overtakes_22 dX3_overtakes_25 dX3_overtakes_26 dX3_overtakes_28 dX3_overtakes_31 (Nat.le_of_ble_eq_true rfl) (Nat.le_of_ble_eq_true rfl) (Nat.le_of_ble_eq_true rfl) (Nat.le_of_ble_eq_true rfl)
  · have hF := ite_f hF hc8
    refine g_aload_n X dX3_overtakes_11 rfl (lv_at hl 0 rfl) ?_
    refine g_get X 0 (lt_obj) in_X3_overtakes_X3 rfl 0 (by decide) (X.ts (.fieldLink RX3 12 "LeadTimes" "now" "LLeadTimes$State;") (by decide +kernel)) rfl rfl dX3_overtakes_12 ?_
    refine g_iload_n X dX3_overtakes_15 rfl (lv_at hl 2 rfl) ?_
    obtain ⟨r16, hr16, hF⟩ := obind hF
    refine k_Vz X (As := [.int a2]) (rest := []) (c_X1_has hI isSt6 hr16) (cwV 1 X.ts gX3_overtakes_X1_has rfl rfl rfl (by decide +kernel) ⟨Nat.le_of_ble_eq_true rfl, Nat.le_of_ble_eq_true rfl⟩) ⟨6, 1, _, _, st_obj isSt6, rfl, rfl⟩ rfl hl.1 rfl (Nat.le_of_ble_eq_true rfl) dX3_overtakes_16 (fun hz16 => ?_)
    refine g_if_ne (tgt := 32) X dX3_overtakes_19 (by decide) (fun hc19 => ?_) (fun hc19 => ?_)
    · have hF := ite_t hF hc19
      refine g_iload_n X dX3_overtakes_32 rfl (lv_at hl 3 rfl) ?_
      refine g_if_eq (tgt := 51) X dX3_overtakes_33 (by decide) (fun hc33 => ?_) (fun hc33 => ?_)
      · have hF := ite_t hF hc33
        exact (inR_ne hF).elim
      · have hF := ite_f hF hc33
        refine g_iload_n X dX3_overtakes_36 rfl (lv_at hl 3 rfl) ?_
        refine g_iconst (v := 1) X dX3_overtakes_37 (by decide) ?_
        refine g_icmp_eq (tgt := 51) X dX3_overtakes_38 (by decide) (fun hc38 => ?_) (fun hc38 => ?_)
        · have hF := ite_t hF hc38
          exact (inR_ne hF).elim
        · have hF := ite_f hF hc38
          have e9 := inl_inj hF
          subst e9
          exact g_throw X hlt hno hT (text := "no such property") (E0 := exE 0) (cls := "java/lang/IllegalArgumentException") rfl hl.1 (by decide +kernel) (by decide) (fun w hw => X.ts w (List.mem_cons_of_mem _ (List.mem_append_right _ hw))) tb_63 tg_63 (X.ts (.classLink RX3 59 "java/lang/IllegalArgumentException") (by decide +kernel)) (X.ts (.initialized "java/lang/IllegalArgumentException") (by decide +kernel)) dX3_overtakes_41 dX3_overtakes_44 dX3_overtakes_45 dX3_overtakes_47 dX3_overtakes_50 (Nat.le_of_ble_eq_true rfl) (Nat.le_of_ble_eq_true rfl) (Nat.le_of_ble_eq_true rfl) (Nat.le_of_ble_eq_true rfl)
    · have hF := ite_n hF hc19
      have e9 := inl_inj hF
      subst e9
      exact g_throw X hlt hno hT (text := "no mover on this slot") (E0 := exE 2) (cls := "java/lang/IndexOutOfBoundsException") rfl hl.1 (by decide +kernel) (by decide) (fun w hw => X.ts w (List.mem_cons_of_mem _ (List.mem_append_left _ (List.mem_append_right _ hw)))) tb_92 tg_92 (X.ts (.classLink RX3 88 "java/lang/IndexOutOfBoundsException") (by decide +kernel)) (X.ts (.initialized "java/lang/IndexOutOfBoundsException") (by decide +kernel)) dX3_overtakes_22 dX3_overtakes_25 dX3_overtakes_26 dX3_overtakes_28 dX3_overtakes_31 (Nat.le_of_ble_eq_true rfl) (Nat.le_of_ble_eq_true rfl) (Nat.le_of_ble_eq_true rfl) (Nat.le_of_ble_eq_true rfl)
set_option maxHeartbeats 4000000 in
set_option maxRecDepth 100000 in
theorem t_X3_turnsIn {l : Launch} (hlt : l.stackTraces = false) {D : va_G} {ay : Nat → ClassId} {ad : Nat → Nat} {a1 : Int32} {σ : Mem} {k : Nat} {sd : Nat → Nat} {Qc : Array Value → State → Outcome → State → Prop} (hI : adOK ad) (hF : F_X3_turnsIn a1 σ = some (Sum.inl k)) : vx_Met l yX3_turnsIn wsX3_turnsIn ({ frames := 6, cells := 1, slots := 6, locals := 82 } : Room) (va_Pc [.ref (ad 0), .int a1] (fun U => PP D ay (wC ay ad σ) U ∧ TX (AC ad) sd U)) Qc (vx_X (fun _ : Unit => True) (fun E _ t => E = exE k ∧ va_P D vwCl (wC ay ad σ) t.heap) (AC ad)) 1 6 (AC ad) := by
  refine g_startT (wd := wC ay ad) (A := AC ad) (own := RX3) (mL := 4) (rt := (some .int)) (by decide) rfl rfl (Nat.le_of_ble_eq_true rfl) ?_
  intro p e s m below meth c ls X hno hT hl
  have hl : lv_has ls 4 [(0, .ref (ad 0)), (1, .int a1)] := hl
  rw [F_X3_turnsIn] at hF
  refine g_iload_n X dX3_turnsIn_0 rfl (lv_at hl 1 rfl) ?_
  refine g_iconst (v := 0) X dX3_turnsIn_1 (by decide) ?_
  refine g_sipush (v := 999) X dX3_turnsIn_2 (by decide) ?_
  obtain ⟨r5, hr5, hF⟩ := obind hF
  refine k_Sz X (As := [.int a1, .int (0 : Int32), .int (999 : Int32)]) (rest := []) (c_X3_isWithin hI hr5) (va_cwS 3 X.ts gX3_turnsIn_X3_isWithin rfl rfl rfl (by decide +kernel) ⟨Nat.le_of_ble_eq_true rfl, Nat.le_of_ble_eq_true rfl⟩) rfl hl.1 rfl (Nat.le_of_ble_eq_true rfl) dX3_turnsIn_5 (fun hz5 => ?_)
  refine g_if_ne (tgt := 21) X dX3_turnsIn_8 (by decide) (fun hc8 => ?_) (fun hc8 => ?_)
  · have hF := ite_t hF hc8
    exact (inR_ne hF).elim
  · have hF := ite_n hF hc8
    have e9 := inl_inj hF
    subst e9
    exact g_throw X hlt hno hT (text := "by is out of range") (E0 := exE 0) (cls := "java/lang/IllegalArgumentException") rfl hl.1 (by decide +kernel) (by decide) (fun w hw => X.ts w (List.mem_cons_of_mem _ (List.mem_append_right _ hw))) tb_63 tg_63 (X.ts (.classLink RX3 59 "java/lang/IllegalArgumentException") (by decide +kernel)) (X.ts (.initialized "java/lang/IllegalArgumentException") (by decide +kernel)) dX3_turnsIn_11 dX3_turnsIn_14 dX3_turnsIn_15 dX3_turnsIn_17 dX3_turnsIn_20 (Nat.le_of_ble_eq_true rfl) (Nat.le_of_ble_eq_true rfl) (Nat.le_of_ble_eq_true rfl) (Nat.le_of_ble_eq_true rfl)
set_option maxHeartbeats 4000000 in
set_option maxRecDepth 100000 in
theorem t_X3_leastSpeed {l : Launch} (hlt : l.stackTraces = false) {D : va_G} {ay : Nat → ClassId} {ad : Nat → Nat} {a1 : Int32} {a2 : Int32} {σ : Mem} {k : Nat} {sd : Nat → Nat} {Qc : Array Value → State → Outcome → State → Prop} (hI : adOK ad) (hF : F_X3_leastSpeed a1 a2 σ = some (Sum.inl k)) : vx_Met l yX3_leastSpeed wsX3_leastSpeed ({ frames := 6, cells := 1, slots := 6, locals := 82 } : Room) (va_Pc [.ref (ad 0), .int a1, .int a2] (fun U => PP D ay (wC ay ad σ) U ∧ TX (AC ad) sd U)) Qc (vx_X (fun _ : Unit => True) (fun E _ t => E = exE k ∧ va_P D vwCl (wC ay ad σ) t.heap) (AC ad)) 1 6 (AC ad) := by
  refine g_startT (wd := wC ay ad) (A := AC ad) (own := RX3) (mL := 4) (rt := (some .int)) (by decide) rfl rfl (Nat.le_of_ble_eq_true rfl) ?_
  intro p e s m below meth c ls X hno hT hl
  have hl : lv_has ls 4 [(0, .ref (ad 0)), (1, .int a1), (2, .int a2)] := hl
  rw [F_X3_leastSpeed] at hF
  refine g_aload_n X dX3_leastSpeed_0 rfl (lv_at hl 0 rfl) ?_
  refine g_get X 0 (lt_obj) in_X3_leastSpeed_X3 rfl 0 (by decide) (X.ts (.fieldLink RX3 12 "LeadTimes" "now" "LLeadTimes$State;") (by decide +kernel)) rfl rfl dX3_leastSpeed_1 ?_
  refine g_iload_n X dX3_leastSpeed_4 rfl (lv_at hl 1 rfl) ?_
  obtain ⟨r5, hr5, hF⟩ := obind hF
  refine k_Vz X (As := [.int a1]) (rest := []) (c_X1_has hI isSt6 hr5) (cwV 1 X.ts gX3_leastSpeed_X1_has rfl rfl rfl (by decide +kernel) ⟨Nat.le_of_ble_eq_true rfl, Nat.le_of_ble_eq_true rfl⟩) ⟨6, 1, _, _, st_obj isSt6, rfl, rfl⟩ rfl hl.1 rfl (Nat.le_of_ble_eq_true rfl) dX3_leastSpeed_5 (fun hz5 => ?_)
  refine g_if_ne (tgt := 21) X dX3_leastSpeed_8 (by decide) (fun hc8 => ?_) (fun hc8 => ?_)
  · have hF := ite_t hF hc8
    refine g_iload_n X dX3_leastSpeed_21 rfl (lv_at hl 2 rfl) ?_
    refine g_iconst (v := 0) X dX3_leastSpeed_22 (by decide) ?_
    refine g_sipush (v := 999) X dX3_leastSpeed_23 (by decide) ?_
    obtain ⟨r26, hr26, hF⟩ := obind hF
    refine k_Sz X (As := [.int a2, .int (0 : Int32), .int (999 : Int32)]) (rest := []) (c_X3_isWithin hI hr26) (va_cwS 3 X.ts gX3_leastSpeed_X3_isWithin rfl rfl rfl (by decide +kernel) ⟨Nat.le_of_ble_eq_true rfl, Nat.le_of_ble_eq_true rfl⟩) rfl hl.1 rfl (Nat.le_of_ble_eq_true rfl) dX3_leastSpeed_26 (fun hz26 => ?_)
    refine g_if_ne (tgt := 42) X dX3_leastSpeed_29 (by decide) (fun hc29 => ?_) (fun hc29 => ?_)
    · have hF := ite_t hF hc29
      exact (inR_ne hF).elim
    · have hF := ite_n hF hc29
      have e9 := inl_inj hF
      subst e9
      exact g_throw X hlt hno hT (text := "by is out of range") (E0 := exE 0) (cls := "java/lang/IllegalArgumentException") rfl hl.1 (by decide +kernel) (by decide) (fun w hw => X.ts w (List.mem_cons_of_mem _ (List.mem_append_right _ hw))) tb_63 tg_63 (X.ts (.classLink RX3 59 "java/lang/IllegalArgumentException") (by decide +kernel)) (X.ts (.initialized "java/lang/IllegalArgumentException") (by decide +kernel)) dX3_leastSpeed_32 dX3_leastSpeed_35 dX3_leastSpeed_36 dX3_leastSpeed_38 dX3_leastSpeed_41 (Nat.le_of_ble_eq_true rfl) (Nat.le_of_ble_eq_true rfl) (Nat.le_of_ble_eq_true rfl) (Nat.le_of_ble_eq_true rfl)
  · have hF := ite_n hF hc8
    have e9 := inl_inj hF
    subst e9
    exact g_throw X hlt hno hT (text := "no mover on this slot") (E0 := exE 2) (cls := "java/lang/IndexOutOfBoundsException") rfl hl.1 (by decide +kernel) (by decide) (fun w hw => X.ts w (List.mem_cons_of_mem _ (List.mem_append_left _ (List.mem_append_right _ hw)))) tb_92 tg_92 (X.ts (.classLink RX3 88 "java/lang/IndexOutOfBoundsException") (by decide +kernel)) (X.ts (.initialized "java/lang/IndexOutOfBoundsException") (by decide +kernel)) dX3_leastSpeed_11 dX3_leastSpeed_14 dX3_leastSpeed_15 dX3_leastSpeed_17 dX3_leastSpeed_20 (Nat.le_of_ble_eq_true rfl) (Nat.le_of_ble_eq_true rfl) (Nat.le_of_ble_eq_true rfl) (Nat.le_of_ble_eq_true rfl)
set_option maxHeartbeats 4000000 in
set_option maxRecDepth 100000 in
theorem t_X3_leadShare {l : Launch} (hlt : l.stackTraces = false) {D : va_G} {ay : Nat → ClassId} {ad : Nat → Nat} {a1 : Int32} {σ : Mem} {k : Nat} {sd : Nat → Nat} {Qc : Array Value → State → Outcome → State → Prop} (hI : adOK ad) (hF : F_X3_leadShare a1 σ = some (Sum.inl k)) : vx_Met l yX3_leadShare wsX3_leadShare ({ frames := 6, cells := 1, slots := 6, locals := 82 } : Room) (va_Pc [.ref (ad 0), .int a1] (fun U => PP D ay (wC ay ad σ) U ∧ TX (AC ad) sd U)) Qc (vx_X (fun _ : Unit => True) (fun E _ t => E = exE k ∧ va_P D vwCl (wC ay ad σ) t.heap) (AC ad)) 1 6 (AC ad) := by
  refine g_startT (wd := wC ay ad) (A := AC ad) (own := RX3) (mL := 7) (rt := (some .double)) (by decide) rfl rfl (Nat.le_of_ble_eq_true rfl) ?_
  intro p e s m below meth c ls X hno hT hl
  have hl : lv_has ls 7 [(0, .ref (ad 0)), (1, .int a1)] := hl
  rw [F_X3_leadShare] at hF
  refine g_aload_n X dX3_leadShare_0 rfl (lv_at hl 0 rfl) ?_
  refine g_get X 0 (lt_obj) in_X3_leadShare_X3 rfl 0 (by decide) (X.ts (.fieldLink RX3 12 "LeadTimes" "now" "LLeadTimes$State;") (by decide +kernel)) rfl rfl dX3_leadShare_1 ?_
  refine g_iload_n X dX3_leadShare_4 rfl (lv_at hl 1 rfl) ?_
  obtain ⟨r5, hr5, hF⟩ := obind hF
  refine k_Vz X (As := [.int a1]) (rest := []) (c_X1_has hI isSt6 hr5) (cwV 1 X.ts gX3_leadShare_X1_has rfl rfl rfl (by decide +kernel) ⟨Nat.le_of_ble_eq_true rfl, Nat.le_of_ble_eq_true rfl⟩) ⟨6, 1, _, _, st_obj isSt6, rfl, rfl⟩ rfl hl.1 rfl (Nat.le_of_ble_eq_true rfl) dX3_leadShare_5 (fun hz5 => ?_)
  refine g_if_ne (tgt := 21) X dX3_leadShare_8 (by decide) (fun hc8 => ?_) (fun hc8 => ?_)
  · have hF := ite_t hF hc8
    exact (inR_ne hF).elim
  · have hF := ite_n hF hc8
    have e9 := inl_inj hF
    subst e9
    exact g_throw X hlt hno hT (text := "no mover on this slot") (E0 := exE 2) (cls := "java/lang/IndexOutOfBoundsException") rfl hl.1 (by decide +kernel) (by decide) (fun w hw => X.ts w (List.mem_cons_of_mem _ (List.mem_append_right _ hw))) tb_92 tg_92 (X.ts (.classLink RX3 88 "java/lang/IndexOutOfBoundsException") (by decide +kernel)) (X.ts (.initialized "java/lang/IndexOutOfBoundsException") (by decide +kernel)) dX3_leadShare_11 dX3_leadShare_14 dX3_leadShare_15 dX3_leadShare_17 dX3_leadShare_20 (Nat.le_of_ble_eq_true rfl) (Nat.le_of_ble_eq_true rfl) (Nat.le_of_ble_eq_true rfl) (Nat.le_of_ble_eq_true rfl)
