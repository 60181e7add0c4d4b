def F_Jxe99ae_isNaN_b9ae7 (a0 : UInt64) : Option Int32 := (if (Op.cmpValue (FP.dcmp a0 a0) .l) = 0 then some (0 : Int32) else some (1 : Int32))
set_option maxHeartbeats 4000000 in
set_option maxRecDepth 100000 in
theorem c_Jxe99ae_isNaN_b9ae7 {l : Launch} {D : va_G} {ay : Nat → ClassId} {ad : Nat → Nat} {a0 : UInt64} {σ : (Mem × Int64)} {res : Int32} (hI : amOK ad) (hF : F_Jxe99ae_isNaN_b9ae7 a0 = some res) : Met l yJxe99ae_isNaN_b9ae7 wsJxe99ae_isNaN_b9ae7 ({ frames := 0, cells := 0, slots := 0, locals := 0 } : Room) (va_Pc [.double a0] (PP D ay (wM ay ad σ))) (va_Qi (pZ res σ) (fun τ => PP D ay (wM ay ad τ)) (AM ad)) 0 0 (AM ad) := by
  refine g_startF (wd := wM ay ad) (A := AM ad) (own := RJxe99ae) (mL := 2) (rt := (some .boolean)) (by decide +kernel) rfl rfl (Nat.le_of_ble_eq_true rfl) ?_
  intro p e s m below meth c ls X hl
  have hl : lv_has ls 2 [(0, .double a0)] := hl
  rw [F_Jxe99ae_isNaN_b9ae7] at hF
  refine g_dload_n X dJxe99ae_isNaN_b9ae7_0 rfl (lv_at hl 0 rfl) ?_
  refine g_dload_n X dJxe99ae_isNaN_b9ae7_1 rfl (lv_at hl 0 rfl) ?_
  refine g_dcmp X dJxe99ae_isNaN_b9ae7_2 ?_
  refine g_if_eq (tgt := 10) X dJxe99ae_isNaN_b9ae7_3 (by decide) (fun hc3 => ?_) (fun hc3 => ?_)
  · have hF := ite_t hF hc3
    refine g_iconst (v := 0) X dJxe99ae_isNaN_b9ae7_10 (by decide) ?_
    exact g_zret X rfl (pZ_mk (some_inj hF) rfl) dJxe99ae_isNaN_b9ae7_11
  · have hF := ite_f hF hc3
    refine g_iconst (v := 1) X dJxe99ae_isNaN_b9ae7_6 (by decide) ?_
    refine g_goto (tgt := 11) X dJxe99ae_isNaN_b9ae7_7 (by decide) ?_
    exact g_zret X rfl (pZ_mk (some_inj hF) rfl) dJxe99ae_isNaN_b9ae7_11
def F_Jxe99ae_doubleToLongBits_ccdee (a0 : UInt64) : Option Int64 := Option.bind (F_Jxe99ae_isNaN_b9ae7 a0) (fun r1 => (if ¬ r1 = 0 then some (9221120237041090560 : Int64) else some a0.toInt64))
set_option maxHeartbeats 4000000 in
set_option maxRecDepth 100000 in
theorem c_Jxe99ae_doubleToLongBits_ccdee {l : Launch} {D : va_G} {ay : Nat → ClassId} {ad : Nat → Nat} {a0 : UInt64} {σ : (Mem × Int64)} {res : Int64} (hI : amOK ad) (hF : F_Jxe99ae_doubleToLongBits_ccdee a0 = some res) : Met l yJxe99ae_doubleToLongBits_ccdee wsJxe99ae_doubleToLongBits_ccdee ({ frames := 1, cells := 0, slots := 0, locals := 21 } : Room) (va_Pc [.double a0] (PP D ay (wM ay ad σ))) (va_Ql (pP res σ) (fun τ => PP D ay (wM ay ad τ)) (AM ad)) 0 0 (AM ad) := by
  refine g_startF (wd := wM ay ad) (A := AM ad) (own := RJxe99ae) (mL := 2) (rt := (some .long)) (by decide +kernel) rfl rfl (Nat.le_of_ble_eq_true rfl) ?_
  intro p e s m below meth c ls X hl
  have hl : lv_has ls 2 [(0, .double a0)] := hl
  rw [F_Jxe99ae_doubleToLongBits_ccdee] at hF
  refine g_dload_n X dJxe99ae_doubleToLongBits_ccdee_0 rfl (lv_at hl 0 rfl) ?_
  obtain ⟨r1, hr1, hF⟩ := obind hF
  refine k_Sz X (As := [.double a0]) (rest := []) (c_Jxe99ae_isNaN_b9ae7 hI hr1) (va_cwS 1 X.ts gJxe99ae_doubleToLongBits_ccdee_Jxe99ae_isNaN_b9ae7 rfl rfl rfl (by decide +kernel) ⟨Nat.le_of_ble_eq_true rfl, Nat.le_of_ble_eq_true rfl⟩) rfl hl.1 rfl (Nat.le_of_ble_eq_true rfl) dJxe99ae_doubleToLongBits_ccdee_1 (fun hz1 => ?_)
  refine g_if_ne (tgt := 12) X dJxe99ae_doubleToLongBits_ccdee_4 (by decide) (fun hc4 => ?_) (fun hc4 => ?_)
  · have hF := ite_t hF hc4
    refine g_ldc2 X dJxe99ae_doubleToLongBits_ccdee_12 (X.ts (.constantLong RJxe99ae 137 (9221120237041090560)) (by decide +kernel)) ?_
    exact g_lret X (pP_mk (some_inj hF)) dJxe99ae_doubleToLongBits_ccdee_15
  · have hF := ite_n hF hc4
    refine g_dload_n X dJxe99ae_doubleToLongBits_ccdee_7 rfl (lv_at hl 0 rfl) ?_
    refine g_rawbits X hl.1 (X.ts (.methodLink RJxe99ae 134 ⟨"java/lang/Double", "doubleToRawLongBits", "(D)J"⟩) (by decide +kernel)) (X.ts (.native ⟨"java/lang/Double", "doubleToRawLongBits", "(D)J"⟩) (by decide +kernel)) (X.ts (.static ⟨"java/lang/Double", "doubleToRawLongBits", "(D)J"⟩) (by decide +kernel)) (X.ts (.initialized "java/lang/Double") (by decide +kernel)) (Nat.le_of_ble_eq_true rfl) (Nat.le_of_ble_eq_true rfl) dJxe99ae_doubleToLongBits_ccdee_8 ?_
    exact g_lret X (pP_mk (some_inj hF)) dJxe99ae_doubleToLongBits_ccdee_11
def L_X4_mixMover_8 (a1 : Int32) : Nat → Int32 → (Mem × Int64) → Option (Mem × Int64)
  | 0, _, _ => none
  | fu + 1, a2, σ => (if (7 : Int32) ≤ a2 then some σ else Option.bind (F_X4_moverOf a1 a2 σ) (fun r18 => Option.bind (F_X4_mix r18.1.toInt64 r18.2) (fun r22 => L_X4_mixMover_8 a1 fu (a2 + 1) r22)))
set_option maxHeartbeats 4000000 in
set_option maxRecDepth 100000 in
theorem w_X4_mixMover_8 {D : va_G} {ay : Nat → ClassId} {ad : Nat → Nat} {p : Program} {l : Launch} {e : Env} {s : State} {m : MethodId} {args : Array Value} {below : List Frame} {meth : Method} {c : Code} {Q : State → Prop} {a1 : Int32} {res : (Mem × Int64)} (X : CX D ay p s m args meth c cX4_mixMover 3 RX4 none wsX4_mixMover) (hI : amOK ad) (K : ∀ ls : Array Slot, lv_has ls 3 [(0, .ref (ad 0)), (1, .int a1)] → GW D (wM ay ad) (AM ad) p l e ({ frames := 8, cells := 0, slots := 0, locals := 185 } : Room) s m args below meth c Q res (F0 m 31 ls [])) : ∀ (fu : Nat) (a2 : Int32) (σ : (Mem × Int64)), L_X4_mixMover_8 a1 fu a2 σ = some res → ∀ ls : Array Slot, lv_has ls 3 [(0, .ref (ad 0)), (1, .int a1), (2, .int a2)] → GW D (wM ay ad) (AM ad) p l e ({ frames := 8, cells := 0, slots := 0, locals := 185 } : Room) s m args below meth c Q σ (F0 m 8 ls []) := by
  intro fu
  induction fu with
  | zero =>
    intro a2 σ hF ls hl
    rw [L_X4_mixMover_8] at hF
    cases hF
  | succ fu ih =>
    intro a2 σ hF ls hl
    rw [L_X4_mixMover_8] at hF
    refine g_iload_n X dX4_mixMover_8 rfl (lv_at hl 2 rfl) ?_
    refine g_bipush (v := 7) X dX4_mixMover_9 (by decide) ?_
    refine g_icmp_ge (tgt := 31) X dX4_mixMover_11 (by decide) (fun hc11 => ?_) (fun hc11 => ?_)
    · have hF := ite_t hF hc11
      have e8 := some_inj hF
      subst e8
      exact K ls (lv_sub hl [0, 1] rfl)
    · have hF := ite_f hF hc11
      refine g_aload_n X dX4_mixMover_14 rfl (lv_at hl 0 rfl) ?_
      refine g_aload_n X dX4_mixMover_15 rfl (lv_at hl 0 rfl) ?_
      refine g_iload_n X dX4_mixMover_16 rfl (lv_at hl 1 rfl) ?_
      refine g_iload_n X dX4_mixMover_17 rfl (lv_at hl 2 rfl) ?_
      obtain ⟨r18, hr18, hF⟩ := obind hF
      refine k_Vie X (As := [.int a1, .int a2]) (rest := [.ref (ad 0)]) (c_X4_moverOf hI hr18) (cwV 2 X.ts gX4_mixMover_X4_moverOf rfl rfl rfl (by decide +kernel) ⟨Nat.le_of_ble_eq_true rfl, Nat.le_of_ble_eq_true rfl⟩) ⟨0, 4, _, _, mo_obj, rfl, rfl⟩ rfl hl.1 rfl (Nat.le_of_ble_eq_true rfl) dX4_mixMover_18 ?_
      refine g_i2l X dX4_mixMover_21 ?_
      obtain ⟨r22, hr22, hF⟩ := obind hF
      refine k_Vv X (As := [.long r18.1.toInt64]) (rest := []) (c_X4_mix hI hr22) (cwV 1 X.ts gX4_mixMover_X4_mix rfl rfl rfl (by decide +kernel) ⟨Nat.le_of_ble_eq_true rfl, Nat.le_of_ble_eq_true rfl⟩) ⟨0, 4, _, _, mo_obj, rfl, rfl⟩ rfl hl.1 rfl (Nat.le_of_ble_eq_true rfl) dX4_mixMover_22 ?_
      refine g_iinc (v := a2 + 1) (lv' := [(2, _), (0, _), (1, _)]) X dX4_mixMover_25 hl (k := 2) rfl rfl (by decide) rfl (fun ls hl => ?_)
      refine g_goto (tgt := 8) X dX4_mixMover_28 (by decide) ?_
      exact ih (a2 + 1) r22 hF ls (lv_sub hl [1, 2, 0] rfl)
def F_X4_mixMover (a1 : Int32) (σ : (Mem × Int64)) : Option (Mem × Int64) := Option.bind (F_X4_mix a1.toInt64 σ) (fun r3 => Option.bind (L_X4_mixMover_8 a1 FU (0 : Int32) r3) (fun v8 : (Mem × Int64) => Option.bind (F_X4_speedFor a1 (10 : Int32) v8) (fun r36 => Option.bind (F_X4_mix r36.1.toInt64 r36.2) (fun r40 => Option.bind (F_X4_shareOf a1 r40) (fun r46 => Option.bind (F_Jxe99ae_doubleToLongBits_ccdee r46.1) (fun r49 => Option.bind (F_X4_mix r49 r46.2) (fun r52 => some r52)))))))
set_option maxHeartbeats 4000000 in
set_option maxRecDepth 100000 in
theorem c_X4_mixMover {l : Launch} {D : va_G} {ay : Nat → ClassId} {ad : Nat → Nat} {a1 : Int32} {σ : (Mem × Int64)} {res : (Mem × Int64)} (hI : amOK ad) (hF : F_X4_mixMover a1 σ = some res) : Met l yX4_mixMover wsX4_mixMover ({ frames := 8, cells := 0, slots := 0, locals := 185 } : Room) (va_Pc [.ref (ad 0), .int a1] (PP D ay (wM ay ad σ))) (va_Qv (pV res) (fun τ => PP D ay (wM ay ad τ)) (AM ad)) 0 0 (AM ad) := by
  refine g_start (wd := wM ay ad) (A := AM ad) (own := RX4) (mL := 3) (rt := none) (by decide) rfl rfl (Nat.le_of_ble_eq_true rfl) ?_
  intro p e s m below meth c ls X hl
  have hl : lv_has ls 3 [(0, .ref (ad 0)), (1, .int a1)] := hl
  rw [F_X4_mixMover] at hF
  refine g_aload_n X dX4_mixMover_0 rfl (lv_at hl 0 rfl) ?_
  refine g_iload_n X dX4_mixMover_1 rfl (lv_at hl 1 rfl) ?_
  refine g_i2l X dX4_mixMover_2 ?_
  obtain ⟨r3, hr3, hF⟩ := obind hF
  refine k_Vv X (As := [.long a1.toInt64]) (rest := []) (c_X4_mix hI hr3) (cwV 1 X.ts gX4_mixMover_X4_mix rfl rfl rfl (by decide +kernel) ⟨Nat.le_of_ble_eq_true rfl, Nat.le_of_ble_eq_true rfl⟩) ⟨0, 4, _, _, mo_obj, rfl, rfl⟩ rfl hl.1 rfl (Nat.le_of_ble_eq_true rfl) dX4_mixMover_3 ?_
  refine g_iconst (v := 0) X dX4_mixMover_6 (by decide) ?_
  refine g_istore_n (lv' := [(2, _), (0, _), (1, _)]) X dX4_mixMover_7 rfl hl (by decide) rfl (fun ls hl => ?_)
  obtain ⟨v8, hL8, hF⟩ := obind hF
  refine w_X4_mixMover_8 X hI (fun ls hl => ?_) FU (0 : Int32) r3 hL8 ls (lv_sub hl [1, 2, 0] rfl)
  refine g_aload_n X dX4_mixMover_31 rfl (lv_at hl 0 rfl) ?_
  refine g_aload_n X dX4_mixMover_32 rfl (lv_at hl 0 rfl) ?_
  refine g_iload_n X dX4_mixMover_33 rfl (lv_at hl 1 rfl) ?_
  refine g_bipush (v := 10) X dX4_mixMover_34 (by decide) ?_
  obtain ⟨r36, hr36, hF⟩ := obind hF
  refine k_Vie X (As := [.int a1, .int (10 : Int32)]) (rest := [.ref (ad 0)]) (c_X4_speedFor hI hr36) (cwV 2 X.ts gX4_mixMover_X4_speedFor rfl rfl rfl (by decide +kernel) ⟨Nat.le_of_ble_eq_true rfl, Nat.le_of_ble_eq_true rfl⟩) ⟨0, 4, _, _, mo_obj, rfl, rfl⟩ rfl hl.1 rfl (Nat.le_of_ble_eq_true rfl) dX4_mixMover_36 ?_
  refine g_i2l X dX4_mixMover_39 ?_
  obtain ⟨r40, hr40, hF⟩ := obind hF
  refine k_Vv X (As := [.long r36.1.toInt64]) (rest := []) (c_X4_mix hI hr40) (cwV 1 X.ts gX4_mixMover_X4_mix rfl rfl rfl (by decide +kernel) ⟨Nat.le_of_ble_eq_true rfl, Nat.le_of_ble_eq_true rfl⟩) ⟨0, 4, _, _, mo_obj, rfl, rfl⟩ rfl hl.1 rfl (Nat.le_of_ble_eq_true rfl) dX4_mixMover_40 ?_
  refine g_aload_n X dX4_mixMover_43 rfl (lv_at hl 0 rfl) ?_
  refine g_aload_n X dX4_mixMover_44 rfl (lv_at hl 0 rfl) ?_
  refine g_iload_n X dX4_mixMover_45 rfl (lv_at hl 1 rfl) ?_
  obtain ⟨r46, hr46, hF⟩ := obind hF
  refine k_Vde X (As := [.int a1]) (rest := [.ref (ad 0)]) (c_X4_shareOf hI hr46) (cwV 1 X.ts gX4_mixMover_X4_shareOf rfl rfl rfl (by decide +kernel) ⟨Nat.le_of_ble_eq_true rfl, Nat.le_of_ble_eq_true rfl⟩) ⟨0, 4, _, _, mo_obj, rfl, rfl⟩ rfl hl.1 rfl (Nat.le_of_ble_eq_true rfl) dX4_mixMover_46 ?_
  obtain ⟨r49, hr49, hF⟩ := obind hF
  refine k_Sl X (As := [.double r46.1]) (rest := [.ref (ad 0)]) (c_Jxe99ae_doubleToLongBits_ccdee hI hr49) (va_cwS 1 X.ts gX4_mixMover_Jxe99ae_doubleToLongBits_ccdee rfl rfl rfl (by decide +kernel) ⟨Nat.le_of_ble_eq_true rfl, Nat.le_of_ble_eq_true rfl⟩) rfl hl.1 rfl (Nat.le_of_ble_eq_true rfl) dX4_mixMover_49 ?_
  obtain ⟨r52, hr52, hF⟩ := obind hF
  refine k_Vv X (As := [.long r49]) (rest := []) (c_X4_mix hI hr52) (cwV 1 X.ts gX4_mixMover_X4_mix rfl rfl rfl (by decide +kernel) ⟨Nat.le_of_ble_eq_true rfl, Nat.le_of_ble_eq_true rfl⟩) ⟨0, 4, _, _, mo_obj, rfl, rfl⟩ rfl hl.1 rfl (Nat.le_of_ble_eq_true rfl) dX4_mixMover_52 ?_
  exact g_vret X (pV_mk (some_inj hF)) dX4_mixMover_55
theorem in_X4_digest_X4 : ∀ w ∈ wsX40, w ∈ wsX4_digest := by decide +kernel
def L_X4_digest_14 : Nat → Int32 → (Mem × Int64) → Option (Mem × Int64)
  | 0, _, _ => none
  | fu + 1, a1, σ => (if (7 : Int32) ≤ a1 then some σ else Option.bind (F_X4_counted a1 σ) (fun r23 => Option.bind (F_X4_mix r23.1.toInt64 r23.2) (fun r27 => L_X4_digest_14  fu (a1 + 1) r27)))
set_option maxHeartbeats 4000000 in
set_option maxRecDepth 100000 in
theorem w_X4_digest_14 {D : va_G} {ay : Nat → ClassId} {ad : Nat → Nat} {p : Program} {l : Launch} {e : Env} {s : State} {m : MethodId} {args : Array Value} {below : List Frame} {meth : Method} {c : Code} {Q : State → Prop} {res : (Mem × Int64)} (X : CX D ay p s m args meth c cX4_digest 2 RX4 (some .long) wsX4_digest) (hI : amOK ad) (K : ∀ ls : Array Slot, lv_has ls 2 [(0, .ref (ad 0))] → GW D (wM ay ad) (AM ad) p l e ({ frames := 9, cells := 0, slots := 0, locals := 207 } : Room) s m args below meth c Q res (F0 m 36 ls [])) : ∀ (fu : Nat) (a1 : Int32) (σ : (Mem × Int64)), L_X4_digest_14  fu a1 σ = some res → ∀ ls : Array Slot, lv_has ls 2 [(0, .ref (ad 0)), (1, .int a1)] → GW D (wM ay ad) (AM ad) p l e ({ frames := 9, cells := 0, slots := 0, locals := 207 } : Room) s m args below meth c Q σ (F0 m 14 ls []) := by
  intro fu
  induction fu with
  | zero =>
    intro a1 σ hF ls hl
    rw [L_X4_digest_14] at hF
    cases hF
  | succ fu ih =>
    intro a1 σ hF ls hl
    rw [L_X4_digest_14] at hF
    refine g_iload_n X dX4_digest_14 rfl (lv_at hl 1 rfl) ?_
    refine g_bipush (v := 7) X dX4_digest_15 (by decide) ?_
    refine g_icmp_ge (tgt := 36) X dX4_digest_17 (by decide) (fun hc17 => ?_) (fun hc17 => ?_)
    · have hF := ite_t hF hc17
      have e14 := some_inj hF
      subst e14
      exact K ls (lv_sub hl [0] rfl)
    · have hF := ite_f hF hc17
      refine g_aload_n X dX4_digest_20 rfl (lv_at hl 0 rfl) ?_
      refine g_aload_n X dX4_digest_21 rfl (lv_at hl 0 rfl) ?_
      refine g_iload_n X dX4_digest_22 rfl (lv_at hl 1 rfl) ?_
      obtain ⟨r23, hr23, hF⟩ := obind hF
      refine k_Vie X (As := [.int a1]) (rest := [.ref (ad 0)]) (c_X4_counted hI hr23) (cwV 1 X.ts gX4_digest_X4_counted rfl rfl rfl (by decide +kernel) ⟨Nat.le_of_ble_eq_true rfl, Nat.le_of_ble_eq_true rfl⟩) ⟨0, 4, _, _, mo_obj, rfl, rfl⟩ rfl hl.1 rfl (Nat.le_of_ble_eq_true rfl) dX4_digest_23 ?_
      refine g_i2l X dX4_digest_26 ?_
      obtain ⟨r27, hr27, hF⟩ := obind hF
      refine k_Vv X (As := [.long r23.1.toInt64]) (rest := []) (c_X4_mix hI hr27) (cwV 1 X.ts gX4_digest_X4_mix rfl rfl rfl (by decide +kernel) ⟨Nat.le_of_ble_eq_true rfl, Nat.le_of_ble_eq_true rfl⟩) ⟨0, 4, _, _, mo_obj, rfl, rfl⟩ rfl hl.1 rfl (Nat.le_of_ble_eq_true rfl) dX4_digest_27 ?_
      refine g_iinc (v := a1 + 1) (lv' := [(1, _), (0, _)]) X dX4_digest_30 hl (k := 1) rfl rfl (by decide) rfl (fun ls hl => ?_)
      refine g_goto (tgt := 14) X dX4_digest_33 (by decide) ?_
      exact ih (a1 + 1) r27 hF ls (lv_sub hl [1, 0] rfl)
def L_X4_digest_60 : Nat → Int32 → (Mem × Int64) → Option (Mem × Int64)
  | 0, _, _ => none
  | fu + 1, a1, σ => (if (16 : Int32) ≤ a1 then some σ else Option.bind (F_X4_has a1 σ) (fun r68 => (Option.bind (if r68 = 0 then some σ else Option.bind (F_X4_mixMover a1 σ) (fun r76 => some r76)) (fun v71 : (Mem × Int64) => L_X4_digest_60  fu (a1 + 1) v71))))
set_option maxHeartbeats 4000000 in
set_option maxRecDepth 100000 in
theorem w_X4_digest_60 {D : va_G} {ay : Nat → ClassId} {ad : Nat → Nat} {p : Program} {l : Launch} {e : Env} {s : State} {m : MethodId} {args : Array Value} {below : List Frame} {meth : Method} {c : Code} {Q : State → Prop} {res : (Mem × Int64)} (X : CX D ay p s m args meth c cX4_digest 2 RX4 (some .long) wsX4_digest) (hI : amOK ad) (K : ∀ ls : Array Slot, lv_has ls 2 [(0, .ref (ad 0))] → GW D (wM ay ad) (AM ad) p l e ({ frames := 9, cells := 0, slots := 0, locals := 207 } : Room) s m args below meth c Q res (F0 m 85 ls [])) : ∀ (fu : Nat) (a1 : Int32) (σ : (Mem × Int64)), L_X4_digest_60  fu a1 σ = some res → ∀ ls : Array Slot, lv_has ls 2 [(0, .ref (ad 0)), (1, .int a1)] → GW D (wM ay ad) (AM ad) p l e ({ frames := 9, cells := 0, slots := 0, locals := 207 } : Room) s m args below meth c Q σ (F0 m 60 ls []) := by
  intro fu
  induction fu with
  | zero =>
    intro a1 σ hF ls hl
    rw [L_X4_digest_60] at hF
    cases hF
  | succ fu ih =>
    intro a1 σ hF ls hl
    rw [L_X4_digest_60] at hF
    refine g_iload_n X dX4_digest_60 rfl (lv_at hl 1 rfl) ?_
    refine g_bipush (v := 16) X dX4_digest_61 (by decide) ?_
    refine g_icmp_ge (tgt := 85) X dX4_digest_63 (by decide) (fun hc63 => ?_) (fun hc63 => ?_)
    · have hF := ite_t hF hc63
      have e60 := some_inj hF
      subst e60
      exact K ls (lv_sub hl [0] rfl)
    · have hF := ite_f hF hc63
      refine g_aload_n X dX4_digest_66 rfl (lv_at hl 0 rfl) ?_
      refine g_iload_n X dX4_digest_67 rfl (lv_at hl 1 rfl) ?_
      obtain ⟨r68, hr68, hF⟩ := obind hF
      refine k_Vz X (As := [.int a1]) (rest := []) (c_X4_has hI hr68) (cwV 1 X.ts gX4_digest_X4_has rfl rfl rfl (by decide +kernel) ⟨Nat.le_of_ble_eq_true rfl, Nat.le_of_ble_eq_true rfl⟩) ⟨0, 4, _, _, mo_obj, rfl, rfl⟩ rfl hl.1 rfl (Nat.le_of_ble_eq_true rfl) dX4_digest_68 (fun hz68 => ?_)
      obtain ⟨v71, hR71, hF⟩ := obind hF
      refine g_cut (nM := 2) [(0, .ref (ad 0)), (1, .int a1)] (v71) 79 [] (fun ls hl => ?_) (fun J71 => ?_)
      · refine g_iinc (v := a1 + 1) (lv' := [(1, _), (0, _)]) X dX4_digest_79 hl (k := 1) rfl rfl (by decide) rfl (fun ls hl => ?_)
        refine g_goto (tgt := 60) X dX4_digest_82 (by decide) ?_
        exact ih (a1 + 1) v71 hF ls (lv_sub hl [1, 0] rfl)
      · refine g_if_eq (tgt := 79) X dX4_digest_71 (by decide) (fun hc71 => ?_) (fun hc71 => ?_)
        · have hR71 := ite_t hR71 hc71
          have e71 := some_inj hR71
          subst e71
          exact J71 ls (lv_sub hl [0, 1] rfl)
        · have hR71 := ite_f hR71 hc71
          refine g_aload_n X dX4_digest_74 rfl (lv_at hl 0 rfl) ?_
          refine g_iload_n X dX4_digest_75 rfl (lv_at hl 1 rfl) ?_
          obtain ⟨r76, hr76, hR71⟩ := obind hR71
          refine k_Vv X (As := [.int a1]) (rest := []) (c_X4_mixMover hI hr76) (cwV 1 X.ts gX4_digest_X4_mixMover rfl rfl rfl (by decide +kernel) ⟨Nat.le_of_ble_eq_true rfl, Nat.le_of_ble_eq_true rfl⟩) ⟨0, 4, _, _, mo_obj, rfl, rfl⟩ rfl hl.1 rfl (Nat.le_of_ble_eq_true rfl) dX4_digest_76 ?_
          have e71 := some_inj hR71
          subst e71
          exact J71 ls (lv_sub hl [0, 1] rfl)
def L_X4_digest_87 : Nat → Int32 → (Mem × Int64) → Option (Mem × Int64)
  | 0, _, _ => none
  | fu + 1, a1, σ => (if (90 : Int32) ≤ a1 then some σ else Option.bind (F_X4_contestOf ((1 : Int32) + (a1 / (6 : Int32))) (a1 - a1 / (6 : Int32) * (6 : Int32)) σ) (fun r105 => Option.bind (F_X4_mix r105.1.toInt64 r105.2) (fun r109 => L_X4_digest_87  fu (a1 + 1) r109)))
set_option maxHeartbeats 4000000 in
set_option maxRecDepth 100000 in
theorem w_X4_digest_87 {D : va_G} {ay : Nat → ClassId} {ad : Nat → Nat} {p : Program} {l : Launch} {e : Env} {s : State} {m : MethodId} {args : Array Value} {below : List Frame} {meth : Method} {c : Code} {Q : State → Prop} {res : (Mem × Int64)} (X : CX D ay p s m args meth c cX4_digest 2 RX4 (some .long) wsX4_digest) (hI : amOK ad) (K : ∀ ls : Array Slot, lv_has ls 2 [(0, .ref (ad 0))] → GW D (wM ay ad) (AM ad) p l e ({ frames := 9, cells := 0, slots := 0, locals := 207 } : Room) s m args below meth c Q res (F0 m 118 ls [])) : ∀ (fu : Nat) (a1 : Int32) (σ : (Mem × Int64)), L_X4_digest_87  fu a1 σ = some res → ∀ ls : Array Slot, lv_has ls 2 [(0, .ref (ad 0)), (1, .int a1)] → GW D (wM ay ad) (AM ad) p l e ({ frames := 9, cells := 0, slots := 0, locals := 207 } : Room) s m args below meth c Q σ (F0 m 87 ls []) := by
  intro fu
  induction fu with
  | zero =>
    intro a1 σ hF ls hl
    rw [L_X4_digest_87] at hF
    cases hF
  | succ fu ih =>
    intro a1 σ hF ls hl
    rw [L_X4_digest_87] at hF
    refine g_iload_n X dX4_digest_87 rfl (lv_at hl 1 rfl) ?_
    refine g_bipush (v := 90) X dX4_digest_88 (by decide) ?_
    refine g_icmp_ge (tgt := 118) X dX4_digest_90 (by decide) (fun hc90 => ?_) (fun hc90 => ?_)
    · have hF := ite_t hF hc90
      have e87 := some_inj hF
      subst e87
      exact K ls (lv_sub hl [0] rfl)
    · have hF := ite_f hF hc90
      refine g_aload_n X dX4_digest_93 rfl (lv_at hl 0 rfl) ?_
      refine g_aload_n X dX4_digest_94 rfl (lv_at hl 0 rfl) ?_
      refine g_iconst (v := 1) X dX4_digest_95 (by decide) ?_
      refine g_iload_n X dX4_digest_96 rfl (lv_at hl 1 rfl) ?_
      refine g_bipush (v := 6) X dX4_digest_97 (by decide) ?_
      refine g_idiv X dX4_digest_99 (by decide) ?_
      refine g_iadd X dX4_digest_100 ?_
      refine g_iload_n X dX4_digest_101 rfl (lv_at hl 1 rfl) ?_
      refine g_bipush (v := 6) X dX4_digest_102 (by decide) ?_
      refine g_irem X dX4_digest_104 (by decide) ?_
      obtain ⟨r105, hr105, hF⟩ := obind hF
      refine k_Vie X (As := [.int ((1 : Int32) + (a1 / (6 : Int32))), .int (a1 - a1 / (6 : Int32) * (6 : Int32))]) (rest := [.ref (ad 0)]) (c_X4_contestOf hI hr105) (cwV 2 X.ts gX4_digest_X4_contestOf rfl rfl rfl (by decide +kernel) ⟨Nat.le_of_ble_eq_true rfl, Nat.le_of_ble_eq_true rfl⟩) ⟨0, 4, _, _, mo_obj, rfl, rfl⟩ rfl hl.1 rfl (Nat.le_of_ble_eq_true rfl) dX4_digest_105 ?_
      refine g_i2l X dX4_digest_108 ?_
      obtain ⟨r109, hr109, hF⟩ := obind hF
      refine k_Vv X (As := [.long r105.1.toInt64]) (rest := []) (c_X4_mix hI hr109) (cwV 1 X.ts gX4_digest_X4_mix rfl rfl rfl (by decide +kernel) ⟨Nat.le_of_ble_eq_true rfl, Nat.le_of_ble_eq_true rfl⟩) ⟨0, 4, _, _, mo_obj, rfl, rfl⟩ rfl hl.1 rfl (Nat.le_of_ble_eq_true rfl) dX4_digest_109 ?_
      refine g_iinc (v := a1 + 1) (lv' := [(1, _), (0, _)]) X dX4_digest_112 hl (k := 1) rfl rfl (by decide) rfl (fun ls hl => ?_)
      refine g_goto (tgt := 87) X dX4_digest_115 (by decide) ?_
      exact ih (a1 + 1) r109 hF ls (lv_sub hl [1, 0] rfl)
def L_X4_digest_120 : Nat → Int32 → (Mem × Int64) → Option (Mem × Int64)
  | 0, _, _ => none
  | fu + 1, a1, σ => (if (4 : Int32) ≤ a1 then some σ else Option.bind (F_X4_turnOf a1 σ) (fun r128 => Option.bind (F_X4_mix r128.1.toInt64 r128.2) (fun r132 => L_X4_digest_120  fu (a1 + 1) r132)))
set_option maxHeartbeats 4000000 in
set_option maxRecDepth 100000 in
theorem w_X4_digest_120 {D : va_G} {ay : Nat → ClassId} {ad : Nat → Nat} {p : Program} {l : Launch} {e : Env} {s : State} {m : MethodId} {args : Array Value} {below : List Frame} {meth : Method} {c : Code} {Q : State → Prop} {res : (Mem × Int64)} (X : CX D ay p s m args meth c cX4_digest 2 RX4 (some .long) wsX4_digest) (hI : amOK ad) (K : ∀ ls : Array Slot, lv_has ls 2 [(0, .ref (ad 0))] → GW D (wM ay ad) (AM ad) p l e ({ frames := 9, cells := 0, slots := 0, locals := 207 } : Room) s m args below meth c Q res (F0 m 141 ls [])) : ∀ (fu : Nat) (a1 : Int32) (σ : (Mem × Int64)), L_X4_digest_120  fu a1 σ = some res → ∀ ls : Array Slot, lv_has ls 2 [(0, .ref (ad 0)), (1, .int a1)] → GW D (wM ay ad) (AM ad) p l e ({ frames := 9, cells := 0, slots := 0, locals := 207 } : Room) s m args below meth c Q σ (F0 m 120 ls []) := by
  intro fu
  induction fu with
  | zero =>
    intro a1 σ hF ls hl
    rw [L_X4_digest_120] at hF
    cases hF
  | succ fu ih =>
    intro a1 σ hF ls hl
    rw [L_X4_digest_120] at hF
    refine g_iload_n X dX4_digest_120 rfl (lv_at hl 1 rfl) ?_
    refine g_iconst (v := 4) X dX4_digest_121 (by decide) ?_
    refine g_icmp_ge (tgt := 141) X dX4_digest_122 (by decide) (fun hc122 => ?_) (fun hc122 => ?_)
    · have hF := ite_t hF hc122
      have e120 := some_inj hF
      subst e120
      exact K ls (lv_sub hl [0] rfl)
    · have hF := ite_f hF hc122
      refine g_aload_n X dX4_digest_125 rfl (lv_at hl 0 rfl) ?_
      refine g_aload_n X dX4_digest_126 rfl (lv_at hl 0 rfl) ?_
      refine g_iload_n X dX4_digest_127 rfl (lv_at hl 1 rfl) ?_
      obtain ⟨r128, hr128, hF⟩ := obind hF
      refine k_Vie X (As := [.int a1]) (rest := [.ref (ad 0)]) (c_X4_turnOf hI hr128) (cwV 1 X.ts gX4_digest_X4_turnOf rfl rfl rfl (by decide +kernel) ⟨Nat.le_of_ble_eq_true rfl, Nat.le_of_ble_eq_true rfl⟩) ⟨0, 4, _, _, mo_obj, rfl, rfl⟩ rfl hl.1 rfl (Nat.le_of_ble_eq_true rfl) dX4_digest_128 ?_
      refine g_i2l X dX4_digest_131 ?_
      obtain ⟨r132, hr132, hF⟩ := obind hF
      refine k_Vv X (As := [.long r128.1.toInt64]) (rest := []) (c_X4_mix hI hr132) (cwV 1 X.ts gX4_digest_X4_mix rfl rfl rfl (by decide +kernel) ⟨Nat.le_of_ble_eq_true rfl, Nat.le_of_ble_eq_true rfl⟩) ⟨0, 4, _, _, mo_obj, rfl, rfl⟩ rfl hl.1 rfl (Nat.le_of_ble_eq_true rfl) dX4_digest_132 ?_
      refine g_iinc (v := a1 + 1) (lv' := [(1, _), (0, _)]) X dX4_digest_135 hl (k := 1) rfl rfl (by decide) rfl (fun ls hl => ?_)
      refine g_goto (tgt := 120) X dX4_digest_138 (by decide) ?_
      exact ih (a1 + 1) r132 hF ls (lv_sub hl [1, 0] rfl)
def L_X4_digest_147 : Nat → Int32 → (Mem × Int64) → Option (Mem × Int64)
  | 0, _, _ => none
  | fu + 1, a1, σ => (if ((3 : Int32) * (σ.1 0 20)) ≤ a1 then some σ else Option.bind (F_X4_spanTold (a1 / (3 : Int32)) (a1 - a1 / (3 : Int32) * (3 : Int32)) σ) (fun r165 => Option.bind (F_X4_mix r165.toInt64 σ) (fun r169 => L_X4_digest_147  fu (a1 + 1) r169)))
set_option maxHeartbeats 4000000 in
set_option maxRecDepth 100000 in
theorem w_X4_digest_147 {D : va_G} {ay : Nat → ClassId} {ad : Nat → Nat} {p : Program} {l : Launch} {e : Env} {s : State} {m : MethodId} {args : Array Value} {below : List Frame} {meth : Method} {c : Code} {Q : State → Prop} {res : (Mem × Int64)} (X : CX D ay p s m args meth c cX4_digest 2 RX4 (some .long) wsX4_digest) (hI : amOK ad) (K : ∀ ls : Array Slot, lv_has ls 2 [(0, .ref (ad 0))] → GW D (wM ay ad) (AM ad) p l e ({ frames := 9, cells := 0, slots := 0, locals := 207 } : Room) s m args below meth c Q res (F0 m 178 ls [])) : ∀ (fu : Nat) (a1 : Int32) (σ : (Mem × Int64)), L_X4_digest_147  fu a1 σ = some res → ∀ ls : Array Slot, lv_has ls 2 [(0, .ref (ad 0)), (1, .int a1)] → GW D (wM ay ad) (AM ad) p l e ({ frames := 9, cells := 0, slots := 0, locals := 207 } : Room) s m args below meth c Q σ (F0 m 147 ls []) := by
  intro fu
  induction fu with
  | zero =>
    intro a1 σ hF ls hl
    rw [L_X4_digest_147] at hF
    cases hF
  | succ fu ih =>
    intro a1 σ hF ls hl
    rw [L_X4_digest_147] at hF
    refine g_iload_n X dX4_digest_147 rfl (lv_at hl 1 rfl) ?_
    refine g_iconst (v := 3) X dX4_digest_148 (by decide) ?_
    refine g_aload_n X dX4_digest_149 rfl (lv_at hl 0 rfl) ?_
    refine g_get X 0 (mo_obj) in_X4_digest_X4 rfl 20 (by decide) (X.ts (.fieldLink RX4 162 "LeadTimesModel" "spans" "I") (by decide +kernel)) rfl rfl dX4_digest_150 ?_
    refine g_imul X dX4_digest_153 ?_
    refine g_icmp_ge (tgt := 178) X dX4_digest_154 (by decide) (fun hc154 => ?_) (fun hc154 => ?_)
    · have hF := ite_t hF hc154
      have e147 := some_inj hF
      subst e147
      exact K ls (lv_sub hl [0] rfl)
    · have hF := ite_f hF hc154
      refine g_aload_n X dX4_digest_157 rfl (lv_at hl 0 rfl) ?_
      refine g_aload_n X dX4_digest_158 rfl (lv_at hl 0 rfl) ?_
      refine g_iload_n X dX4_digest_159 rfl (lv_at hl 1 rfl) ?_
      refine g_iconst (v := 3) X dX4_digest_160 (by decide) ?_
      refine g_idiv X dX4_digest_161 (by decide) ?_
      refine g_iload_n X dX4_digest_162 rfl (lv_at hl 1 rfl) ?_
      refine g_iconst (v := 3) X dX4_digest_163 (by decide) ?_
      refine g_irem X dX4_digest_164 (by decide) ?_
      obtain ⟨r165, hr165, hF⟩ := obind hF
      refine k_Vi X (As := [.int (a1 / (3 : Int32)), .int (a1 - a1 / (3 : Int32) * (3 : Int32))]) (rest := [.ref (ad 0)]) (c_X4_spanTold hI hr165) (cwV 2 X.ts gX4_digest_X4_spanTold rfl rfl rfl (by decide +kernel) ⟨Nat.le_of_ble_eq_true rfl, Nat.le_of_ble_eq_true rfl⟩) ⟨0, 4, _, _, mo_obj, rfl, rfl⟩ rfl hl.1 rfl (Nat.le_of_ble_eq_true rfl) dX4_digest_165 ?_
      refine g_i2l X dX4_digest_168 ?_
      obtain ⟨r169, hr169, hF⟩ := obind hF
      refine k_Vv X (As := [.long r165.toInt64]) (rest := []) (c_X4_mix hI hr169) (cwV 1 X.ts gX4_digest_X4_mix rfl rfl rfl (by decide +kernel) ⟨Nat.le_of_ble_eq_true rfl, Nat.le_of_ble_eq_true rfl⟩) ⟨0, 4, _, _, mo_obj, rfl, rfl⟩ rfl hl.1 rfl (Nat.le_of_ble_eq_true rfl) dX4_digest_169 ?_
      refine g_iinc (v := a1 + 1) (lv' := [(1, _), (0, _)]) X dX4_digest_172 hl (k := 1) rfl rfl (by decide) rfl (fun ls hl => ?_)
      refine g_goto (tgt := 147) X dX4_digest_175 (by decide) ?_
      exact ih (a1 + 1) r169 hF ls (lv_sub hl [1, 0] rfl)
def L_X4_digest_222 : Nat → Int32 → (Mem × Int64) → Option (Mem × Int64)
  | 0, _, _ => none
  | fu + 1, a1, σ => (if (σ.1 0 4) ≤ a1 then some σ else if inb a1 60 then (Option.bind (F_X4_mix ((σ.1 3 a1.toNatClampNeg).toInt64) σ) (fun r238 => L_X4_digest_222  fu (a1 + 1) r238)) else none)
set_option maxHeartbeats 4000000 in
set_option maxRecDepth 100000 in
theorem w_X4_digest_222 {D : va_G} {ay : Nat → ClassId} {ad : Nat → Nat} {p : Program} {l : Launch} {e : Env} {s : State} {m : MethodId} {args : Array Value} {below : List Frame} {meth : Method} {c : Code} {Q : State → Prop} {res : (Mem × Int64)} (X : CX D ay p s m args meth c cX4_digest 2 RX4 (some .long) wsX4_digest) (hI : amOK ad) (K : ∀ ls : Array Slot, lv_has ls 2 [(0, .ref (ad 0))] → GW D (wM ay ad) (AM ad) p l e ({ frames := 9, cells := 0, slots := 0, locals := 207 } : Room) s m args below meth c Q res (F0 m 247 ls [])) : ∀ (fu : Nat) (a1 : Int32) (σ : (Mem × Int64)), L_X4_digest_222  fu a1 σ = some res → ∀ ls : Array Slot, lv_has ls 2 [(0, .ref (ad 0)), (1, .int a1)] → GW D (wM ay ad) (AM ad) p l e ({ frames := 9, cells := 0, slots := 0, locals := 207 } : Room) s m args below meth c Q σ (F0 m 222 ls []) := by
  intro fu
  induction fu with
  | zero =>
    intro a1 σ hF ls hl
    rw [L_X4_digest_222] at hF
    cases hF
  | succ fu ih =>
    intro a1 σ hF ls hl
    rw [L_X4_digest_222] at hF
    refine g_iload_n X dX4_digest_222 rfl (lv_at hl 1 rfl) ?_
    refine g_aload_n X dX4_digest_223 rfl (lv_at hl 0 rfl) ?_
    refine g_get X 0 (mo_obj) in_X4_digest_X4 rfl 4 (by decide) (X.ts (.fieldLink RX4 134 "LeadTimesModel" "bufferMany" "I") (by decide +kernel)) rfl rfl dX4_digest_224 ?_
    refine g_icmp_ge (tgt := 247) X dX4_digest_227 (by decide) (fun hc227 => ?_) (fun hc227 => ?_)
    · have hF := ite_t hF hc227
      have e222 := some_inj hF
      subst e222
      exact K ls (lv_sub hl [0] rfl)
    · have hF := ite_f hF hc227
      refine g_aload_n X dX4_digest_230 rfl (lv_at hl 0 rfl) ?_
      refine g_aload_n X dX4_digest_231 rfl (lv_at hl 0 rfl) ?_
      refine g_get X 0 (mo_obj) in_X4_digest_X4 rfl 3 (by decide) (X.ts (.fieldLink RX4 16 "LeadTimesModel" "buffer" "[I") (by decide +kernel)) rfl rfl dX4_digest_232 ?_
      refine g_iload_n X dX4_digest_235 rfl (lv_at hl 1 rfl) ?_
      obtain ⟨h236, hF⟩ := itn hF
      refine g_iald X 3 (j := a1.toNatClampNeg) (mo_arr3) (by first | rfl | decide) (inb_in h236) dX4_digest_236 ?_
      refine g_i2l X dX4_digest_237 ?_
      obtain ⟨r238, hr238, hF⟩ := obind hF
      refine k_Vv X (As := [.long ((σ.1 3 a1.toNatClampNeg).toInt64)]) (rest := []) (c_X4_mix hI hr238) (cwV 1 X.ts gX4_digest_X4_mix rfl rfl rfl (by decide +kernel) ⟨Nat.le_of_ble_eq_true rfl, Nat.le_of_ble_eq_true rfl⟩) ⟨0, 4, _, _, mo_obj, rfl, rfl⟩ rfl hl.1 rfl (Nat.le_of_ble_eq_true rfl) dX4_digest_238 ?_
      refine g_iinc (v := a1 + 1) (lv' := [(1, _), (0, _)]) X dX4_digest_241 hl (k := 1) rfl rfl (by decide) rfl (fun ls hl => ?_)
      refine g_goto (tgt := 222) X dX4_digest_244 (by decide) ?_
      exact ih (a1 + 1) r238 hF ls (lv_sub hl [1, 0] rfl)
def F_X4_digest (σ : (Mem × Int64)) : Option (Int64 × (Mem × Int64)) := Option.bind (L_X4_digest_14  FU (0 : Int32) ((up2 σ.1 0 5 (0 : Int32)), (2557 : Int64))) (fun v14 : (Mem × Int64) => Option.bind (F_X4_mix ((v14.1 1 1).toInt64) v14) (fun r44 => Option.bind (F_X4_mix ((r44.1 1 2).toInt64) r44) (fun r55 => Option.bind (L_X4_digest_60  FU (0 : Int32) r55) (fun v60 : (Mem × Int64) => Option.bind (L_X4_digest_87  FU (0 : Int32) v60) (fun v87 : (Mem × Int64) => Option.bind (L_X4_digest_120  FU (0 : Int32) v87) (fun v120 : (Mem × Int64) => Option.bind (F_X4_laySpans v120) (fun r142 => Option.bind (L_X4_digest_147  FU (0 : Int32) r142) (fun v147 : (Mem × Int64) => Option.bind (F_X4_winnerAt (1 : Int32) ((v147.1 1 2).toInt64) (1 : Int64) v147) (fun r189 => Option.bind (F_X4_mix r189.toInt64 v147) (fun r193 => Option.bind (F_X4_turnsAll (r193.1 1 2) r193) (fun r204 => Option.bind (F_X4_mix r204.1.toInt64 r204.2) (fun r208 => Option.bind (F_X4_mix ((r208.1 0 4).toInt64) r208) (fun r217 => Option.bind (L_X4_digest_222  FU (0 : Int32) r217) (fun v222 : (Mem × Int64) => some (v222.2, v222)))))))))))))))
set_option maxHeartbeats 4000000 in
set_option maxRecDepth 100000 in
theorem c_X4_digest {l : Launch} {D : va_G} {ay : Nat → ClassId} {ad : Nat → Nat} {σ : (Mem × Int64)} {res : Int64 × (Mem × Int64)} (hI : amOK ad) (hF : F_X4_digest  σ = some res) : Met l yX4_digest wsX4_digest ({ frames := 9, cells := 0, slots := 0, locals := 207 } : Room) (va_Pc [.ref (ad 0)] (PP D ay (wM ay ad σ))) (va_Ql (pE res) (fun τ => PP D ay (wM ay ad τ)) (AM ad)) 0 0 (AM ad) := by
  refine g_start (wd := wM ay ad) (A := AM ad) (own := RX4) (mL := 2) (rt := (some .long)) (by decide) rfl rfl (Nat.le_of_ble_eq_true rfl) ?_
  intro p e s m below meth c ls X hl
  have hl : lv_has ls 2 [(0, .ref (ad 0))] := hl
  rw [F_X4_digest] at hF
  refine g_aload_n X dX4_digest_0 rfl (lv_at hl 0 rfl) ?_
  refine g_iconst (v := 0) X dX4_digest_1 (by decide) ?_
  refine g_put X (wM_D hI) ((up2 σ.1 0 5 (0 : Int32), σ.2)) 0 (mo_obj) 5 (set_mo5) tyX4 tyX4_ok nmX4 in_X4_digest_X4 rfl (by decide) (X.ts (.fieldLink RX4 34 "LeadTimesModel" "thrown" "I") (by decide +kernel)) rfl rfl rfl rfl rfl (Nat.le_of_ble_eq_true rfl) dX4_digest_2 ?_
  refine g_aload_n X dX4_digest_5 rfl (lv_at hl 0 rfl) ?_
  refine g_ldc2 X dX4_digest_6 (X.ts (.constantLong RX4 237 (2557)) (by decide +kernel)) ?_
  refine g_put X (wM_D hI) (((up2 σ.1 0 5 (0 : Int32)), (2557 : Int64))) 0 (mo_obj) 21 (set_moJ) tyX4 tyX4_ok nmX4 in_X4_digest_X4 rfl (by decide) (X.ts (.fieldLink RX4 223 "LeadTimesModel" "h" "J") (by decide +kernel)) rfl rfl rfl rfl rfl (Nat.le_of_ble_eq_true rfl) dX4_digest_9 ?_
  refine g_iconst (v := 0) X dX4_digest_12 (by decide) ?_
  refine g_istore_n (lv' := [(1, _), (0, _)]) X dX4_digest_13 rfl hl (by decide) rfl (fun ls hl => ?_)
  obtain ⟨v14, hL14, hF⟩ := obind hF
  refine w_X4_digest_14 X hI (fun ls hl => ?_) FU (0 : Int32) ((up2 σ.1 0 5 (0 : Int32)), (2557 : Int64)) hL14 ls (lv_sub hl [1, 0] rfl)
  refine g_aload_n X dX4_digest_36 rfl (lv_at hl 0 rfl) ?_
  refine g_aload_n X dX4_digest_37 rfl (lv_at hl 0 rfl) ?_
  refine g_get X 0 (mo_obj) in_X4_digest_X4 rfl 0 (by decide) (X.ts (.fieldLink RX4 7 "LeadTimesModel" "z" "[I") (by decide +kernel)) rfl rfl dX4_digest_38 ?_
  refine g_iconst (v := 1) X dX4_digest_41 (by decide) ?_
  refine g_iald X 1 (j := 1) (mo_arr1) (by first | rfl | decide) (inb_in (by decide)) dX4_digest_42 ?_
  refine g_i2l X dX4_digest_43 ?_
  obtain ⟨r44, hr44, hF⟩ := obind hF
  refine k_Vv X (As := [.long ((v14.1 1 1).toInt64)]) (rest := []) (c_X4_mix hI hr44) (cwV 1 X.ts gX4_digest_X4_mix rfl rfl rfl (by decide +kernel) ⟨Nat.le_of_ble_eq_true rfl, Nat.le_of_ble_eq_true rfl⟩) ⟨0, 4, _, _, mo_obj, rfl, rfl⟩ rfl hl.1 rfl (Nat.le_of_ble_eq_true rfl) dX4_digest_44 ?_
  refine g_aload_n X dX4_digest_47 rfl (lv_at hl 0 rfl) ?_
  refine g_aload_n X dX4_digest_48 rfl (lv_at hl 0 rfl) ?_
  refine g_get X 0 (mo_obj) in_X4_digest_X4 rfl 0 (by decide) (X.ts (.fieldLink RX4 7 "LeadTimesModel" "z" "[I") (by decide +kernel)) rfl rfl dX4_digest_49 ?_
  refine g_iconst (v := 2) X dX4_digest_52 (by decide) ?_
  refine g_iald X 1 (j := 2) (mo_arr1) (by first | rfl | decide) (inb_in (by decide)) dX4_digest_53 ?_
  refine g_i2l X dX4_digest_54 ?_
  obtain ⟨r55, hr55, hF⟩ := obind hF
  refine k_Vv X (As := [.long ((r44.1 1 2).toInt64)]) (rest := []) (c_X4_mix hI hr55) (cwV 1 X.ts gX4_digest_X4_mix rfl rfl rfl (by decide +kernel) ⟨Nat.le_of_ble_eq_true rfl, Nat.le_of_ble_eq_true rfl⟩) ⟨0, 4, _, _, mo_obj, rfl, rfl⟩ rfl hl.1 rfl (Nat.le_of_ble_eq_true rfl) dX4_digest_55 ?_
  refine g_iconst (v := 0) X dX4_digest_58 (by decide) ?_
  refine g_istore_n (lv' := [(1, _), (0, _)]) X dX4_digest_59 rfl hl (by decide) rfl (fun ls hl => ?_)
  obtain ⟨v60, hL60, hF⟩ := obind hF
  refine w_X4_digest_60 X hI (fun ls hl => ?_) FU (0 : Int32) r55 hL60 ls (lv_sub hl [1, 0] rfl)
  refine g_iconst (v := 0) X dX4_digest_85 (by decide) ?_
  refine g_istore_n (lv' := [(1, _), (0, _)]) X dX4_digest_86 rfl hl (by decide) rfl (fun ls hl => ?_)
  obtain ⟨v87, hL87, hF⟩ := obind hF
  refine w_X4_digest_87 X hI (fun ls hl => ?_) FU (0 : Int32) v60 hL87 ls (lv_sub hl [1, 0] rfl)
  refine g_iconst (v := 0) X dX4_digest_118 (by decide) ?_
  refine g_istore_n (lv' := [(1, _), (0, _)]) X dX4_digest_119 rfl hl (by decide) rfl (fun ls hl => ?_)
  obtain ⟨v120, hL120, hF⟩ := obind hF
  refine w_X4_digest_120 X hI (fun ls hl => ?_) FU (0 : Int32) v87 hL120 ls (lv_sub hl [1, 0] rfl)
  refine g_aload_n X dX4_digest_141 rfl (lv_at hl 0 rfl) ?_
  obtain ⟨r142, hr142, hF⟩ := obind hF
  refine k_Vv X (As := []) (rest := []) (c_X4_laySpans hI hr142) (cwV 0 X.ts gX4_digest_X4_laySpans rfl rfl rfl (by decide +kernel) ⟨Nat.le_of_ble_eq_true rfl, Nat.le_of_ble_eq_true rfl⟩) ⟨0, 4, _, _, mo_obj, rfl, rfl⟩ rfl hl.1 rfl (Nat.le_of_ble_eq_true rfl) dX4_digest_142 ?_
  refine g_iconst (v := 0) X dX4_digest_145 (by decide) ?_
  refine g_istore_n (lv' := [(1, _), (0, _)]) X dX4_digest_146 rfl hl (by decide) rfl (fun ls hl => ?_)
  obtain ⟨v147, hL147, hF⟩ := obind hF
  refine w_X4_digest_147 X hI (fun ls hl => ?_) FU (0 : Int32) r142 hL147 ls (lv_sub hl [1, 0] rfl)
  refine g_aload_n X dX4_digest_178 rfl (lv_at hl 0 rfl) ?_
  refine g_aload_n X dX4_digest_179 rfl (lv_at hl 0 rfl) ?_
  refine g_iconst (v := 1) X dX4_digest_180 (by decide) ?_
  refine g_aload_n X dX4_digest_181 rfl (lv_at hl 0 rfl) ?_
  refine g_get X 0 (mo_obj) in_X4_digest_X4 rfl 0 (by decide) (X.ts (.fieldLink RX4 7 "LeadTimesModel" "z" "[I") (by decide +kernel)) rfl rfl dX4_digest_182 ?_
  refine g_iconst (v := 2) X dX4_digest_185 (by decide) ?_
  refine g_iald X 1 (j := 2) (mo_arr1) (by first | rfl | decide) (inb_in (by decide)) dX4_digest_186 ?_
  refine g_i2l X dX4_digest_187 ?_
  refine g_lconst (v := 1) X dX4_digest_188 (by decide) ?_
  obtain ⟨r189, hr189, hF⟩ := obind hF
  refine k_Vi X (As := [.int (1 : Int32), .long ((v147.1 1 2).toInt64), .long (1 : Int64)]) (rest := [.ref (ad 0)]) (c_X4_winnerAt hI hr189) (cwV 3 X.ts gX4_digest_X4_winnerAt rfl rfl rfl (by decide +kernel) ⟨Nat.le_of_ble_eq_true rfl, Nat.le_of_ble_eq_true rfl⟩) ⟨0, 4, _, _, mo_obj, rfl, rfl⟩ rfl hl.1 rfl (Nat.le_of_ble_eq_true rfl) dX4_digest_189 ?_
  refine g_i2l X dX4_digest_192 ?_
  obtain ⟨r193, hr193, hF⟩ := obind hF
  refine k_Vv X (As := [.long r189.toInt64]) (rest := []) (c_X4_mix hI hr193) (cwV 1 X.ts gX4_digest_X4_mix rfl rfl rfl (by decide +kernel) ⟨Nat.le_of_ble_eq_true rfl, Nat.le_of_ble_eq_true rfl⟩) ⟨0, 4, _, _, mo_obj, rfl, rfl⟩ rfl hl.1 rfl (Nat.le_of_ble_eq_true rfl) dX4_digest_193 ?_
  refine g_aload_n X dX4_digest_196 rfl (lv_at hl 0 rfl) ?_
  refine g_aload_n X dX4_digest_197 rfl (lv_at hl 0 rfl) ?_
  refine g_aload_n X dX4_digest_198 rfl (lv_at hl 0 rfl) ?_
  refine g_get X 0 (mo_obj) in_X4_digest_X4 rfl 0 (by decide) (X.ts (.fieldLink RX4 7 "LeadTimesModel" "z" "[I") (by decide +kernel)) rfl rfl dX4_digest_199 ?_
  refine g_iconst (v := 2) X dX4_digest_202 (by decide) ?_
  refine g_iald X 1 (j := 2) (mo_arr1) (by first | rfl | decide) (inb_in (by decide)) dX4_digest_203 ?_
  obtain ⟨r204, hr204, hF⟩ := obind hF
  refine k_Vie X (As := [.int (r193.1 1 2)]) (rest := [.ref (ad 0)]) (c_X4_turnsAll hI hr204) (cwV 1 X.ts gX4_digest_X4_turnsAll rfl rfl rfl (by decide +kernel) ⟨Nat.le_of_ble_eq_true rfl, Nat.le_of_ble_eq_true rfl⟩) ⟨0, 4, _, _, mo_obj, rfl, rfl⟩ rfl hl.1 rfl (Nat.le_of_ble_eq_true rfl) dX4_digest_204 ?_
  refine g_i2l X dX4_digest_207 ?_
  obtain ⟨r208, hr208, hF⟩ := obind hF
  refine k_Vv X (As := [.long r204.1.toInt64]) (rest := []) (c_X4_mix hI hr208) (cwV 1 X.ts gX4_digest_X4_mix rfl rfl rfl (by decide +kernel) ⟨Nat.le_of_ble_eq_true rfl, Nat.le_of_ble_eq_true rfl⟩) ⟨0, 4, _, _, mo_obj, rfl, rfl⟩ rfl hl.1 rfl (Nat.le_of_ble_eq_true rfl) dX4_digest_208 ?_
  refine g_aload_n X dX4_digest_211 rfl (lv_at hl 0 rfl) ?_
  refine g_aload_n X dX4_digest_212 rfl (lv_at hl 0 rfl) ?_
  refine g_get X 0 (mo_obj) in_X4_digest_X4 rfl 4 (by decide) (X.ts (.fieldLink RX4 134 "LeadTimesModel" "bufferMany" "I") (by decide +kernel)) rfl rfl dX4_digest_213 ?_
  refine g_i2l X dX4_digest_216 ?_
  obtain ⟨r217, hr217, hF⟩ := obind hF
  refine k_Vv X (As := [.long ((r208.1 0 4).toInt64)]) (rest := []) (c_X4_mix hI hr217) (cwV 1 X.ts gX4_digest_X4_mix rfl rfl rfl (by decide +kernel) ⟨Nat.le_of_ble_eq_true rfl, Nat.le_of_ble_eq_true rfl⟩) ⟨0, 4, _, _, mo_obj, rfl, rfl⟩ rfl hl.1 rfl (Nat.le_of_ble_eq_true rfl) dX4_digest_217 ?_
  refine g_iconst (v := 0) X dX4_digest_220 (by decide) ?_
  refine g_istore_n (lv' := [(1, _), (0, _)]) X dX4_digest_221 rfl hl (by decide) rfl (fun ls hl => ?_)
  obtain ⟨v222, hL222, hF⟩ := obind hF
  refine w_X4_digest_222 X hI (fun ls hl => ?_) FU (0 : Int32) r217 hL222 ls (lv_sub hl [1, 0] rfl)
  refine g_aload_n X dX4_digest_247 rfl (lv_at hl 0 rfl) ?_
  refine g_get X 0 (mo_obj) in_X4_digest_X4 rfl 21 (by decide) (X.ts (.fieldLink RX4 223 "LeadTimesModel" "h" "J") (by decide +kernel)) rfl rfl dX4_digest_248 ?_
  exact g_lret X (pE_mk (some_inj hF)) dX4_digest_251
