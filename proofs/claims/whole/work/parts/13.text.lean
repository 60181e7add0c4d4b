theorem in_X2_put_X2 : ∀ w ∈ wsX20, w ∈ wsX2_put := by decide +kernel
def F_X2_put (a1 : Int32) (σ : Mem) : Option Mem := (if (σ 4 1) < 0 then some σ else (if (60 : Int32) ≤ (σ 4 1) then some σ else if inb (σ 4 1) 60 then (some (up2 (up2 σ 5 ((σ 4 1).toNatClampNeg) (vp_nar .char ((a1.toUInt32 % 65536).toInt32))) 4 1 (((up2 σ 5 ((σ 4 1).toNatClampNeg) (vp_nar .char ((a1.toUInt32 % 65536).toInt32))) 4 1) + (1 : Int32)))) else none))
set_option maxHeartbeats 4000000 in
set_option maxRecDepth 100000 in
theorem c_X2_put {l : Launch} {D : va_G} {ay : Nat → ClassId} {ad : Nat → Nat} {a1 : Int32} {σ : Mem} {res : Mem} (hI : adOK ad) (hF : F_X2_put a1 σ = some res) : Met l yX2_put wsX2_put ({ frames := 0, cells := 0, slots := 0, locals := 0 } : Room) (va_Pc [.ref (ad 4), .int a1] (PP D ay (wC ay ad σ))) (va_Qv (pV res) (fun τ => PP D ay (wC ay ad τ)) (AC ad)) 0 0 (AC ad) := by
  refine g_start (wd := wC ay ad) (A := AC ad) (own := RX2) (mL := 2) (rt := none) (by decide) rfl rfl (Nat.le_of_ble_eq_true rfl) ?_
  intro p e s m below meth c ls X hl
  have hl : lv_has ls 2 [(0, .ref (ad 4)), (1, .int a1)] := hl
  rw [F_X2_put] at hF
  refine g_aload_n X dX2_put_0 rfl (lv_at hl 0 rfl) ?_
  refine g_get X 4 (tx_obj) in_X2_put_X2 rfl 1 (by decide) (X.ts (.fieldLink RX2 15 "LeadTimes$Text" "length" "I") (by decide +kernel)) rfl rfl dX2_put_1 ?_
  refine g_if_lt (tgt := 37) X dX2_put_4 (by decide) (fun hc4 => ?_) (fun hc4 => ?_)
  · have hF := ite_t hF hc4
    exact g_vret X (pV_mk (some_inj hF)) dX2_put_37
  · have hF := ite_f hF hc4
    refine g_aload_n X dX2_put_7 rfl (lv_at hl 0 rfl) ?_
    refine g_get X 4 (tx_obj) in_X2_put_X2 rfl 1 (by decide) (X.ts (.fieldLink RX2 15 "LeadTimes$Text" "length" "I") (by decide +kernel)) rfl rfl dX2_put_8 ?_
    refine g_bipush (v := 60) X dX2_put_11 (by decide) ?_
    refine g_icmp_ge (tgt := 37) X dX2_put_13 (by decide) (fun hc13 => ?_) (fun hc13 => ?_)
    · have hF := ite_t hF hc13
      exact g_vret X (pV_mk (some_inj hF)) dX2_put_37
    · have hF := ite_f hF hc13
      refine g_aload_n X dX2_put_16 rfl (lv_at hl 0 rfl) ?_
      refine g_get X 4 (tx_obj) in_X2_put_X2 rfl 0 (by decide) (X.ts (.fieldLink RX2 9 "LeadTimes$Text" "codes" "[C") (by decide +kernel)) rfl rfl dX2_put_17 ?_
      refine g_aload_n X dX2_put_20 rfl (lv_at hl 0 rfl) ?_
      refine g_get X 4 (tx_obj) in_X2_put_X2 rfl 1 (by decide) (X.ts (.fieldLink RX2 15 "LeadTimes$Text" "length" "I") (by decide +kernel)) rfl rfl dX2_put_21 ?_
      refine g_iload_n X dX2_put_24 rfl (lv_at hl 1 rfl) ?_
      refine g_i2c X dX2_put_25 ?_
      obtain ⟨h26, hF⟩ := itn hF
      refine g_cast X (wC_D hI) (up2 σ 5 ((σ 4 1).toNatClampNeg) (vp_nar .char ((a1.toUInt32 % 65536).toInt32))) 5 (j := (σ 4 1).toNatClampNeg) (cd_arr) (by first | rfl | decide) (set_arr (a := 2) (n := 60) (fun τ => cd_arr)) (inb_in h26) dX2_put_26 ?_
      refine g_aload_n X dX2_put_27 rfl (lv_at hl 0 rfl) ?_
      refine g_dup X dX2_put_28 rfl ?_
      refine g_get X 4 (tx_obj) in_X2_put_X2 rfl 1 (by decide) (X.ts (.fieldLink RX2 15 "LeadTimes$Text" "length" "I") (by decide +kernel)) rfl rfl dX2_put_29 ?_
      refine g_iconst (v := 1) X dX2_put_32 (by decide) ?_
      refine g_iadd X dX2_put_33 ?_
      refine g_put X (wC_D hI) (up2 (up2 σ 5 ((σ 4 1).toNatClampNeg) (vp_nar .char ((a1.toUInt32 % 65536).toInt32))) 4 1 (((up2 σ 5 ((σ 4 1).toNatClampNeg) (vp_nar .char ((a1.toUInt32 % 65536).toInt32))) 4 1) + (1 : Int32))) 4 (tx_obj) 1 (set_tx (by decide) (by decide)) tyX2 tyX2_ok nmX2 in_X2_put_X2 rfl (by decide) (X.ts (.fieldLink RX2 15 "LeadTimes$Text" "length" "I") (by decide +kernel)) rfl rfl rfl rfl rfl (Nat.le_of_ble_eq_true rfl) dX2_put_34 ?_
      exact g_vret X (pV_mk (some_inj hF)) dX2_put_37
theorem in_X2_codeAt_X2 : ∀ w ∈ wsX20, w ∈ wsX2_codeAt := by decide +kernel
def F_X2_codeAt (a1 : Int32) (σ : Mem) : Option Int32 := (if a1 < 0 then some (0 : Int32) else (if (σ 4 1) ≤ a1 then some (0 : Int32) else (if (60 : Int32) ≤ a1 then some (0 : Int32) else if inb a1 60 then (some (σ 5 a1.toNatClampNeg)) else none)))
set_option maxHeartbeats 4000000 in
set_option maxRecDepth 100000 in
theorem c_X2_codeAt {l : Launch} {D : va_G} {ay : Nat → ClassId} {ad : Nat → Nat} {a1 : Int32} {σ : Mem} {res : Int32} (hI : adOK ad) (hF : F_X2_codeAt a1 σ = some res) : Met l yX2_codeAt wsX2_codeAt ({ frames := 0, cells := 0, slots := 0, locals := 0 } : Room) (va_Pc [.ref (ad 4), .int a1] (PP D ay (wC ay ad σ))) (va_Qi (pP res σ) (fun τ => PP D ay (wC ay ad τ)) (AC ad)) 0 0 (AC ad) := by
  refine g_start (wd := wC ay ad) (A := AC ad) (own := RX2) (mL := 2) (rt := (some .int)) (by decide) rfl rfl (Nat.le_of_ble_eq_true rfl) ?_
  intro p e s m below meth c ls X hl
  have hl : lv_has ls 2 [(0, .ref (ad 4)), (1, .int a1)] := hl
  rw [F_X2_codeAt] at hF
  refine g_iload_n X dX2_codeAt_0 rfl (lv_at hl 1 rfl) ?_
  refine g_if_lt (tgt := 27) X dX2_codeAt_1 (by decide) (fun hc1 => ?_) (fun hc1 => ?_)
  · have hF := ite_t hF hc1
    refine g_iconst (v := 0) X dX2_codeAt_27 (by decide) ?_
    exact g_iret X (pP_mk (some_inj hF)) dX2_codeAt_28
  · have hF := ite_f hF hc1
    refine g_iload_n X dX2_codeAt_4 rfl (lv_at hl 1 rfl) ?_
    refine g_aload_n X dX2_codeAt_5 rfl (lv_at hl 0 rfl) ?_
    refine g_get X 4 (tx_obj) in_X2_codeAt_X2 rfl 1 (by decide) (X.ts (.fieldLink RX2 15 "LeadTimes$Text" "length" "I") (by decide +kernel)) rfl rfl dX2_codeAt_6 ?_
    refine g_icmp_ge (tgt := 27) X dX2_codeAt_9 (by decide) (fun hc9 => ?_) (fun hc9 => ?_)
    · have hF := ite_t hF hc9
      refine g_iconst (v := 0) X dX2_codeAt_27 (by decide) ?_
      exact g_iret X (pP_mk (some_inj hF)) dX2_codeAt_28
    · have hF := ite_f hF hc9
      refine g_iload_n X dX2_codeAt_12 rfl (lv_at hl 1 rfl) ?_
      refine g_bipush (v := 60) X dX2_codeAt_13 (by decide) ?_
      refine g_icmp_ge (tgt := 27) X dX2_codeAt_15 (by decide) (fun hc15 => ?_) (fun hc15 => ?_)
      · have hF := ite_t hF hc15
        refine g_iconst (v := 0) X dX2_codeAt_27 (by decide) ?_
        exact g_iret X (pP_mk (some_inj hF)) dX2_codeAt_28
      · have hF := ite_f hF hc15
        refine g_aload_n X dX2_codeAt_18 rfl (lv_at hl 0 rfl) ?_
        refine g_get X 4 (tx_obj) in_X2_codeAt_X2 rfl 0 (by decide) (X.ts (.fieldLink RX2 9 "LeadTimes$Text" "codes" "[C") (by decide +kernel)) rfl rfl dX2_codeAt_19 ?_
        refine g_iload_n X dX2_codeAt_22 rfl (lv_at hl 1 rfl) ?_
        obtain ⟨h23, hF⟩ := itn hF
        refine g_cald X 5 (j := a1.toNatClampNeg) (cd_arr) (by first | rfl | decide) (inb_in h23) dX2_codeAt_23 ?_
        refine g_goto (tgt := 28) X dX2_codeAt_24 (by decide) ?_
        exact g_iret X (pP_mk (some_inj hF)) dX2_codeAt_28
def F_X2_isDigit (a0 : Int32) : Option Int32 := (if a0 < (48 : Int32) then some (0 : Int32) else (if (57 : Int32) < a0 then some (0 : Int32) else some (1 : Int32)))
set_option maxHeartbeats 4000000 in
set_option maxRecDepth 100000 in
theorem c_X2_isDigit {l : Launch} {D : va_G} {ay : Nat → ClassId} {ad : Nat → Nat} {a0 : Int32} {σ : Mem} {res : Int32} (hI : adOK ad) (hF : F_X2_isDigit a0 = some res) : Met l yX2_isDigit wsX2_isDigit ({ frames := 0, cells := 0, slots := 0, locals := 0 } : Room) (va_Pc [.int a0] (PP D ay (wC ay ad σ))) (va_Qi (pZ res σ) (fun τ => PP D ay (wC ay ad τ)) (AC ad)) 0 0 (AC ad) := by
  refine g_start (wd := wC ay ad) (A := AC ad) (own := RX2) (mL := 1) (rt := (some .boolean)) (by decide) rfl rfl (Nat.le_of_ble_eq_true rfl) ?_
  intro p e s m below meth c ls X hl
  have hl : lv_has ls 1 [(0, .int a0)] := hl
  rw [F_X2_isDigit] at hF
  refine g_iload_n X dX2_isDigit_0 rfl (lv_at hl 0 rfl) ?_
  refine g_bipush (v := 48) X dX2_isDigit_1 (by decide) ?_
  refine g_icmp_lt (tgt := 16) X dX2_isDigit_3 (by decide) (fun hc3 => ?_) (fun hc3 => ?_)
  · have hF := ite_t hF hc3
    refine g_iconst (v := 0) X dX2_isDigit_16 (by decide) ?_
    exact g_zret X rfl (pZ_mk (some_inj hF) rfl) dX2_isDigit_17
  · have hF := ite_f hF hc3
    refine g_iload_n X dX2_isDigit_6 rfl (lv_at hl 0 rfl) ?_
    refine g_bipush (v := 57) X dX2_isDigit_7 (by decide) ?_
    refine g_icmp_gt (tgt := 16) X dX2_isDigit_9 (by decide) (fun hc9 => ?_) (fun hc9 => ?_)
    · have hF := ite_t hF hc9
      refine g_iconst (v := 0) X dX2_isDigit_16 (by decide) ?_
      exact g_zret X rfl (pZ_mk (some_inj hF) rfl) dX2_isDigit_17
    · have hF := ite_f hF hc9
      refine g_iconst (v := 1) X dX2_isDigit_12 (by decide) ?_
      refine g_goto (tgt := 17) X dX2_isDigit_13 (by decide) ?_
      exact g_zret X rfl (pZ_mk (some_inj hF) rfl) dX2_isDigit_17
def F_X2_placeAfterFirstDigit (a0 : Int32) (a1 : Int32) (a2 : Int32) : Option Int32 := (if ¬ a0 = (48 : Int32) then Option.bind (F_X2_isDigit a0) (fun r9 => (if r9 = 0 then some (9 : Int32) else some a1)) else some a2)
set_option maxHeartbeats 4000000 in
set_option maxRecDepth 100000 in
theorem c_X2_placeAfterFirstDigit {l : Launch} {D : va_G} {ay : Nat → ClassId} {ad : Nat → Nat} {a0 : Int32} {a1 : Int32} {a2 : Int32} {σ : Mem} {res : Int32} (hI : adOK ad) (hF : F_X2_placeAfterFirstDigit a0 a1 a2 = some res) : Met l yX2_placeAfterFirstDigit wsX2_placeAfterFirstDigit ({ frames := 1, cells := 0, slots := 0, locals := 20 } : Room) (va_Pc [.int a0, .int a1, .int a2] (PP D ay (wC ay ad σ))) (va_Qi (pP res σ) (fun τ => PP D ay (wC ay ad τ)) (AC ad)) 0 0 (AC ad) := by
  refine g_start (wd := wC ay ad) (A := AC ad) (own := RX2) (mL := 3) (rt := (some .int)) (by decide) rfl rfl (Nat.le_of_ble_eq_true rfl) ?_
  intro p e s m below meth c ls X hl
  have hl : lv_has ls 3 [(0, .int a0), (1, .int a1), (2, .int a2)] := hl
  rw [F_X2_placeAfterFirstDigit] at hF
  refine g_iload_n X dX2_placeAfterFirstDigit_0 rfl (lv_at hl 0 rfl) ?_
  refine g_bipush (v := 48) X dX2_placeAfterFirstDigit_1 (by decide) ?_
  refine g_icmp_ne (tgt := 8) X dX2_placeAfterFirstDigit_3 (by decide) (fun hc3 => ?_) (fun hc3 => ?_)
  · have hF := ite_t hF hc3
    refine g_iload_n X dX2_placeAfterFirstDigit_8 rfl (lv_at hl 0 rfl) ?_
    obtain ⟨r9, hr9, hF⟩ := obind hF
    refine k_Sz X (As := [.int a0]) (rest := []) (c_X2_isDigit hI hr9) (va_cwS 1 X.ts gX2_placeAfterFirstDigit_X2_isDigit rfl rfl rfl (by decide +kernel) ⟨Nat.le_of_ble_eq_true rfl, Nat.le_of_ble_eq_true rfl⟩) rfl hl.1 rfl (Nat.le_of_ble_eq_true rfl) dX2_placeAfterFirstDigit_9 (fun hz9 => ?_)
    refine g_if_eq (tgt := 19) X dX2_placeAfterFirstDigit_12 (by decide) (fun hc12 => ?_) (fun hc12 => ?_)
    · have hF := ite_t hF hc12
      refine g_bipush (v := 9) X dX2_placeAfterFirstDigit_19 (by decide) ?_
      exact g_iret X (pP_mk (some_inj hF)) dX2_placeAfterFirstDigit_21
    · have hF := ite_f hF hc12
      refine g_iload_n X dX2_placeAfterFirstDigit_15 rfl (lv_at hl 1 rfl) ?_
      refine g_goto (tgt := 21) X dX2_placeAfterFirstDigit_16 (by decide) ?_
      exact g_iret X (pP_mk (some_inj hF)) dX2_placeAfterFirstDigit_21
  · have hF := ite_n hF hc3
    refine g_iload_n X dX2_placeAfterFirstDigit_6 rfl (lv_at hl 2 rfl) ?_
    exact g_iret X (pP_mk (some_inj hF)) dX2_placeAfterFirstDigit_7
def F_X2_isSign (a0 : Int32) : Option Int32 := (if a0 = (43 : Int32) then some (1 : Int32) else (if ¬ a0 = (45 : Int32) then some (0 : Int32) else some (1 : Int32)))
set_option maxHeartbeats 4000000 in
set_option maxRecDepth 100000 in
theorem c_X2_isSign {l : Launch} {D : va_G} {ay : Nat → ClassId} {ad : Nat → Nat} {a0 : Int32} {σ : Mem} {res : Int32} (hI : adOK ad) (hF : F_X2_isSign a0 = some res) : Met l yX2_isSign wsX2_isSign ({ frames := 0, cells := 0, slots := 0, locals := 0 } : Room) (va_Pc [.int a0] (PP D ay (wC ay ad σ))) (va_Qi (pZ res σ) (fun τ => PP D ay (wC ay ad τ)) (AC ad)) 0 0 (AC ad) := by
  refine g_start (wd := wC ay ad) (A := AC ad) (own := RX2) (mL := 1) (rt := (some .boolean)) (by decide) rfl rfl (Nat.le_of_ble_eq_true rfl) ?_
  intro p e s m below meth c ls X hl
  have hl : lv_has ls 1 [(0, .int a0)] := hl
  rw [F_X2_isSign] at hF
  refine g_iload_n X dX2_isSign_0 rfl (lv_at hl 0 rfl) ?_
  refine g_bipush (v := 43) X dX2_isSign_1 (by decide) ?_
  refine g_icmp_eq (tgt := 12) X dX2_isSign_3 (by decide) (fun hc3 => ?_) (fun hc3 => ?_)
  · have hF := ite_t hF hc3
    refine g_iconst (v := 1) X dX2_isSign_12 (by decide) ?_
    refine g_goto (tgt := 17) X dX2_isSign_13 (by decide) ?_
    exact g_zret X rfl (pZ_mk (some_inj hF) rfl) dX2_isSign_17
  · have hF := ite_f hF hc3
    refine g_iload_n X dX2_isSign_6 rfl (lv_at hl 0 rfl) ?_
    refine g_bipush (v := 45) X dX2_isSign_7 (by decide) ?_
    refine g_icmp_ne (tgt := 16) X dX2_isSign_9 (by decide) (fun hc9 => ?_) (fun hc9 => ?_)
    · have hF := ite_t hF hc9
      refine g_iconst (v := 0) X dX2_isSign_16 (by decide) ?_
      exact g_zret X rfl (pZ_mk (some_inj hF) rfl) dX2_isSign_17
    · have hF := ite_n hF hc9
      refine g_iconst (v := 1) X dX2_isSign_12 (by decide) ?_
      refine g_goto (tgt := 17) X dX2_isSign_13 (by decide) ?_
      exact g_zret X rfl (pZ_mk (some_inj hF) rfl) dX2_isSign_17
def F_X2_placeAfter (a0 : Int32) (a1 : Int32) : Option Int32 := (if a0 = 0 then (if ¬ a1 = (45 : Int32) then Option.bind (F_X2_placeAfterFirstDigit a1 (2 : Int32) (5 : Int32)) (fun r65 => some r65) else some (1 : Int32)) else (if a0 = 1 then Option.bind (F_X2_placeAfterFirstDigit a1 (2 : Int32) (5 : Int32)) (fun r72 => some r72) else (if a0 = 2 then Option.bind (F_X2_isDigit a1) (fun r77 => (if r77 = 0 then Option.bind (F_X2_isSign a1) (fun r90 => (if r90 = 0 then some (9 : Int32) else some (6 : Int32))) else some (a0 + (1 : Int32)))) else (if a0 = 3 then Option.bind (F_X2_isDigit a1) (fun r77 => (if r77 = 0 then Option.bind (F_X2_isSign a1) (fun r90 => (if r90 = 0 then some (9 : Int32) else some (6 : Int32))) else some (a0 + (1 : Int32)))) else (if a0 = 4 then Option.bind (F_X2_isDigit a1) (fun r77 => (if r77 = 0 then Option.bind (F_X2_isSign a1) (fun r90 => (if r90 = 0 then some (9 : Int32) else some (6 : Int32))) else some (a0 + (1 : Int32)))) else (if a0 = 5 then Option.bind (F_X2_isSign a1) (fun r105 => (if r105 = 0 then some (9 : Int32) else some (6 : Int32))) else (if a0 = 6 then Option.bind (F_X2_placeAfterFirstDigit a1 (7 : Int32) (8 : Int32)) (fun r124 => some r124) else (if a0 = 7 then Option.bind (F_X2_isDigit a1) (fun r129 => (if r129 = 0 then (if ¬ a1 = (59 : Int32) then some (9 : Int32) else some (0 : Int32)) else some (8 : Int32))) else (if a0 = 8 then (if ¬ a1 = (59 : Int32) then some (9 : Int32) else some (0 : Int32)) else some (9 : Int32))))))))))
set_option maxHeartbeats 4000000 in
set_option maxRecDepth 100000 in
theorem c_X2_placeAfter {l : Launch} {D : va_G} {ay : Nat → ClassId} {ad : Nat → Nat} {a0 : Int32} {a1 : Int32} {σ : Mem} {res : Int32} (hI : adOK ad) (hF : F_X2_placeAfter a0 a1 = some res) : Met l yX2_placeAfter wsX2_placeAfter ({ frames := 2, cells := 0, slots := 0, locals := 42 } : Room) (va_Pc [.int a0, .int a1] (PP D ay (wC ay ad σ))) (va_Qi (pP res σ) (fun τ => PP D ay (wC ay ad τ)) (AC ad)) 0 0 (AC ad) := by
  refine g_start (wd := wC ay ad) (A := AC ad) (own := RX2) (mL := 2) (rt := (some .int)) (by decide) rfl rfl (Nat.le_of_ble_eq_true rfl) ?_
  intro p e s m below meth c ls X hl
  have hl : lv_has ls 2 [(0, .int a0), (1, .int a1)] := hl
  rw [F_X2_placeAfter] at hF
  refine g_iload_n X dX2_placeAfter_0 rfl (lv_at hl 0 rfl) ?_
  by_cases hc1_0 : a0 = 0
  · have hF := ite_t hF hc1_0
    refine g_tableIn (tgt := 52) X dX2_placeAfter_1 (by rw [hc1_0]; decide) (by rw [hc1_0]; decide) (by rw [hc1_0]; rfl) (by decide) ?_
    refine g_iload_n X dX2_placeAfter_52 rfl (lv_at hl 1 rfl) ?_
    refine g_bipush (v := 45) X dX2_placeAfter_53 (by decide) ?_
    refine g_icmp_ne (tgt := 62) X dX2_placeAfter_55 (by decide) (fun hc55 => ?_) (fun hc55 => ?_)
    · have hF := ite_t hF hc55
      refine g_iload_n X dX2_placeAfter_62 rfl (lv_at hl 1 rfl) ?_
      refine g_iconst (v := 2) X dX2_placeAfter_63 (by decide) ?_
      refine g_iconst (v := 5) X dX2_placeAfter_64 (by decide) ?_
      obtain ⟨r65, hr65, hF⟩ := obind hF
      refine k_Si X (As := [.int a1, .int (2 : Int32), .int (5 : Int32)]) (rest := []) (c_X2_placeAfterFirstDigit hI hr65) (va_cwS 3 X.ts gX2_placeAfter_X2_placeAfterFirstDigit rfl rfl rfl (by decide +kernel) ⟨Nat.le_of_ble_eq_true rfl, Nat.le_of_ble_eq_true rfl⟩) rfl hl.1 rfl (Nat.le_of_ble_eq_true rfl) dX2_placeAfter_65 ?_
      exact g_iret X (pP_mk (some_inj hF)) dX2_placeAfter_68
    · have hF := ite_n hF hc55
      refine g_iconst (v := 1) X dX2_placeAfter_58 (by decide) ?_
      refine g_goto (tgt := 68) X dX2_placeAfter_59 (by decide) ?_
      exact g_iret X (pP_mk (some_inj hF)) dX2_placeAfter_68
  have hF := ite_f hF hc1_0
  by_cases hc1_1 : a0 = 1
  · have hF := ite_t hF hc1_1
    refine g_tableIn (tgt := 69) X dX2_placeAfter_1 (by rw [hc1_1]; decide) (by rw [hc1_1]; decide) (by rw [hc1_1]; rfl) (by decide) ?_
    refine g_iload_n X dX2_placeAfter_69 rfl (lv_at hl 1 rfl) ?_
    refine g_iconst (v := 2) X dX2_placeAfter_70 (by decide) ?_
    refine g_iconst (v := 5) X dX2_placeAfter_71 (by decide) ?_
    obtain ⟨r72, hr72, hF⟩ := obind hF
    refine k_Si X (As := [.int a1, .int (2 : Int32), .int (5 : Int32)]) (rest := []) (c_X2_placeAfterFirstDigit hI hr72) (va_cwS 3 X.ts gX2_placeAfter_X2_placeAfterFirstDigit rfl rfl rfl (by decide +kernel) ⟨Nat.le_of_ble_eq_true rfl, Nat.le_of_ble_eq_true rfl⟩) rfl hl.1 rfl (Nat.le_of_ble_eq_true rfl) dX2_placeAfter_72 ?_
    exact g_iret X (pP_mk (some_inj hF)) dX2_placeAfter_75
  have hF := ite_f hF hc1_1
  by_cases hc1_2 : a0 = 2
  · have hF := ite_t hF hc1_2
    refine g_tableIn (tgt := 76) X dX2_placeAfter_1 (by rw [hc1_2]; decide) (by rw [hc1_2]; decide) (by rw [hc1_2]; rfl) (by decide) ?_
    refine g_iload_n X dX2_placeAfter_76 rfl (lv_at hl 1 rfl) ?_
    obtain ⟨r77, hr77, hF⟩ := obind hF
    refine k_Sz X (As := [.int a1]) (rest := []) (c_X2_isDigit hI hr77) (va_cwS 1 X.ts gX2_placeAfter_X2_isDigit rfl rfl rfl (by decide +kernel) ⟨Nat.le_of_ble_eq_true rfl, Nat.le_of_ble_eq_true rfl⟩) rfl hl.1 rfl (Nat.le_of_ble_eq_true rfl) dX2_placeAfter_77 (fun hz77 => ?_)
    refine g_if_eq (tgt := 89) X dX2_placeAfter_80 (by decide) (fun hc80 => ?_) (fun hc80 => ?_)
    · have hF := ite_t hF hc80
      refine g_iload_n X dX2_placeAfter_89 rfl (lv_at hl 1 rfl) ?_
      obtain ⟨r90, hr90, hF⟩ := obind hF
      refine k_Sz X (As := [.int a1]) (rest := []) (c_X2_isSign hI hr90) (va_cwS 1 X.ts gX2_placeAfter_X2_isSign rfl rfl rfl (by decide +kernel) ⟨Nat.le_of_ble_eq_true rfl, Nat.le_of_ble_eq_true rfl⟩) rfl hl.1 rfl (Nat.le_of_ble_eq_true rfl) dX2_placeAfter_90 (fun hz90 => ?_)
      refine g_if_eq (tgt := 101) X dX2_placeAfter_93 (by decide) (fun hc93 => ?_) (fun hc93 => ?_)
      · have hF := ite_t hF hc93
        refine g_bipush (v := 9) X dX2_placeAfter_101 (by decide) ?_
        exact g_iret X (pP_mk (some_inj hF)) dX2_placeAfter_103
      · have hF := ite_f hF hc93
        refine g_bipush (v := 6) X dX2_placeAfter_96 (by decide) ?_
        refine g_goto (tgt := 103) X dX2_placeAfter_98 (by decide) ?_
        exact g_iret X (pP_mk (some_inj hF)) dX2_placeAfter_103
    · have hF := ite_f hF hc80
      refine g_iload_n X dX2_placeAfter_83 rfl (lv_at hl 0 rfl) ?_
      refine g_iconst (v := 1) X dX2_placeAfter_84 (by decide) ?_
      refine g_iadd X dX2_placeAfter_85 ?_
      refine g_goto (tgt := 103) X dX2_placeAfter_86 (by decide) ?_
      exact g_iret X (pP_mk (some_inj hF)) dX2_placeAfter_103
  have hF := ite_f hF hc1_2
  by_cases hc1_3 : a0 = 3
  · have hF := ite_t hF hc1_3
    refine g_tableIn (tgt := 76) X dX2_placeAfter_1 (by rw [hc1_3]; decide) (by rw [hc1_3]; decide) (by rw [hc1_3]; rfl) (by decide) ?_
    refine g_iload_n X dX2_placeAfter_76 rfl (lv_at hl 1 rfl) ?_
    obtain ⟨r77, hr77, hF⟩ := obind hF
    refine k_Sz X (As := [.int a1]) (rest := []) (c_X2_isDigit hI hr77) (va_cwS 1 X.ts gX2_placeAfter_X2_isDigit rfl rfl rfl (by decide +kernel) ⟨Nat.le_of_ble_eq_true rfl, Nat.le_of_ble_eq_true rfl⟩) rfl hl.1 rfl (Nat.le_of_ble_eq_true rfl) dX2_placeAfter_77 (fun hz77 => ?_)
    refine g_if_eq (tgt := 89) X dX2_placeAfter_80 (by decide) (fun hc80 => ?_) (fun hc80 => ?_)
    · have hF := ite_t hF hc80
      refine g_iload_n X dX2_placeAfter_89 rfl (lv_at hl 1 rfl) ?_
      obtain ⟨r90, hr90, hF⟩ := obind hF
      refine k_Sz X (As := [.int a1]) (rest := []) (c_X2_isSign hI hr90) (va_cwS 1 X.ts gX2_placeAfter_X2_isSign rfl rfl rfl (by decide +kernel) ⟨Nat.le_of_ble_eq_true rfl, Nat.le_of_ble_eq_true rfl⟩) rfl hl.1 rfl (Nat.le_of_ble_eq_true rfl) dX2_placeAfter_90 (fun hz90 => ?_)
      refine g_if_eq (tgt := 101) X dX2_placeAfter_93 (by decide) (fun hc93 => ?_) (fun hc93 => ?_)
      · have hF := ite_t hF hc93
        refine g_bipush (v := 9) X dX2_placeAfter_101 (by decide) ?_
        exact g_iret X (pP_mk (some_inj hF)) dX2_placeAfter_103
      · have hF := ite_f hF hc93
        refine g_bipush (v := 6) X dX2_placeAfter_96 (by decide) ?_
        refine g_goto (tgt := 103) X dX2_placeAfter_98 (by decide) ?_
        exact g_iret X (pP_mk (some_inj hF)) dX2_placeAfter_103
    · have hF := ite_f hF hc80
      refine g_iload_n X dX2_placeAfter_83 rfl (lv_at hl 0 rfl) ?_
      refine g_iconst (v := 1) X dX2_placeAfter_84 (by decide) ?_
      refine g_iadd X dX2_placeAfter_85 ?_
      refine g_goto (tgt := 103) X dX2_placeAfter_86 (by decide) ?_
      exact g_iret X (pP_mk (some_inj hF)) dX2_placeAfter_103
  have hF := ite_f hF hc1_3
  by_cases hc1_4 : a0 = 4
  · have hF := ite_t hF hc1_4
    refine g_tableIn (tgt := 76) X dX2_placeAfter_1 (by rw [hc1_4]; decide) (by rw [hc1_4]; decide) (by rw [hc1_4]; rfl) (by decide) ?_
    refine g_iload_n X dX2_placeAfter_76 rfl (lv_at hl 1 rfl) ?_
    obtain ⟨r77, hr77, hF⟩ := obind hF
    refine k_Sz X (As := [.int a1]) (rest := []) (c_X2_isDigit hI hr77) (va_cwS 1 X.ts gX2_placeAfter_X2_isDigit rfl rfl rfl (by decide +kernel) ⟨Nat.le_of_ble_eq_true rfl, Nat.le_of_ble_eq_true rfl⟩) rfl hl.1 rfl (Nat.le_of_ble_eq_true rfl) dX2_placeAfter_77 (fun hz77 => ?_)
    refine g_if_eq (tgt := 89) X dX2_placeAfter_80 (by decide) (fun hc80 => ?_) (fun hc80 => ?_)
    · have hF := ite_t hF hc80
      refine g_iload_n X dX2_placeAfter_89 rfl (lv_at hl 1 rfl) ?_
      obtain ⟨r90, hr90, hF⟩ := obind hF
      refine k_Sz X (As := [.int a1]) (rest := []) (c_X2_isSign hI hr90) (va_cwS 1 X.ts gX2_placeAfter_X2_isSign rfl rfl rfl (by decide +kernel) ⟨Nat.le_of_ble_eq_true rfl, Nat.le_of_ble_eq_true rfl⟩) rfl hl.1 rfl (Nat.le_of_ble_eq_true rfl) dX2_placeAfter_90 (fun hz90 => ?_)
      refine g_if_eq (tgt := 101) X dX2_placeAfter_93 (by decide) (fun hc93 => ?_) (fun hc93 => ?_)
      · have hF := ite_t hF hc93
        refine g_bipush (v := 9) X dX2_placeAfter_101 (by decide) ?_
        exact g_iret X (pP_mk (some_inj hF)) dX2_placeAfter_103
      · have hF := ite_f hF hc93
        refine g_bipush (v := 6) X dX2_placeAfter_96 (by decide) ?_
        refine g_goto (tgt := 103) X dX2_placeAfter_98 (by decide) ?_
        exact g_iret X (pP_mk (some_inj hF)) dX2_placeAfter_103
    · have hF := ite_f hF hc80
      refine g_iload_n X dX2_placeAfter_83 rfl (lv_at hl 0 rfl) ?_
      refine g_iconst (v := 1) X dX2_placeAfter_84 (by decide) ?_
      refine g_iadd X dX2_placeAfter_85 ?_
      refine g_goto (tgt := 103) X dX2_placeAfter_86 (by decide) ?_
      exact g_iret X (pP_mk (some_inj hF)) dX2_placeAfter_103
  have hF := ite_f hF hc1_4
  by_cases hc1_5 : a0 = 5
  · have hF := ite_t hF hc1_5
    refine g_tableIn (tgt := 104) X dX2_placeAfter_1 (by rw [hc1_5]; decide) (by rw [hc1_5]; decide) (by rw [hc1_5]; rfl) (by decide) ?_
    refine g_iload_n X dX2_placeAfter_104 rfl (lv_at hl 1 rfl) ?_
    obtain ⟨r105, hr105, hF⟩ := obind hF
    refine k_Sz X (As := [.int a1]) (rest := []) (c_X2_isSign hI hr105) (va_cwS 1 X.ts gX2_placeAfter_X2_isSign rfl rfl rfl (by decide +kernel) ⟨Nat.le_of_ble_eq_true rfl, Nat.le_of_ble_eq_true rfl⟩) rfl hl.1 rfl (Nat.le_of_ble_eq_true rfl) dX2_placeAfter_105 (fun hz105 => ?_)
    refine g_if_eq (tgt := 116) X dX2_placeAfter_108 (by decide) (fun hc108 => ?_) (fun hc108 => ?_)
    · have hF := ite_t hF hc108
      refine g_bipush (v := 9) X dX2_placeAfter_116 (by decide) ?_
      exact g_iret X (pP_mk (some_inj hF)) dX2_placeAfter_118
    · have hF := ite_f hF hc108
      refine g_bipush (v := 6) X dX2_placeAfter_111 (by decide) ?_
      refine g_goto (tgt := 118) X dX2_placeAfter_113 (by decide) ?_
      exact g_iret X (pP_mk (some_inj hF)) dX2_placeAfter_118
  have hF := ite_f hF hc1_5
  by_cases hc1_6 : a0 = 6
  · have hF := ite_t hF hc1_6
    refine g_tableIn (tgt := 119) X dX2_placeAfter_1 (by rw [hc1_6]; decide) (by rw [hc1_6]; decide) (by rw [hc1_6]; rfl) (by decide) ?_
    refine g_iload_n X dX2_placeAfter_119 rfl (lv_at hl 1 rfl) ?_
    refine g_bipush (v := 7) X dX2_placeAfter_120 (by decide) ?_
    refine g_bipush (v := 8) X dX2_placeAfter_122 (by decide) ?_
    obtain ⟨r124, hr124, hF⟩ := obind hF
    refine k_Si X (As := [.int a1, .int (7 : Int32), .int (8 : Int32)]) (rest := []) (c_X2_placeAfterFirstDigit hI hr124) (va_cwS 3 X.ts gX2_placeAfter_X2_placeAfterFirstDigit rfl rfl rfl (by decide +kernel) ⟨Nat.le_of_ble_eq_true rfl, Nat.le_of_ble_eq_true rfl⟩) rfl hl.1 rfl (Nat.le_of_ble_eq_true rfl) dX2_placeAfter_124 ?_
    exact g_iret X (pP_mk (some_inj hF)) dX2_placeAfter_127
  have hF := ite_f hF hc1_6
  by_cases hc1_7 : a0 = 7
  · have hF := ite_t hF hc1_7
    refine g_tableIn (tgt := 128) X dX2_placeAfter_1 (by rw [hc1_7]; decide) (by rw [hc1_7]; decide) (by rw [hc1_7]; rfl) (by decide) ?_
    refine g_iload_n X dX2_placeAfter_128 rfl (lv_at hl 1 rfl) ?_
    obtain ⟨r129, hr129, hF⟩ := obind hF
    refine k_Sz X (As := [.int a1]) (rest := []) (c_X2_isDigit hI hr129) (va_cwS 1 X.ts gX2_placeAfter_X2_isDigit rfl rfl rfl (by decide +kernel) ⟨Nat.le_of_ble_eq_true rfl, Nat.le_of_ble_eq_true rfl⟩) rfl hl.1 rfl (Nat.le_of_ble_eq_true rfl) dX2_placeAfter_129 (fun hz129 => ?_)
    refine g_if_eq (tgt := 140) X dX2_placeAfter_132 (by decide) (fun hc132 => ?_) (fun hc132 => ?_)
    · have hF := ite_t hF hc132
      refine g_iload_n X dX2_placeAfter_140 rfl (lv_at hl 1 rfl) ?_
      refine g_bipush (v := 59) X dX2_placeAfter_141 (by decide) ?_
      refine g_icmp_ne (tgt := 150) X dX2_placeAfter_143 (by decide) (fun hc143 => ?_) (fun hc143 => ?_)
      · have hF := ite_t hF hc143
        refine g_bipush (v := 9) X dX2_placeAfter_150 (by decide) ?_
        exact g_iret X (pP_mk (some_inj hF)) dX2_placeAfter_152
      · have hF := ite_n hF hc143
        refine g_iconst (v := 0) X dX2_placeAfter_146 (by decide) ?_
        refine g_goto (tgt := 152) X dX2_placeAfter_147 (by decide) ?_
        exact g_iret X (pP_mk (some_inj hF)) dX2_placeAfter_152
    · have hF := ite_f hF hc132
      refine g_bipush (v := 8) X dX2_placeAfter_135 (by decide) ?_
      refine g_goto (tgt := 152) X dX2_placeAfter_137 (by decide) ?_
      exact g_iret X (pP_mk (some_inj hF)) dX2_placeAfter_152
  have hF := ite_f hF hc1_7
  by_cases hc1_8 : a0 = 8
  · have hF := ite_t hF hc1_8
    refine g_tableIn (tgt := 153) X dX2_placeAfter_1 (by rw [hc1_8]; decide) (by rw [hc1_8]; decide) (by rw [hc1_8]; rfl) (by decide) ?_
    refine g_iload_n X dX2_placeAfter_153 rfl (lv_at hl 1 rfl) ?_
    refine g_bipush (v := 59) X dX2_placeAfter_154 (by decide) ?_
    refine g_icmp_ne (tgt := 163) X dX2_placeAfter_156 (by decide) (fun hc156 => ?_) (fun hc156 => ?_)
    · have hF := ite_t hF hc156
      refine g_bipush (v := 9) X dX2_placeAfter_163 (by decide) ?_
      exact g_iret X (pP_mk (some_inj hF)) dX2_placeAfter_165
    · have hF := ite_n hF hc156
      refine g_iconst (v := 0) X dX2_placeAfter_159 (by decide) ?_
      refine g_goto (tgt := 165) X dX2_placeAfter_160 (by decide) ?_
      exact g_iret X (pP_mk (some_inj hF)) dX2_placeAfter_165
  have hF := ite_f hF hc1_8
  refine g_tableOut (tgt := 166) X dX2_placeAfter_1 (tb_out8 hc1_0 hc1_1 hc1_2 hc1_3 hc1_4 hc1_5 hc1_6 hc1_7 hc1_8) (by decide) ?_
  refine g_bipush (v := 9) X dX2_placeAfter_166 (by decide) ?_
  exact g_iret X (pP_mk (some_inj hF)) dX2_placeAfter_168
theorem in_X2_soundLength_X2 : ∀ w ∈ wsX20, w ∈ wsX2_soundLength := by decide +kernel
def L_X2_soundLength_4 (σ : Mem) : Nat → Int32 → Int32 → Option Int32
  | 0, _, _ => none
  | fu + 1, a1, a2 => (if (σ 4 1) ≤ a2 then some (σ 4 1) else Option.bind (F_X2_codeAt a2 σ) (fun r15 => Option.bind (F_X2_placeAfter a1 r15) (fun r18 => (if ¬ r18 = (9 : Int32) then L_X2_soundLength_4 σ fu r18 (a2 + 1) else some a2))))
set_option maxHeartbeats 4000000 in
set_option maxRecDepth 100000 in
theorem w_X2_soundLength_4 {D : va_G} {ay : Nat → ClassId} {ad : Nat → Nat} {p : Program} {l : Launch} {e : Env} {s : State} {m : MethodId} {args : Array Value} {below : List Frame} {meth : Method} {c : Code} {σ : Mem} {res : Int32} (X : CX D ay p s m args meth c cX2_soundLength 3 RX2 (some .int) wsX2_soundLength) (hI : adOK ad) : ∀ (fu : Nat) (a1 : Int32) (a2 : Int32), L_X2_soundLength_4 σ fu a1 a2 = some res → ∀ ls : Array Slot, lv_has ls 3 [(0, .ref (ad 4)), (1, .int a1), (2, .int a2)] → GW D (wC ay ad) (AC ad) p l e ({ frames := 3, cells := 0, slots := 0, locals := 63 } : Room) s m args below meth c (MQ below (va_Qi (pP res σ) (fun τ => PP D ay (wC ay ad τ)) (AC ad)) args s 0 0 (AC ad)) σ (F0 m 4 ls []) := by
  intro fu
  induction fu with
  | zero =>
    intro a1 a2 hF ls hl
    rw [L_X2_soundLength_4] at hF
    cases hF
  | succ fu ih =>
    intro a1 a2 hF ls hl
    rw [L_X2_soundLength_4] at hF
    refine g_iload_n X dX2_soundLength_4 rfl (lv_at hl 2 rfl) ?_
    refine g_aload_n X dX2_soundLength_5 rfl (lv_at hl 0 rfl) ?_
    refine g_get X 4 (tx_obj) in_X2_soundLength_X2 rfl 1 (by decide) (X.ts (.fieldLink RX2 15 "LeadTimes$Text" "length" "I") (by decide +kernel)) rfl rfl dX2_soundLength_6 ?_
    refine g_icmp_ge (tgt := 36) X dX2_soundLength_9 (by decide) (fun hc9 => ?_) (fun hc9 => ?_)
    · have hF := ite_t hF hc9
      refine g_aload_n X dX2_soundLength_36 rfl (lv_at hl 0 rfl) ?_
      refine g_get X 4 (tx_obj) in_X2_soundLength_X2 rfl 1 (by decide) (X.ts (.fieldLink RX2 15 "LeadTimes$Text" "length" "I") (by decide +kernel)) rfl rfl dX2_soundLength_37 ?_
      exact g_iret X (pP_mk (some_inj hF)) dX2_soundLength_40
    · have hF := ite_f hF hc9
      refine g_iload_n X dX2_soundLength_12 rfl (lv_at hl 1 rfl) ?_
      refine g_aload_n X dX2_soundLength_13 rfl (lv_at hl 0 rfl) ?_
      refine g_iload_n X dX2_soundLength_14 rfl (lv_at hl 2 rfl) ?_
      obtain ⟨r15, hr15, hF⟩ := obind hF
      refine k_Vi X (As := [.int a2]) (rest := [.int a1]) (c_X2_codeAt hI hr15) (cwV 1 X.ts gX2_soundLength_X2_codeAt rfl rfl rfl (by decide +kernel) ⟨Nat.le_of_ble_eq_true rfl, Nat.le_of_ble_eq_true rfl⟩) ⟨4, 2, _, _, tx_obj, rfl, rfl⟩ rfl hl.1 rfl (Nat.le_of_ble_eq_true rfl) dX2_soundLength_15 ?_
      obtain ⟨r18, hr18, hF⟩ := obind hF
      refine k_Si X (As := [.int a1, .int r15]) (rest := []) (c_X2_placeAfter hI hr18) (va_cwS 2 X.ts gX2_soundLength_X2_placeAfter rfl rfl rfl (by decide +kernel) ⟨Nat.le_of_ble_eq_true rfl, Nat.le_of_ble_eq_true rfl⟩) rfl hl.1 rfl (Nat.le_of_ble_eq_true rfl) dX2_soundLength_18 ?_
      refine g_istore_n (lv' := [(1, _), (0, _), (2, _)]) X dX2_soundLength_21 rfl hl (by decide) rfl (fun ls hl => ?_)
      refine g_iload_n X dX2_soundLength_22 rfl (lv_at hl 0 rfl) ?_
      refine g_bipush (v := 9) X dX2_soundLength_23 (by decide) ?_
      refine g_icmp_ne (tgt := 30) X dX2_soundLength_25 (by decide) (fun hc25 => ?_) (fun hc25 => ?_)
      · have hF := ite_t hF hc25
        refine g_iinc (v := a2 + 1) (lv' := [(2, _), (1, _), (0, _)]) X dX2_soundLength_30 hl (k := 2) rfl rfl (by decide) rfl (fun ls hl => ?_)
        refine g_goto (tgt := 4) X dX2_soundLength_33 (by decide) ?_
        exact ih r18 (a2 + 1) hF ls (lv_sub hl [2, 1, 0] rfl)
      · have hF := ite_n hF hc25
        refine g_iload_n X dX2_soundLength_28 rfl (lv_at hl 2 rfl) ?_
        exact g_iret X (pP_mk (some_inj hF)) dX2_soundLength_29
def F_X2_soundLength (σ : Mem) : Option Int32 := L_X2_soundLength_4 σ FU (0 : Int32) (0 : Int32)
set_option maxHeartbeats 4000000 in
set_option maxRecDepth 100000 in
theorem c_X2_soundLength {l : Launch} {D : va_G} {ay : Nat → ClassId} {ad : Nat → Nat} {σ : Mem} {res : Int32} (hI : adOK ad) (hF : F_X2_soundLength  σ = some res) : Met l yX2_soundLength wsX2_soundLength ({ frames := 3, cells := 0, slots := 0, locals := 63 } : Room) (va_Pc [.ref (ad 4)] (PP D ay (wC ay ad σ))) (va_Qi (pP res σ) (fun τ => PP D ay (wC ay ad τ)) (AC ad)) 0 0 (AC ad) := by
  refine g_start (wd := wC ay ad) (A := AC ad) (own := RX2) (mL := 3) (rt := (some .int)) (by decide) rfl rfl (Nat.le_of_ble_eq_true rfl) ?_
  intro p e s m below meth c ls X hl
  have hl : lv_has ls 3 [(0, .ref (ad 4))] := hl
  rw [F_X2_soundLength] at hF
  refine g_iconst (v := 0) X dX2_soundLength_0 (by decide) ?_
  refine g_istore_n (lv' := [(1, _), (0, _)]) X dX2_soundLength_1 rfl hl (by decide) rfl (fun ls hl => ?_)
  refine g_iconst (v := 0) X dX2_soundLength_2 (by decide) ?_
  refine g_istore_n (lv' := [(2, _), (1, _), (0, _)]) X dX2_soundLength_3 rfl hl (by decide) rfl (fun ls hl => ?_)
  exact w_X2_soundLength_4 X hI FU (0 : Int32) (0 : Int32) hF ls (lv_sub hl [2, 1, 0] rfl)
theorem in_X2_isComplete_X2 : ∀ w ∈ wsX20, w ∈ wsX2_isComplete := by decide +kernel
def L_X2_isComplete_4 (σ : Mem) : Nat → Int32 → Int32 → Option Int32
  | 0, _, _ => none
  | fu + 1, a1, a2 => (if (σ 4 1) ≤ a2 then some a1 else Option.bind (F_X2_codeAt a2 σ) (fun r15 => Option.bind (F_X2_placeAfter a1 r15) (fun r18 => L_X2_isComplete_4 σ fu r18 (a2 + 1))))
set_option maxHeartbeats 4000000 in
set_option maxRecDepth 100000 in
theorem w_X2_isComplete_4 {D : va_G} {ay : Nat → ClassId} {ad : Nat → Nat} {p : Program} {l : Launch} {e : Env} {s : State} {m : MethodId} {args : Array Value} {below : List Frame} {meth : Method} {c : Code} {Q : State → Prop} {σ : Mem} {res : Int32} (X : CX D ay p s m args meth c cX2_isComplete 3 RX2 (some .boolean) wsX2_isComplete) (hI : adOK ad) (K : ∀ ls : Array Slot, lv_has ls 3 [(1, .int res)] → GW D (wC ay ad) (AC ad) p l e ({ frames := 3, cells := 0, slots := 0, locals := 63 } : Room) s m args below meth c Q σ (F0 m 28 ls [])) : ∀ (fu : Nat) (a1 : Int32) (a2 : Int32), L_X2_isComplete_4 σ fu a1 a2 = some res → ∀ ls : Array Slot, lv_has ls 3 [(0, .ref (ad 4)), (1, .int a1), (2, .int a2)] → GW D (wC ay ad) (AC ad) p l e ({ frames := 3, cells := 0, slots := 0, locals := 63 } : Room) s m args below meth c Q σ (F0 m 4 ls []) := by
  intro fu
  induction fu with
  | zero =>
    intro a1 a2 hF ls hl
    rw [L_X2_isComplete_4] at hF
    cases hF
  | succ fu ih =>
    intro a1 a2 hF ls hl
    rw [L_X2_isComplete_4] at hF
    refine g_iload_n X dX2_isComplete_4 rfl (lv_at hl 2 rfl) ?_
    refine g_aload_n X dX2_isComplete_5 rfl (lv_at hl 0 rfl) ?_
    refine g_get X 4 (tx_obj) in_X2_isComplete_X2 rfl 1 (by decide) (X.ts (.fieldLink RX2 15 "LeadTimes$Text" "length" "I") (by decide +kernel)) rfl rfl dX2_isComplete_6 ?_
    refine g_icmp_ge (tgt := 28) X dX2_isComplete_9 (by decide) (fun hc9 => ?_) (fun hc9 => ?_)
    · have hF := ite_t hF hc9
      have e4 := some_inj hF
      subst e4
      exact K ls (lv_sub hl [1] rfl)
    · have hF := ite_f hF hc9
      refine g_iload_n X dX2_isComplete_12 rfl (lv_at hl 1 rfl) ?_
      refine g_aload_n X dX2_isComplete_13 rfl (lv_at hl 0 rfl) ?_
      refine g_iload_n X dX2_isComplete_14 rfl (lv_at hl 2 rfl) ?_
      obtain ⟨r15, hr15, hF⟩ := obind hF
      refine k_Vi X (As := [.int a2]) (rest := [.int a1]) (c_X2_codeAt hI hr15) (cwV 1 X.ts gX2_isComplete_X2_codeAt rfl rfl rfl (by decide +kernel) ⟨Nat.le_of_ble_eq_true rfl, Nat.le_of_ble_eq_true rfl⟩) ⟨4, 2, _, _, tx_obj, rfl, rfl⟩ rfl hl.1 rfl (Nat.le_of_ble_eq_true rfl) dX2_isComplete_15 ?_
      obtain ⟨r18, hr18, hF⟩ := obind hF
      refine k_Si X (As := [.int a1, .int r15]) (rest := []) (c_X2_placeAfter hI hr18) (va_cwS 2 X.ts gX2_isComplete_X2_placeAfter rfl rfl rfl (by decide +kernel) ⟨Nat.le_of_ble_eq_true rfl, Nat.le_of_ble_eq_true rfl⟩) rfl hl.1 rfl (Nat.le_of_ble_eq_true rfl) dX2_isComplete_18 ?_
      refine g_istore_n (lv' := [(1, _), (0, _), (2, _)]) X dX2_isComplete_21 rfl hl (by decide) rfl (fun ls hl => ?_)
      refine g_iinc (v := a2 + 1) (lv' := [(2, _), (1, _), (0, _)]) X dX2_isComplete_22 hl (k := 2) rfl rfl (by decide) rfl (fun ls hl => ?_)
      refine g_goto (tgt := 4) X dX2_isComplete_25 (by decide) ?_
      exact ih r18 (a2 + 1) hF ls (lv_sub hl [2, 1, 0] rfl)
def F_X2_isComplete (σ : Mem) : Option Int32 := Option.bind (L_X2_isComplete_4 σ FU (0 : Int32) (0 : Int32)) (fun v4 : Int32 => (if v4 = (7 : Int32) then some (1 : Int32) else (if ¬ v4 = (8 : Int32) then some (0 : Int32) else some (1 : Int32))))
set_option maxHeartbeats 4000000 in
set_option maxRecDepth 100000 in
theorem c_X2_isComplete {l : Launch} {D : va_G} {ay : Nat → ClassId} {ad : Nat → Nat} {σ : Mem} {res : Int32} (hI : adOK ad) (hF : F_X2_isComplete  σ = some res) : Met l yX2_isComplete wsX2_isComplete ({ frames := 3, cells := 0, slots := 0, locals := 63 } : Room) (va_Pc [.ref (ad 4)] (PP D ay (wC ay ad σ))) (va_Qi (pZ res σ) (fun τ => PP D ay (wC ay ad τ)) (AC ad)) 0 0 (AC ad) := by
  refine g_start (wd := wC ay ad) (A := AC ad) (own := RX2) (mL := 3) (rt := (some .boolean)) (by decide) rfl rfl (Nat.le_of_ble_eq_true rfl) ?_
  intro p e s m below meth c ls X hl
  have hl : lv_has ls 3 [(0, .ref (ad 4))] := hl
  rw [F_X2_isComplete] at hF
  refine g_iconst (v := 0) X dX2_isComplete_0 (by decide) ?_
  refine g_istore_n (lv' := [(1, _), (0, _)]) X dX2_isComplete_1 rfl hl (by decide) rfl (fun ls hl => ?_)
  refine g_iconst (v := 0) X dX2_isComplete_2 (by decide) ?_
  refine g_istore_n (lv' := [(2, _), (1, _), (0, _)]) X dX2_isComplete_3 rfl hl (by decide) rfl (fun ls hl => ?_)
  obtain ⟨v4, hL4, hF⟩ := obind hF
  refine w_X2_isComplete_4 X hI (fun ls hl => ?_) FU (0 : Int32) (0 : Int32) hL4 ls (lv_sub hl [2, 1, 0] rfl)
  refine g_iload_n X dX2_isComplete_28 rfl (lv_at hl 0 rfl) ?_
  refine g_bipush (v := 7) X dX2_isComplete_29 (by decide) ?_
  refine g_icmp_eq (tgt := 40) X dX2_isComplete_31 (by decide) (fun hc31 => ?_) (fun hc31 => ?_)
  · have hF := ite_t hF hc31
    refine g_iconst (v := 1) X dX2_isComplete_40 (by decide) ?_
    refine g_goto (tgt := 45) X dX2_isComplete_41 (by decide) ?_
    exact g_zret X rfl (pZ_mk (some_inj hF) rfl) dX2_isComplete_45
  · have hF := ite_f hF hc31
    refine g_iload_n X dX2_isComplete_34 rfl (lv_at hl 0 rfl) ?_
    refine g_bipush (v := 8) X dX2_isComplete_35 (by decide) ?_
    refine g_icmp_ne (tgt := 44) X dX2_isComplete_37 (by decide) (fun hc37 => ?_) (fun hc37 => ?_)
    · have hF := ite_t hF hc37
      refine g_iconst (v := 0) X dX2_isComplete_44 (by decide) ?_
      exact g_zret X rfl (pZ_mk (some_inj hF) rfl) dX2_isComplete_45
    · have hF := ite_n hF hc37
      refine g_iconst (v := 1) X dX2_isComplete_40 (by decide) ?_
      refine g_goto (tgt := 45) X dX2_isComplete_41 (by decide) ?_
      exact g_zret X rfl (pZ_mk (some_inj hF) rfl) dX2_isComplete_45
theorem in_X2_moversInside_X2 : ∀ w ∈ wsX20, w ∈ wsX2_moversInside := by decide +kernel
def L_X2_moversInside_4 (σ : Mem) : Nat → Int32 → Int32 → Option Int32
  | 0, _, _ => none
  | fu + 1, a1, a2 => (if (σ 4 1) ≤ a2 then some a1 else Option.bind (F_X2_codeAt a2 σ) (fun r14 => (Option.bind (if ¬ r14 = (59 : Int32) then some a1 else some (a1 + 1)) (fun v19 : Int32 => L_X2_moversInside_4 σ fu v19 (a2 + 1)))))
set_option maxHeartbeats 4000000 in
set_option maxRecDepth 100000 in
theorem w_X2_moversInside_4 {D : va_G} {ay : Nat → ClassId} {ad : Nat → Nat} {p : Program} {l : Launch} {e : Env} {s : State} {m : MethodId} {args : Array Value} {below : List Frame} {meth : Method} {c : Code} {Q : State → Prop} {σ : Mem} {res : Int32} (X : CX D ay p s m args meth c cX2_moversInside 3 RX2 (some .int) wsX2_moversInside) (hI : adOK ad) (K : ∀ ls : Array Slot, lv_has ls 3 [(1, .int res)] → GW D (wC ay ad) (AC ad) p l e ({ frames := 1, cells := 0, slots := 0, locals := 21 } : Room) s m args below meth c Q σ (F0 m 31 ls [])) : ∀ (fu : Nat) (a1 : Int32) (a2 : Int32), L_X2_moversInside_4 σ fu a1 a2 = some res → ∀ ls : Array Slot, lv_has ls 3 [(0, .ref (ad 4)), (1, .int a1), (2, .int a2)] → GW D (wC ay ad) (AC ad) p l e ({ frames := 1, cells := 0, slots := 0, locals := 21 } : Room) s m args below meth c Q σ (F0 m 4 ls []) := by
  intro fu
  induction fu with
  | zero =>
    intro a1 a2 hF ls hl
    rw [L_X2_moversInside_4] at hF
    cases hF
  | succ fu ih =>
    intro a1 a2 hF ls hl
    rw [L_X2_moversInside_4] at hF
    refine g_iload_n X dX2_moversInside_4 rfl (lv_at hl 2 rfl) ?_
    refine g_aload_n X dX2_moversInside_5 rfl (lv_at hl 0 rfl) ?_
    refine g_get X 4 (tx_obj) in_X2_moversInside_X2 rfl 1 (by decide) (X.ts (.fieldLink RX2 15 "LeadTimes$Text" "length" "I") (by decide +kernel)) rfl rfl dX2_moversInside_6 ?_
    refine g_icmp_ge (tgt := 31) X dX2_moversInside_9 (by decide) (fun hc9 => ?_) (fun hc9 => ?_)
    · have hF := ite_t hF hc9
      have e4 := some_inj hF
      subst e4
      exact K ls (lv_sub hl [1] rfl)
    · have hF := ite_f hF hc9
      refine g_aload_n X dX2_moversInside_12 rfl (lv_at hl 0 rfl) ?_
      refine g_iload_n X dX2_moversInside_13 rfl (lv_at hl 2 rfl) ?_
      obtain ⟨r14, hr14, hF⟩ := obind hF
      refine k_Vi X (As := [.int a2]) (rest := []) (c_X2_codeAt hI hr14) (cwV 1 X.ts gX2_moversInside_X2_codeAt rfl rfl rfl (by decide +kernel) ⟨Nat.le_of_ble_eq_true rfl, Nat.le_of_ble_eq_true rfl⟩) ⟨4, 2, _, _, tx_obj, rfl, rfl⟩ rfl hl.1 rfl (Nat.le_of_ble_eq_true rfl) dX2_moversInside_14 ?_
      refine g_bipush (v := 59) X dX2_moversInside_17 (by decide) ?_
      obtain ⟨v19, hR19, hF⟩ := obind hF
      refine g_cut (nM := 3) [(0, .ref (ad 4)), (1, .int v19), (2, .int a2)] (σ) 25 [] (fun ls hl => ?_) (fun J19 => ?_)
      · refine g_iinc (v := a2 + 1) (lv' := [(2, _), (0, _), (1, _)]) X dX2_moversInside_25 hl (k := 2) rfl rfl (by decide) rfl (fun ls hl => ?_)
        refine g_goto (tgt := 4) X dX2_moversInside_28 (by decide) ?_
        exact ih v19 (a2 + 1) hF ls (lv_sub hl [1, 2, 0] rfl)
      · refine g_icmp_ne (tgt := 25) X dX2_moversInside_19 (by decide) (fun hc19 => ?_) (fun hc19 => ?_)
        · have hR19 := ite_t hR19 hc19
          have e19 := some_inj hR19
          subst e19
          exact J19 ls (lv_sub hl [0, 1, 2] rfl)
        · have hR19 := ite_n hR19 hc19
          refine g_iinc (v := a1 + 1) (lv' := [(1, _), (0, _), (2, _)]) X dX2_moversInside_22 hl (k := 1) rfl rfl (by decide) rfl (fun ls hl => ?_)
          have e19 := some_inj hR19
          subst e19
          exact J19 ls (lv_sub hl [1, 0, 2] rfl)
def F_X2_moversInside (σ : Mem) : Option Int32 := Option.bind (L_X2_moversInside_4 σ FU (1 : Int32) (0 : Int32)) (fun v4 : Int32 => some v4)
set_option maxHeartbeats 4000000 in
set_option maxRecDepth 100000 in
theorem c_X2_moversInside {l : Launch} {D : va_G} {ay : Nat → ClassId} {ad : Nat → Nat} {σ : Mem} {res : Int32} (hI : adOK ad) (hF : F_X2_moversInside  σ = some res) : Met l yX2_moversInside wsX2_moversInside ({ frames := 1, cells := 0, slots := 0, locals := 21 } : Room) (va_Pc [.ref (ad 4)] (PP D ay (wC ay ad σ))) (va_Qi (pP res σ) (fun τ => PP D ay (wC ay ad τ)) (AC ad)) 0 0 (AC ad) := by
  refine g_start (wd := wC ay ad) (A := AC ad) (own := RX2) (mL := 3) (rt := (some .int)) (by decide) rfl rfl (Nat.le_of_ble_eq_true rfl) ?_
  intro p e s m below meth c ls X hl
  have hl : lv_has ls 3 [(0, .ref (ad 4))] := hl
  rw [F_X2_moversInside] at hF
  refine g_iconst (v := 1) X dX2_moversInside_0 (by decide) ?_
  refine g_istore_n (lv' := [(1, _), (0, _)]) X dX2_moversInside_1 rfl hl (by decide) rfl (fun ls hl => ?_)
  refine g_iconst (v := 0) X dX2_moversInside_2 (by decide) ?_
  refine g_istore_n (lv' := [(2, _), (1, _), (0, _)]) X dX2_moversInside_3 rfl hl (by decide) rfl (fun ls hl => ?_)
  obtain ⟨v4, hL4, hF⟩ := obind hF
  refine w_X2_moversInside_4 X hI (fun ls hl => ?_) FU (1 : Int32) (0 : Int32) hL4 ls (lv_sub hl [2, 1, 0] rfl)
  refine g_iload_n X dX2_moversInside_31 rfl (lv_at hl 0 rfl) ?_
  exact g_iret X (pP_mk (some_inj hF)) dX2_moversInside_32
theorem in_X2_startReading_X2 : ∀ w ∈ wsX20, w ∈ wsX2_startReading := by decide +kernel
def F_X2_startReading (σ : Mem) : Option Mem := some (up2 σ 4 2 (0 : Int32))
set_option maxHeartbeats 4000000 in
set_option maxRecDepth 100000 in
theorem c_X2_startReading {l : Launch} {D : va_G} {ay : Nat → ClassId} {ad : Nat → Nat} {σ : Mem} {res : Mem} (hI : adOK ad) (hF : F_X2_startReading  σ = some res) : Met l yX2_startReading wsX2_startReading ({ frames := 0, cells := 0, slots := 0, locals := 0 } : Room) (va_Pc [.ref (ad 4)] (PP D ay (wC ay ad σ))) (va_Qv (pV res) (fun τ => PP D ay (wC ay ad τ)) (AC ad)) 0 0 (AC ad) := by
  refine g_start (wd := wC ay ad) (A := AC ad) (own := RX2) (mL := 1) (rt := none) (by decide) rfl rfl (Nat.le_of_ble_eq_true rfl) ?_
  intro p e s m below meth c ls X hl
  have hl : lv_has ls 1 [(0, .ref (ad 4))] := hl
  rw [F_X2_startReading] at hF
  refine g_aload_n X dX2_startReading_0 rfl (lv_at hl 0 rfl) ?_
  refine g_iconst (v := 0) X dX2_startReading_1 (by decide) ?_
  refine g_put X (wC_D hI) (up2 σ 4 2 (0 : Int32)) 4 (tx_obj) 2 (set_tx (by decide) (by decide)) tyX2 tyX2_ok nmX2 in_X2_startReading_X2 rfl (by decide) (X.ts (.fieldLink RX2 19 "LeadTimes$Text" "readTo" "I") (by decide +kernel)) rfl rfl rfl rfl rfl (Nat.le_of_ble_eq_true rfl) dX2_startReading_2 ?_
  exact g_vret X (pV_mk (some_inj hF)) dX2_startReading_5
theorem in_X2_skipCode_X2 : ∀ w ∈ wsX20, w ∈ wsX2_skipCode := by decide +kernel
def F_X2_skipCode (σ : Mem) : Option Mem := some (up2 σ 4 2 ((σ 4 2) + (1 : Int32)))
set_option maxHeartbeats 4000000 in
set_option maxRecDepth 100000 in
theorem c_X2_skipCode {l : Launch} {D : va_G} {ay : Nat → ClassId} {ad : Nat → Nat} {σ : Mem} {res : Mem} (hI : adOK ad) (hF : F_X2_skipCode  σ = some res) : Met l yX2_skipCode wsX2_skipCode ({ frames := 0, cells := 0, slots := 0, locals := 0 } : Room) (va_Pc [.ref (ad 4)] (PP D ay (wC ay ad σ))) (va_Qv (pV res) (fun τ => PP D ay (wC ay ad τ)) (AC ad)) 0 0 (AC ad) := by
  refine g_start (wd := wC ay ad) (A := AC ad) (own := RX2) (mL := 1) (rt := none) (by decide) rfl rfl (Nat.le_of_ble_eq_true rfl) ?_
  intro p e s m below meth c ls X hl
  have hl : lv_has ls 1 [(0, .ref (ad 4))] := hl
  rw [F_X2_skipCode] at hF
  refine g_aload_n X dX2_skipCode_0 rfl (lv_at hl 0 rfl) ?_
  refine g_dup X dX2_skipCode_1 rfl ?_
  refine g_get X 4 (tx_obj) in_X2_skipCode_X2 rfl 2 (by decide) (X.ts (.fieldLink RX2 19 "LeadTimes$Text" "readTo" "I") (by decide +kernel)) rfl rfl dX2_skipCode_2 ?_
  refine g_iconst (v := 1) X dX2_skipCode_5 (by decide) ?_
  refine g_iadd X dX2_skipCode_6 ?_
  refine g_put X (wC_D hI) (up2 σ 4 2 ((σ 4 2) + (1 : Int32))) 4 (tx_obj) 2 (set_tx (by decide) (by decide)) tyX2 tyX2_ok nmX2 in_X2_skipCode_X2 rfl (by decide) (X.ts (.fieldLink RX2 19 "LeadTimes$Text" "readTo" "I") (by decide +kernel)) rfl rfl rfl rfl rfl (Nat.le_of_ble_eq_true rfl) dX2_skipCode_7 ?_
  exact g_vret X (pV_mk (some_inj hF)) dX2_skipCode_10
theorem in_X2_readNumber_X2 : ∀ w ∈ wsX20, w ∈ wsX2_readNumber := by decide +kernel
def L_X2_readNumber_28 (a1 : Int32) : Nat → Int32 → Mem → Option (Int32 × Mem)
  | 0, _, _ => none
  | fu + 1, a2, σ => (if (σ 4 1) ≤ (σ 4 2) then some (a2, σ) else Option.bind (F_X2_codeAt (σ 4 2) σ) (fun r44 => Option.bind (F_X2_isDigit r44) (fun r47 => (if r47 = 0 then some (a2, σ) else Option.bind (F_X2_codeAt (σ 4 2) σ) (fun r62 => L_X2_readNumber_28 a1 fu ((((10 : Int32) * a2) + r62) - (48 : Int32)) (up2 σ 4 2 ((σ 4 2) + (1 : Int32))))))))
set_option maxHeartbeats 4000000 in
set_option maxRecDepth 100000 in
theorem w_X2_readNumber_28 {D : va_G} {ay : Nat → ClassId} {ad : Nat → Nat} {p : Program} {l : Launch} {e : Env} {s : State} {m : MethodId} {args : Array Value} {below : List Frame} {meth : Method} {c : Code} {Q : State → Prop} {a1 : Int32} {res : Int32 × Mem} (X : CX D ay p s m args meth c cX2_readNumber 3 RX2 (some .int) wsX2_readNumber) (hI : adOK ad) (K : ∀ ls : Array Slot, lv_has ls 3 [(1, .int a1), (2, .int res.1)] → GW D (wC ay ad) (AC ad) p l e ({ frames := 1, cells := 0, slots := 0, locals := 21 } : Room) s m args below meth c Q res.2 (F0 m 83 ls [])) : ∀ (fu : Nat) (a2 : Int32) (σ : Mem), L_X2_readNumber_28 a1 fu a2 σ = some res → ∀ ls : Array Slot, lv_has ls 3 [(0, .ref (ad 4)), (1, .int a1), (2, .int a2)] → GW D (wC ay ad) (AC ad) p l e ({ frames := 1, cells := 0, slots := 0, locals := 21 } : Room) s m args below meth c Q σ (F0 m 28 ls []) := by
  intro fu
  induction fu with
  | zero =>
    intro a2 σ hF ls hl
    rw [L_X2_readNumber_28] at hF
    cases hF
  | succ fu ih =>
    intro a2 σ hF ls hl
    rw [L_X2_readNumber_28] at hF
    refine g_aload_n X dX2_readNumber_28 rfl (lv_at hl 0 rfl) ?_
    refine g_get X 4 (tx_obj) in_X2_readNumber_X2 rfl 2 (by decide) (X.ts (.fieldLink RX2 19 "LeadTimes$Text" "readTo" "I") (by decide +kernel)) rfl rfl dX2_readNumber_29 ?_
    refine g_aload_n X dX2_readNumber_32 rfl (lv_at hl 0 rfl) ?_
    refine g_get X 4 (tx_obj) in_X2_readNumber_X2 rfl 1 (by decide) (X.ts (.fieldLink RX2 15 "LeadTimes$Text" "length" "I") (by decide +kernel)) rfl rfl dX2_readNumber_33 ?_
    refine g_icmp_ge (tgt := 83) X dX2_readNumber_36 (by decide) (fun hc36 => ?_) (fun hc36 => ?_)
    · have hF := ite_t hF hc36
      have e28 := some_inj hF
      subst e28
      exact K ls (lv_sub hl [1, 2] rfl)
    · have hF := ite_f hF hc36
      refine g_aload_n X dX2_readNumber_39 rfl (lv_at hl 0 rfl) ?_
      refine g_aload_n X dX2_readNumber_40 rfl (lv_at hl 0 rfl) ?_
      refine g_get X 4 (tx_obj) in_X2_readNumber_X2 rfl 2 (by decide) (X.ts (.fieldLink RX2 19 "LeadTimes$Text" "readTo" "I") (by decide +kernel)) rfl rfl dX2_readNumber_41 ?_
      obtain ⟨r44, hr44, hF⟩ := obind hF
      refine k_Vi X (As := [.int (σ 4 2)]) (rest := []) (c_X2_codeAt hI hr44) (cwV 1 X.ts gX2_readNumber_X2_codeAt rfl rfl rfl (by decide +kernel) ⟨Nat.le_of_ble_eq_true rfl, Nat.le_of_ble_eq_true rfl⟩) ⟨4, 2, _, _, tx_obj, rfl, rfl⟩ rfl hl.1 rfl (Nat.le_of_ble_eq_true rfl) dX2_readNumber_44 ?_
      obtain ⟨r47, hr47, hF⟩ := obind hF
      refine k_Sz X (As := [.int r44]) (rest := []) (c_X2_isDigit hI hr47) (va_cwS 1 X.ts gX2_readNumber_X2_isDigit rfl rfl rfl (by decide +kernel) ⟨Nat.le_of_ble_eq_true rfl, Nat.le_of_ble_eq_true rfl⟩) rfl hl.1 rfl (Nat.le_of_ble_eq_true rfl) dX2_readNumber_47 (fun hz47 => ?_)
      refine g_if_eq (tgt := 83) X dX2_readNumber_50 (by decide) (fun hc50 => ?_) (fun hc50 => ?_)
      · have hF := ite_t hF hc50
        have e28 := some_inj hF
        subst e28
        exact K ls (lv_sub hl [1, 2] rfl)
      · have hF := ite_f hF hc50
        refine g_bipush (v := 10) X dX2_readNumber_53 (by decide) ?_
        refine g_iload_n X dX2_readNumber_55 rfl (lv_at hl 2 rfl) ?_
        refine g_imul X dX2_readNumber_56 ?_
        refine g_aload_n X dX2_readNumber_57 rfl (lv_at hl 0 rfl) ?_
        refine g_aload_n X dX2_readNumber_58 rfl (lv_at hl 0 rfl) ?_
        refine g_get X 4 (tx_obj) in_X2_readNumber_X2 rfl 2 (by decide) (X.ts (.fieldLink RX2 19 "LeadTimes$Text" "readTo" "I") (by decide +kernel)) rfl rfl dX2_readNumber_59 ?_
        obtain ⟨r62, hr62, hF⟩ := obind hF
        refine k_Vi X (As := [.int (σ 4 2)]) (rest := [.int ((10 : Int32) * a2)]) (c_X2_codeAt hI hr62) (cwV 1 X.ts gX2_readNumber_X2_codeAt rfl rfl rfl (by decide +kernel) ⟨Nat.le_of_ble_eq_true rfl, Nat.le_of_ble_eq_true rfl⟩) ⟨4, 2, _, _, tx_obj, rfl, rfl⟩ rfl hl.1 rfl (Nat.le_of_ble_eq_true rfl) dX2_readNumber_62 ?_
        refine g_iadd X dX2_readNumber_65 ?_
        refine g_bipush (v := 48) X dX2_readNumber_66 (by decide) ?_
        refine g_isub X dX2_readNumber_68 ?_
        refine g_istore_n (lv' := [(2, _), (0, _), (1, _)]) X dX2_readNumber_69 rfl hl (by decide) rfl (fun ls hl => ?_)
        refine g_aload_n X dX2_readNumber_70 rfl (lv_at hl 1 rfl) ?_
        refine g_dup X dX2_readNumber_71 rfl ?_
        refine g_get X 4 (tx_obj) in_X2_readNumber_X2 rfl 2 (by decide) (X.ts (.fieldLink RX2 19 "LeadTimes$Text" "readTo" "I") (by decide +kernel)) rfl rfl dX2_readNumber_72 ?_
        refine g_iconst (v := 1) X dX2_readNumber_75 (by decide) ?_
        refine g_iadd X dX2_readNumber_76 ?_
        refine g_put X (wC_D hI) (up2 σ 4 2 ((σ 4 2) + (1 : Int32))) 4 (tx_obj) 2 (set_tx (by decide) (by decide)) tyX2 tyX2_ok nmX2 in_X2_readNumber_X2 rfl (by decide) (X.ts (.fieldLink RX2 19 "LeadTimes$Text" "readTo" "I") (by decide +kernel)) rfl rfl rfl rfl rfl (Nat.le_of_ble_eq_true rfl) dX2_readNumber_77 ?_
        refine g_goto (tgt := 28) X dX2_readNumber_80 (by decide) ?_
        exact ih ((((10 : Int32) * a2) + r62) - (48 : Int32)) (up2 σ 4 2 ((σ 4 2) + (1 : Int32))) hF ls (lv_sub hl [1, 2, 0] rfl)
def F_X2_readNumber (σ : Mem) : Option (Int32 × Mem) := Option.bind (F_X2_codeAt (σ 4 2) σ) (fun r5 => Option.bind (F_X2_isSign r5) (fun r10 => (Option.bind (if r10 = 0 then some σ else some (up2 σ 4 2 ((σ 4 2) + (1 : Int32)))) (fun v13 : Mem => Option.bind (L_X2_readNumber_28 r5 FU (0 : Int32) v13) (fun v28 : Int32 × Mem => (if ¬ r5 = (45 : Int32) then some (v28.1, v28.2) else some (-v28.1, v28.2)))))))
set_option maxHeartbeats 4000000 in
set_option maxRecDepth 100000 in
theorem c_X2_readNumber {l : Launch} {D : va_G} {ay : Nat → ClassId} {ad : Nat → Nat} {σ : Mem} {res : Int32 × Mem} (hI : adOK ad) (hF : F_X2_readNumber  σ = some res) : Met l yX2_readNumber wsX2_readNumber ({ frames := 1, cells := 0, slots := 0, locals := 21 } : Room) (va_Pc [.ref (ad 4)] (PP D ay (wC ay ad σ))) (va_Qi (pE res) (fun τ => PP D ay (wC ay ad τ)) (AC ad)) 0 0 (AC ad) := by
  refine g_start (wd := wC ay ad) (A := AC ad) (own := RX2) (mL := 3) (rt := (some .int)) (by decide) rfl rfl (Nat.le_of_ble_eq_true rfl) ?_
  intro p e s m below meth c ls X hl
  have hl : lv_has ls 3 [(0, .ref (ad 4))] := hl
  rw [F_X2_readNumber] at hF
  refine g_aload_n X dX2_readNumber_0 rfl (lv_at hl 0 rfl) ?_
  refine g_aload_n X dX2_readNumber_1 rfl (lv_at hl 0 rfl) ?_
  refine g_get X 4 (tx_obj) in_X2_readNumber_X2 rfl 2 (by decide) (X.ts (.fieldLink RX2 19 "LeadTimes$Text" "readTo" "I") (by decide +kernel)) rfl rfl dX2_readNumber_2 ?_
  obtain ⟨r5, hr5, hF⟩ := obind hF
  refine k_Vi X (As := [.int (σ 4 2)]) (rest := []) (c_X2_codeAt hI hr5) (cwV 1 X.ts gX2_readNumber_X2_codeAt rfl rfl rfl (by decide +kernel) ⟨Nat.le_of_ble_eq_true rfl, Nat.le_of_ble_eq_true rfl⟩) ⟨4, 2, _, _, tx_obj, rfl, rfl⟩ rfl hl.1 rfl (Nat.le_of_ble_eq_true rfl) dX2_readNumber_5 ?_
  refine g_istore_n (lv' := [(1, _), (0, _)]) X dX2_readNumber_8 rfl hl (by decide) rfl (fun ls hl => ?_)
  refine g_iload_n X dX2_readNumber_9 rfl (lv_at hl 0 rfl) ?_
  obtain ⟨r10, hr10, hF⟩ := obind hF
  refine k_Sz X (As := [.int r5]) (rest := []) (c_X2_isSign hI hr10) (va_cwS 1 X.ts gX2_readNumber_X2_isSign rfl rfl rfl (by decide +kernel) ⟨Nat.le_of_ble_eq_true rfl, Nat.le_of_ble_eq_true rfl⟩) rfl hl.1 rfl (Nat.le_of_ble_eq_true rfl) dX2_readNumber_10 (fun hz10 => ?_)
  obtain ⟨v13, hR13, hF⟩ := obind hF
  refine g_cut (nM := 3) [(0, .ref (ad 4)), (1, .int r5)] (v13) 26 [] (fun ls hl => ?_) (fun J13 => ?_)
  · refine g_iconst (v := 0) X dX2_readNumber_26 (by decide) ?_
    refine g_istore_n (lv' := [(2, _), (0, _), (1, _)]) X dX2_readNumber_27 rfl hl (by decide) rfl (fun ls hl => ?_)
    obtain ⟨v28, hL28, hF⟩ := obind hF
    refine w_X2_readNumber_28 X hI (fun ls hl => ?_) FU (0 : Int32) v13 hL28 ls (lv_sub hl [1, 2, 0] rfl)
    refine g_iload_n X dX2_readNumber_83 rfl (lv_at hl 0 rfl) ?_
    refine g_bipush (v := 45) X dX2_readNumber_84 (by decide) ?_
    refine g_icmp_ne (tgt := 94) X dX2_readNumber_86 (by decide) (fun hc86 => ?_) (fun hc86 => ?_)
    · have hF := ite_t hF hc86
      refine g_iload_n X dX2_readNumber_94 rfl (lv_at hl 1 rfl) ?_
      exact g_iret X (pE_mk (some_inj hF)) dX2_readNumber_95
    · have hF := ite_n hF hc86
      refine g_iload_n X dX2_readNumber_89 rfl (lv_at hl 1 rfl) ?_
      refine g_ineg X dX2_readNumber_90 ?_
      refine g_goto (tgt := 95) X dX2_readNumber_91 (by decide) ?_
      exact g_iret X (pE_mk (some_inj hF)) dX2_readNumber_95
  · refine g_if_eq (tgt := 26) X dX2_readNumber_13 (by decide) (fun hc13 => ?_) (fun hc13 => ?_)
    · have hR13 := ite_t hR13 hc13
      have e13 := some_inj hR13
      subst e13
      exact J13 ls (lv_sub hl [1, 0] rfl)
    · have hR13 := ite_f hR13 hc13
      refine g_aload_n X dX2_readNumber_16 rfl (lv_at hl 1 rfl) ?_
      refine g_dup X dX2_readNumber_17 rfl ?_
      refine g_get X 4 (tx_obj) in_X2_readNumber_X2 rfl 2 (by decide) (X.ts (.fieldLink RX2 19 "LeadTimes$Text" "readTo" "I") (by decide +kernel)) rfl rfl dX2_readNumber_18 ?_
      refine g_iconst (v := 1) X dX2_readNumber_21 (by decide) ?_
      refine g_iadd X dX2_readNumber_22 ?_
      refine g_put X (wC_D hI) (up2 σ 4 2 ((σ 4 2) + (1 : Int32))) 4 (tx_obj) 2 (set_tx (by decide) (by decide)) tyX2 tyX2_ok nmX2 in_X2_readNumber_X2 rfl (by decide) (X.ts (.fieldLink RX2 19 "LeadTimes$Text" "readTo" "I") (by decide +kernel)) rfl rfl rfl rfl rfl (Nat.le_of_ble_eq_true rfl) dX2_readNumber_23 ?_
      have e13 := some_inj hR13
      subst e13
      exact J13 ls (lv_sub hl [1, 0] rfl)
theorem in_X2_hashedInto_X2 : ∀ w ∈ wsX20, w ∈ wsX2_hashedInto := by decide +kernel
def L_X2_hashedInto_15 (σ : Mem) : Nat → Int64 → Int32 → Option Int64
  | 0, _, _ => none
  | fu + 1, a3, a5 => (if (σ 4 1) ≤ a5 then some a3 else Option.bind (F_X2_codeAt a5 σ) (fun r32 => L_X2_hashedInto_15 σ fu (((31 : Int64) * a3) + r32.toInt64) (a5 + 1)))
set_option maxHeartbeats 4000000 in
set_option maxRecDepth 100000 in
theorem w_X2_hashedInto_15 {D : va_G} {ay : Nat → ClassId} {ad : Nat → Nat} {p : Program} {l : Launch} {e : Env} {s : State} {m : MethodId} {args : Array Value} {below : List Frame} {meth : Method} {c : Code} {Q : State → Prop} {σ : Mem} {res : Int64} (X : CX D ay p s m args meth c cX2_hashedInto 6 RX2 (some .long) wsX2_hashedInto) (hI : adOK ad) (K : ∀ ls : Array Slot, lv_has ls 6 [(3, .long res)] → GW D (wC ay ad) (AC ad) p l e ({ frames := 1, cells := 0, slots := 0, locals := 21 } : Room) s m args below meth c Q σ (F0 m 44 ls [])) : ∀ (fu : Nat) (a3 : Int64) (a5 : Int32), L_X2_hashedInto_15 σ fu a3 a5 = some res → ∀ ls : Array Slot, lv_has ls 6 [(0, .ref (ad 4)), (3, .long a3), (5, .int a5)] → GW D (wC ay ad) (AC ad) p l e ({ frames := 1, cells := 0, slots := 0, locals := 21 } : Room) s m args below meth c Q σ (F0 m 15 ls []) := by
  intro fu
  induction fu with
  | zero =>
    intro a3 a5 hF ls hl
    rw [L_X2_hashedInto_15] at hF
    cases hF
  | succ fu ih =>
    intro a3 a5 hF ls hl
    rw [L_X2_hashedInto_15] at hF
    refine g_iload X dX2_hashedInto_15 (lv_at hl 2 rfl) ?_
    refine g_aload_n X dX2_hashedInto_17 rfl (lv_at hl 0 rfl) ?_
    refine g_get X 4 (tx_obj) in_X2_hashedInto_X2 rfl 1 (by decide) (X.ts (.fieldLink RX2 15 "LeadTimes$Text" "length" "I") (by decide +kernel)) rfl rfl dX2_hashedInto_18 ?_
    refine g_icmp_ge (tgt := 44) X dX2_hashedInto_21 (by decide) (fun hc21 => ?_) (fun hc21 => ?_)
    · have hF := ite_t hF hc21
      have e15 := some_inj hF
      subst e15
      exact K ls (lv_sub hl [1] rfl)
    · have hF := ite_f hF hc21
      refine g_ldc2 X dX2_hashedInto_24 (X.ts (.constantLong RX2 41 (31)) (by decide +kernel)) ?_
      refine g_lload_n X dX2_hashedInto_27 rfl (lv_at hl 1 rfl) ?_
      refine g_lmul X dX2_hashedInto_28 ?_
      refine g_aload_n X dX2_hashedInto_29 rfl (lv_at hl 0 rfl) ?_
      refine g_iload X dX2_hashedInto_30 (lv_at hl 2 rfl) ?_
      obtain ⟨r32, hr32, hF⟩ := obind hF
      refine k_Vi X (As := [.int a5]) (rest := [.long ((31 : Int64) * a3)]) (c_X2_codeAt hI hr32) (cwV 1 X.ts gX2_hashedInto_X2_codeAt rfl rfl rfl (by decide +kernel) ⟨Nat.le_of_ble_eq_true rfl, Nat.le_of_ble_eq_true rfl⟩) ⟨4, 2, _, _, tx_obj, rfl, rfl⟩ rfl hl.1 rfl (Nat.le_of_ble_eq_true rfl) dX2_hashedInto_32 ?_
      refine g_i2l X dX2_hashedInto_35 ?_
      refine g_ladd X dX2_hashedInto_36 ?_
      refine g_lstore_n (lv' := [(3, _), (0, _), (5, _)]) X dX2_hashedInto_37 rfl hl (by decide) rfl (fun ls hl => ?_)
      refine g_iinc (v := a5 + 1) (lv' := [(5, _), (3, _), (0, _)]) X dX2_hashedInto_38 hl (k := 2) rfl rfl (by decide) rfl (fun ls hl => ?_)
      refine g_goto (tgt := 15) X dX2_hashedInto_41 (by decide) ?_
      exact ih (((31 : Int64) * a3) + r32.toInt64) (a5 + 1) hF ls (lv_sub hl [2, 1, 0] rfl)
def F_X2_hashedInto (a1 : Int64) (σ : Mem) : Option Int64 := Option.bind (L_X2_hashedInto_15 σ FU (((31 : Int64) * a1) + ((σ 4 1).toInt64)) (0 : Int32)) (fun v15 : Int64 => some v15)
set_option maxHeartbeats 4000000 in
set_option maxRecDepth 100000 in
theorem c_X2_hashedInto {l : Launch} {D : va_G} {ay : Nat → ClassId} {ad : Nat → Nat} {a1 : Int64} {σ : Mem} {res : Int64} (hI : adOK ad) (hF : F_X2_hashedInto a1 σ = some res) : Met l yX2_hashedInto wsX2_hashedInto ({ frames := 1, cells := 0, slots := 0, locals := 21 } : Room) (va_Pc [.ref (ad 4), .long a1] (PP D ay (wC ay ad σ))) (va_Ql (pP res σ) (fun τ => PP D ay (wC ay ad τ)) (AC ad)) 0 0 (AC ad) := by
  refine g_start (wd := wC ay ad) (A := AC ad) (own := RX2) (mL := 6) (rt := (some .long)) (by decide) rfl rfl (Nat.le_of_ble_eq_true rfl) ?_
  intro p e s m below meth c ls X hl
  have hl : lv_has ls 6 [(0, .ref (ad 4)), (1, .long a1)] := hl
  rw [F_X2_hashedInto] at hF
  refine g_ldc2 X dX2_hashedInto_0 (X.ts (.constantLong RX2 41 (31)) (by decide +kernel)) ?_
  refine g_lload_n X dX2_hashedInto_3 rfl (lv_at hl 1 rfl) ?_
  refine g_lmul X dX2_hashedInto_4 ?_
  refine g_aload_n X dX2_hashedInto_5 rfl (lv_at hl 0 rfl) ?_
  refine g_get X 4 (tx_obj) in_X2_hashedInto_X2 rfl 1 (by decide) (X.ts (.fieldLink RX2 15 "LeadTimes$Text" "length" "I") (by decide +kernel)) rfl rfl dX2_hashedInto_6 ?_
  refine g_i2l X dX2_hashedInto_9 ?_
  refine g_ladd X dX2_hashedInto_10 ?_
  refine g_lstore_n (lv' := [(3, _), (0, _), (1, _)]) X dX2_hashedInto_11 rfl hl (by decide) rfl (fun ls hl => ?_)
  refine g_iconst (v := 0) X dX2_hashedInto_12 (by decide) ?_
  refine g_istore (lv' := [(5, _), (3, _), (0, _), (1, _)]) X dX2_hashedInto_13 hl (by decide) rfl (fun ls hl => ?_)
  obtain ⟨v15, hL15, hF⟩ := obind hF
  refine w_X2_hashedInto_15 X hI (fun ls hl => ?_) FU (((31 : Int64) * a1) + ((σ 4 1).toInt64)) (0 : Int32) hL15 ls (lv_sub hl [2, 1, 0] rfl)
  refine g_lload_n X dX2_hashedInto_44 rfl (lv_at hl 0 rfl) ?_
  exact g_lret X (pP_mk (some_inj hF)) dX2_hashedInto_45
