theorem in_X1_has_X1 : ∀ w ∈ wsX10, w ∈ wsX1_has := by decide +kernel
def F_X1_has (n : Nat) (a1 : Int32) (σ : Mem) : Option Int32 := (if a1 < 0 then some (0 : Int32) else (if (16 : Int32) ≤ a1 then some (0 : Int32) else if inb a1 16 then ((if (σ (n + 1) a1.toNatClampNeg) = 0 then some (0 : Int32) else some (1 : Int32))) else none))
set_option maxHeartbeats 4000000 in
set_option maxRecDepth 100000 in
theorem c_X1_has {l : Launch} {D : va_G} {ay : Nat → ClassId} {ad : Nat → Nat} {n : Nat} {a1 : Int32} {σ : Mem} {res : Int32} (hI : adOK ad) (hn : IsSt n) (hF : F_X1_has n a1 σ = some res) : Met l yX1_has wsX1_has ({ frames := 0, cells := 0, slots := 0, locals := 0 } : Room) (va_Pc [.ref (ad n), .int a1] (PP D ay (wC ay ad σ))) (va_Qi (pZ res σ) (fun τ => PP D ay (wC ay ad τ)) (AC ad)) 0 0 (AC ad) := by
  refine g_start (wd := wC ay ad) (A := AC ad) (own := RX1) (mL := 2) (rt := (some .boolean)) (by decide) rfl rfl (Nat.le_of_ble_eq_true rfl) ?_
  intro p e s m below meth c ls X hl
  have hl : lv_has ls 2 [(0, .ref (ad n)), (1, .int a1)] := hl
  rw [F_X1_has] at hF
  refine g_iload_n X dX1_has_0 rfl (lv_at hl 1 rfl) ?_
  refine g_if_lt (tgt := 23) X dX1_has_1 (by decide) (fun hc1 => ?_) (fun hc1 => ?_)
  · have hF := ite_t hF hc1
    refine g_iconst (v := 0) X dX1_has_23 (by decide) ?_
    exact g_zret X rfl (pZ_mk (some_inj hF) rfl) dX1_has_24
  · have hF := ite_f hF hc1
    refine g_iload_n X dX1_has_4 rfl (lv_at hl 1 rfl) ?_
    refine g_bipush (v := 16) X dX1_has_5 (by decide) ?_
    refine g_icmp_ge (tgt := 23) X dX1_has_7 (by decide) (fun hc7 => ?_) (fun hc7 => ?_)
    · have hF := ite_t hF hc7
      refine g_iconst (v := 0) X dX1_has_23 (by decide) ?_
      exact g_zret X rfl (pZ_mk (some_inj hF) rfl) dX1_has_24
    · have hF := ite_f hF hc7
      refine g_aload_n X dX1_has_10 rfl (lv_at hl 0 rfl) ?_
      refine g_get X n (st_obj hn) in_X1_has_X1 rfl 0 (by decide) (X.ts (.fieldLink RX1 9 "LeadTimes$State" "taken" "[Z") (by decide +kernel)) rfl rfl dX1_has_11 ?_
      refine g_iload_n X dX1_has_14 rfl (lv_at hl 1 rfl) ?_
      obtain ⟨h15, hF⟩ := itn hF
      refine g_zald X (n + 1) (j := a1.toNatClampNeg) (st_arr1 hn) (by first | rfl | decide) (inb_in h15) dX1_has_15 ?_
      refine g_if_eq (tgt := 23) X dX1_has_16 (by decide) (fun hc16 => ?_) (fun hc16 => ?_)
      · have hF := ite_t hF hc16
        refine g_iconst (v := 0) X dX1_has_23 (by decide) ?_
        exact g_zret X rfl (pZ_mk (some_inj hF) rfl) dX1_has_24
      · have hF := ite_f hF hc16
        refine g_iconst (v := 1) X dX1_has_19 (by decide) ?_
        refine g_goto (tgt := 24) X dX1_has_20 (by decide) ?_
        exact g_zret X rfl (pZ_mk (some_inj hF) rfl) dX1_has_24
theorem in_X1_speedOf_X1 : ∀ w ∈ wsX10, w ∈ wsX1_speedOf := by decide +kernel
def F_X1_speedOf (n : Nat) (a1 : Int32) (σ : Mem) : Option Int32 := (if a1 < 0 then some (0 : Int32) else (if (16 : Int32) ≤ a1 then some (0 : Int32) else if inb a1 16 then (some (σ (n + 3) a1.toNatClampNeg)) else none))
set_option maxHeartbeats 4000000 in
set_option maxRecDepth 100000 in
theorem c_X1_speedOf {l : Launch} {D : va_G} {ay : Nat → ClassId} {ad : Nat → Nat} {n : Nat} {a1 : Int32} {σ : Mem} {res : Int32} (hI : adOK ad) (hn : IsSt n) (hF : F_X1_speedOf n a1 σ = some res) : Met l yX1_speedOf wsX1_speedOf ({ frames := 0, cells := 0, slots := 0, locals := 0 } : Room) (va_Pc [.ref (ad n), .int a1] (PP D ay (wC ay ad σ))) (va_Qi (pP res σ) (fun τ => PP D ay (wC ay ad τ)) (AC ad)) 0 0 (AC ad) := by
  refine g_start (wd := wC ay ad) (A := AC ad) (own := RX1) (mL := 2) (rt := (some .int)) (by decide) rfl rfl (Nat.le_of_ble_eq_true rfl) ?_
  intro p e s m below meth c ls X hl
  have hl : lv_has ls 2 [(0, .ref (ad n)), (1, .int a1)] := hl
  rw [F_X1_speedOf] at hF
  refine g_iload_n X dX1_speedOf_0 rfl (lv_at hl 1 rfl) ?_
  refine g_if_lt (tgt := 19) X dX1_speedOf_1 (by decide) (fun hc1 => ?_) (fun hc1 => ?_)
  · have hF := ite_t hF hc1
    refine g_iconst (v := 0) X dX1_speedOf_19 (by decide) ?_
    exact g_iret X (pP_mk (some_inj hF)) dX1_speedOf_20
  · have hF := ite_f hF hc1
    refine g_iload_n X dX1_speedOf_4 rfl (lv_at hl 1 rfl) ?_
    refine g_bipush (v := 16) X dX1_speedOf_5 (by decide) ?_
    refine g_icmp_ge (tgt := 19) X dX1_speedOf_7 (by decide) (fun hc7 => ?_) (fun hc7 => ?_)
    · have hF := ite_t hF hc7
      refine g_iconst (v := 0) X dX1_speedOf_19 (by decide) ?_
      exact g_iret X (pP_mk (some_inj hF)) dX1_speedOf_20
    · have hF := ite_f hF hc7
      refine g_aload_n X dX1_speedOf_10 rfl (lv_at hl 0 rfl) ?_
      refine g_get X n (st_obj hn) in_X1_speedOf_X1 rfl 2 (by decide) (X.ts (.fieldLink RX1 19 "LeadTimes$State" "speed" "[I") (by decide +kernel)) rfl rfl dX1_speedOf_11 ?_
      refine g_iload_n X dX1_speedOf_14 rfl (lv_at hl 1 rfl) ?_
      obtain ⟨h15, hF⟩ := itn hF
      refine g_iald X (n + 3) (j := a1.toNatClampNeg) (st_arr hn (by decide) (by decide)) (by first | rfl | decide) (inb_in h15) dX1_speedOf_15 ?_
      refine g_goto (tgt := 20) X dX1_speedOf_16 (by decide) ?_
      exact g_iret X (pP_mk (some_inj hF)) dX1_speedOf_20
theorem in_X1_valueOf_X1 : ∀ w ∈ wsX10, w ∈ wsX1_valueOf := by decide +kernel
def F_X1_valueOf (n : Nat) (a1 : Int32) (σ : Mem) : Option Int32 := (if a1 < 0 then some (0 : Int32) else (if (16 : Int32) ≤ a1 then some (0 : Int32) else if inb a1 16 then (some (σ (n + 2) a1.toNatClampNeg)) else none))
set_option maxHeartbeats 4000000 in
set_option maxRecDepth 100000 in
theorem c_X1_valueOf {l : Launch} {D : va_G} {ay : Nat → ClassId} {ad : Nat → Nat} {n : Nat} {a1 : Int32} {σ : Mem} {res : Int32} (hI : adOK ad) (hn : IsSt n) (hF : F_X1_valueOf n a1 σ = some res) : Met l yX1_valueOf wsX1_valueOf ({ frames := 0, cells := 0, slots := 0, locals := 0 } : Room) (va_Pc [.ref (ad n), .int a1] (PP D ay (wC ay ad σ))) (va_Qi (pP res σ) (fun τ => PP D ay (wC ay ad τ)) (AC ad)) 0 0 (AC ad) := by
  refine g_start (wd := wC ay ad) (A := AC ad) (own := RX1) (mL := 2) (rt := (some .int)) (by decide) rfl rfl (Nat.le_of_ble_eq_true rfl) ?_
  intro p e s m below meth c ls X hl
  have hl : lv_has ls 2 [(0, .ref (ad n)), (1, .int a1)] := hl
  rw [F_X1_valueOf] at hF
  refine g_iload_n X dX1_valueOf_0 rfl (lv_at hl 1 rfl) ?_
  refine g_if_lt (tgt := 19) X dX1_valueOf_1 (by decide) (fun hc1 => ?_) (fun hc1 => ?_)
  · have hF := ite_t hF hc1
    refine g_iconst (v := 0) X dX1_valueOf_19 (by decide) ?_
    exact g_iret X (pP_mk (some_inj hF)) dX1_valueOf_20
  · have hF := ite_f hF hc1
    refine g_iload_n X dX1_valueOf_4 rfl (lv_at hl 1 rfl) ?_
    refine g_bipush (v := 16) X dX1_valueOf_5 (by decide) ?_
    refine g_icmp_ge (tgt := 19) X dX1_valueOf_7 (by decide) (fun hc7 => ?_) (fun hc7 => ?_)
    · have hF := ite_t hF hc7
      refine g_iconst (v := 0) X dX1_valueOf_19 (by decide) ?_
      exact g_iret X (pP_mk (some_inj hF)) dX1_valueOf_20
    · have hF := ite_f hF hc7
      refine g_aload_n X dX1_valueOf_10 rfl (lv_at hl 0 rfl) ?_
      refine g_get X n (st_obj hn) in_X1_valueOf_X1 rfl 1 (by decide) (X.ts (.fieldLink RX1 15 "LeadTimes$State" "value" "[I") (by decide +kernel)) rfl rfl dX1_valueOf_11 ?_
      refine g_iload_n X dX1_valueOf_14 rfl (lv_at hl 1 rfl) ?_
      obtain ⟨h15, hF⟩ := itn hF
      refine g_iald X (n + 2) (j := a1.toNatClampNeg) (st_arr hn (by decide) (by decide)) (by first | rfl | decide) (inb_in h15) dX1_valueOf_15 ?_
      refine g_goto (tgt := 20) X dX1_valueOf_16 (by decide) ?_
      exact g_iret X (pP_mk (some_inj hF)) dX1_valueOf_20
theorem in_X1_isBeforeAsEqual_X1 : ∀ w ∈ wsX10, w ∈ wsX1_isBeforeAsEqual := by decide +kernel
def F_X1_isBeforeAsEqual (n : Nat) (a1 : Int32) (a2 : Int32) (σ : Mem) : Option Int32 := (if ¬ (σ n 6) = (1 : Int32) then (if a2 ≤ a1 then some (0 : Int32) else some (1 : Int32)) else (if a1 ≤ a2 then some (0 : Int32) else some (1 : Int32)))
set_option maxHeartbeats 4000000 in
set_option maxRecDepth 100000 in
theorem c_X1_isBeforeAsEqual {l : Launch} {D : va_G} {ay : Nat → ClassId} {ad : Nat → Nat} {n : Nat} {a1 : Int32} {a2 : Int32} {σ : Mem} {res : Int32} (hI : adOK ad) (hn : IsSt n) (hF : F_X1_isBeforeAsEqual n a1 a2 σ = some res) : Met l yX1_isBeforeAsEqual wsX1_isBeforeAsEqual ({ frames := 0, cells := 0, slots := 0, locals := 0 } : Room) (va_Pc [.ref (ad n), .int a1, .int a2] (PP D ay (wC ay ad σ))) (va_Qi (pZ res σ) (fun τ => PP D ay (wC ay ad τ)) (AC ad)) 0 0 (AC ad) := by
  refine g_start (wd := wC ay ad) (A := AC ad) (own := RX1) (mL := 3) (rt := (some .boolean)) (by decide) rfl rfl (Nat.le_of_ble_eq_true rfl) ?_
  intro p e s m below meth c ls X hl
  have hl : lv_has ls 3 [(0, .ref (ad n)), (1, .int a1), (2, .int a2)] := hl
  rw [F_X1_isBeforeAsEqual] at hF
  refine g_aload_n X dX1_isBeforeAsEqual_0 rfl (lv_at hl 0 rfl) ?_
  refine g_get X n (st_obj hn) in_X1_isBeforeAsEqual_X1 rfl 6 (by decide) (X.ts (.fieldLink RX1 32 "LeadTimes$State" "higherFirst" "I") (by decide +kernel)) rfl rfl dX1_isBeforeAsEqual_1 ?_
  refine g_iconst (v := 1) X dX1_isBeforeAsEqual_4 (by decide) ?_
  refine g_icmp_ne (tgt := 21) X dX1_isBeforeAsEqual_5 (by decide) (fun hc5 => ?_) (fun hc5 => ?_)
  · have hF := ite_t hF hc5
    refine g_iload_n X dX1_isBeforeAsEqual_21 rfl (lv_at hl 1 rfl) ?_
    refine g_iload_n X dX1_isBeforeAsEqual_22 rfl (lv_at hl 2 rfl) ?_
    refine g_icmp_ge (tgt := 30) X dX1_isBeforeAsEqual_23 (by decide) (fun hc23 => ?_) (fun hc23 => ?_)
    · have hF := ite_t hF hc23
      refine g_iconst (v := 0) X dX1_isBeforeAsEqual_30 (by decide) ?_
      exact g_zret X rfl (pZ_mk (some_inj hF) rfl) dX1_isBeforeAsEqual_31
    · have hF := ite_f hF hc23
      refine g_iconst (v := 1) X dX1_isBeforeAsEqual_26 (by decide) ?_
      refine g_goto (tgt := 31) X dX1_isBeforeAsEqual_27 (by decide) ?_
      exact g_zret X rfl (pZ_mk (some_inj hF) rfl) dX1_isBeforeAsEqual_31
  · have hF := ite_n hF hc5
    refine g_iload_n X dX1_isBeforeAsEqual_8 rfl (lv_at hl 1 rfl) ?_
    refine g_iload_n X dX1_isBeforeAsEqual_9 rfl (lv_at hl 2 rfl) ?_
    refine g_icmp_le (tgt := 17) X dX1_isBeforeAsEqual_10 (by decide) (fun hc10 => ?_) (fun hc10 => ?_)
    · have hF := ite_t hF hc10
      refine g_iconst (v := 0) X dX1_isBeforeAsEqual_17 (by decide) ?_
      refine g_goto (tgt := 31) X dX1_isBeforeAsEqual_18 (by decide) ?_
      exact g_zret X rfl (pZ_mk (some_inj hF) rfl) dX1_isBeforeAsEqual_31
    · have hF := ite_f hF hc10
      refine g_iconst (v := 1) X dX1_isBeforeAsEqual_13 (by decide) ?_
      refine g_goto (tgt := 31) X dX1_isBeforeAsEqual_14 (by decide) ?_
      exact g_zret X rfl (pZ_mk (some_inj hF) rfl) dX1_isBeforeAsEqual_31
def F_X1_wouldBeAhead (n : Nat) (a1 : Int32) (a2 : Int32) (a3 : Int32) (a4 : Int32) (σ : Mem) : Option Int32 := Option.bind (F_X1_speedOf n a3 σ) (fun r4 => Option.bind (F_X1_valueOf n a1 σ) (fun r13 => Option.bind (F_X1_valueOf n a3 σ) (fun r19 => (if (lg_cmp ((r13.toInt64 - r19.toInt64) + ((a2.toInt64 - r4.toInt64) * a4.toInt64)) (0 : Int64)) = 0 then (if (lg_cmp (a2.toInt64 - r4.toInt64) (0 : Int64)) = 0 then Option.bind (F_X1_isBeforeAsEqual n a1 a3 σ) (fun r78 => some r78) else (if (lg_cmp (a2.toInt64 - r4.toInt64) (0 : Int64)) ≤ 0 then some (0 : Int32) else some (1 : Int32))) else (if (lg_cmp ((r13.toInt64 - r19.toInt64) + ((a2.toInt64 - r4.toInt64) * a4.toInt64)) (0 : Int64)) ≤ 0 then some (0 : Int32) else some (1 : Int32))))))
set_option maxHeartbeats 4000000 in
set_option maxRecDepth 100000 in
theorem c_X1_wouldBeAhead {l : Launch} {D : va_G} {ay : Nat → ClassId} {ad : Nat → Nat} {n : Nat} {a1 : Int32} {a2 : Int32} {a3 : Int32} {a4 : Int32} {σ : Mem} {res : Int32} (hI : adOK ad) (hn : IsSt n) (hF : F_X1_wouldBeAhead n a1 a2 a3 a4 σ = some res) : Met l yX1_wouldBeAhead wsX1_wouldBeAhead ({ frames := 1, cells := 0, slots := 0, locals := 22 } : Room) (va_Pc [.ref (ad n), .int a1, .int a2, .int a3, .int a4] (PP D ay (wC ay ad σ))) (va_Qi (pZ res σ) (fun τ => PP D ay (wC ay ad τ)) (AC ad)) 0 0 (AC ad) := by
  refine g_start (wd := wC ay ad) (A := AC ad) (own := RX1) (mL := 9) (rt := (some .boolean)) (by decide) rfl rfl (Nat.le_of_ble_eq_true rfl) ?_
  intro p e s m below meth c ls X hl
  have hl : lv_has ls 9 [(0, .ref (ad n)), (1, .int a1), (2, .int a2), (3, .int a3), (4, .int a4)] := hl
  rw [F_X1_wouldBeAhead] at hF
  refine g_iload_n X dX1_wouldBeAhead_0 rfl (lv_at hl 2 rfl) ?_
  refine g_i2l X dX1_wouldBeAhead_1 ?_
  refine g_aload_n X dX1_wouldBeAhead_2 rfl (lv_at hl 0 rfl) ?_
  refine g_iload_n X dX1_wouldBeAhead_3 rfl (lv_at hl 3 rfl) ?_
  obtain ⟨r4, hr4, hF⟩ := obind hF
  refine k_Vi X (As := [.int a3]) (rest := [.long a2.toInt64]) (c_X1_speedOf hI hn hr4) (cwV 1 X.ts gX1_wouldBeAhead_X1_speedOf rfl rfl rfl (by decide +kernel) ⟨Nat.le_of_ble_eq_true rfl, Nat.le_of_ble_eq_true rfl⟩) ⟨n, 1, _, _, st_obj hn, rfl, rfl⟩ rfl hl.1 rfl (Nat.le_of_ble_eq_true rfl) dX1_wouldBeAhead_4 ?_
  refine g_i2l X dX1_wouldBeAhead_7 ?_
  refine g_lsub X dX1_wouldBeAhead_8 ?_
  refine g_lstore (lv' := [(5, _), (0, _), (1, _), (2, _), (3, _), (4, _)]) X dX1_wouldBeAhead_9 hl (by decide) rfl (fun ls hl => ?_)
  refine g_aload_n X dX1_wouldBeAhead_11 rfl (lv_at hl 1 rfl) ?_
  refine g_iload_n X dX1_wouldBeAhead_12 rfl (lv_at hl 2 rfl) ?_
  obtain ⟨r13, hr13, hF⟩ := obind hF
  refine k_Vi X (As := [.int a1]) (rest := []) (c_X1_valueOf hI hn hr13) (cwV 1 X.ts gX1_wouldBeAhead_X1_valueOf rfl rfl rfl (by decide +kernel) ⟨Nat.le_of_ble_eq_true rfl, Nat.le_of_ble_eq_true rfl⟩) ⟨n, 1, _, _, st_obj hn, rfl, rfl⟩ rfl hl.1 rfl (Nat.le_of_ble_eq_true rfl) dX1_wouldBeAhead_13 ?_
  refine g_i2l X dX1_wouldBeAhead_16 ?_
  refine g_aload_n X dX1_wouldBeAhead_17 rfl (lv_at hl 1 rfl) ?_
  refine g_iload_n X dX1_wouldBeAhead_18 rfl (lv_at hl 4 rfl) ?_
  obtain ⟨r19, hr19, hF⟩ := obind hF
  refine k_Vi X (As := [.int a3]) (rest := [.long r13.toInt64]) (c_X1_valueOf hI hn hr19) (cwV 1 X.ts gX1_wouldBeAhead_X1_valueOf rfl rfl rfl (by decide +kernel) ⟨Nat.le_of_ble_eq_true rfl, Nat.le_of_ble_eq_true rfl⟩) ⟨n, 1, _, _, st_obj hn, rfl, rfl⟩ rfl hl.1 rfl (Nat.le_of_ble_eq_true rfl) dX1_wouldBeAhead_19 ?_
  refine g_i2l X dX1_wouldBeAhead_22 ?_
  refine g_lsub X dX1_wouldBeAhead_23 ?_
  refine g_lload X dX1_wouldBeAhead_24 (lv_at hl 0 rfl) ?_
  refine g_iload X dX1_wouldBeAhead_26 (lv_at hl 5 rfl) ?_
  refine g_i2l X dX1_wouldBeAhead_28 ?_
  refine g_lmul X dX1_wouldBeAhead_29 ?_
  refine g_ladd X dX1_wouldBeAhead_30 ?_
  refine g_lstore (lv' := [(7, _), (5, _), (0, _), (1, _), (2, _), (3, _), (4, _)]) X dX1_wouldBeAhead_31 hl (by decide) rfl (fun ls hl => ?_)
  refine g_lload X dX1_wouldBeAhead_33 (lv_at hl 0 rfl) ?_
  refine g_lconst (v := 0) X dX1_wouldBeAhead_35 (by decide) ?_
  refine g_lcmp X dX1_wouldBeAhead_36 ?_
  refine g_if_eq (tgt := 53) X dX1_wouldBeAhead_37 (by decide) (fun hc37 => ?_) (fun hc37 => ?_)
  · have hF := ite_t hF hc37
    refine g_lload X dX1_wouldBeAhead_53 (lv_at hl 1 rfl) ?_
    refine g_lconst (v := 0) X dX1_wouldBeAhead_55 (by decide) ?_
    refine g_lcmp X dX1_wouldBeAhead_56 ?_
    refine g_if_eq (tgt := 75) X dX1_wouldBeAhead_57 (by decide) (fun hc57 => ?_) (fun hc57 => ?_)
    · have hF := ite_t hF hc57
      refine g_aload_n X dX1_wouldBeAhead_75 rfl (lv_at hl 2 rfl) ?_
      refine g_iload_n X dX1_wouldBeAhead_76 rfl (lv_at hl 3 rfl) ?_
      refine g_iload_n X dX1_wouldBeAhead_77 rfl (lv_at hl 5 rfl) ?_
      obtain ⟨r78, hr78, hF⟩ := obind hF
      refine k_Vz X (As := [.int a1, .int a3]) (rest := []) (c_X1_isBeforeAsEqual hI hn hr78) (cwV 2 X.ts gX1_wouldBeAhead_X1_isBeforeAsEqual rfl rfl rfl (by decide +kernel) ⟨Nat.le_of_ble_eq_true rfl, Nat.le_of_ble_eq_true rfl⟩) ⟨n, 1, _, _, st_obj hn, rfl, rfl⟩ rfl hl.1 rfl (Nat.le_of_ble_eq_true rfl) dX1_wouldBeAhead_78 (fun hz78 => ?_)
      exact g_zret X hz78 (pZ_mk (some_inj hF) hz78) dX1_wouldBeAhead_81
    · have hF := ite_f hF hc57
      refine g_lload X dX1_wouldBeAhead_60 (lv_at hl 1 rfl) ?_
      refine g_lconst (v := 0) X dX1_wouldBeAhead_62 (by decide) ?_
      refine g_lcmp X dX1_wouldBeAhead_63 ?_
      refine g_if_le (tgt := 71) X dX1_wouldBeAhead_64 (by decide) (fun hc64 => ?_) (fun hc64 => ?_)
      · have hF := ite_t hF hc64
        refine g_iconst (v := 0) X dX1_wouldBeAhead_71 (by decide) ?_
        refine g_goto (tgt := 81) X dX1_wouldBeAhead_72 (by decide) ?_
        exact g_zret X rfl (pZ_mk (some_inj hF) rfl) dX1_wouldBeAhead_81
      · have hF := ite_f hF hc64
        refine g_iconst (v := 1) X dX1_wouldBeAhead_67 (by decide) ?_
        refine g_goto (tgt := 81) X dX1_wouldBeAhead_68 (by decide) ?_
        exact g_zret X rfl (pZ_mk (some_inj hF) rfl) dX1_wouldBeAhead_81
  · have hF := ite_f hF hc37
    refine g_lload X dX1_wouldBeAhead_40 (lv_at hl 0 rfl) ?_
    refine g_lconst (v := 0) X dX1_wouldBeAhead_42 (by decide) ?_
    refine g_lcmp X dX1_wouldBeAhead_43 ?_
    refine g_if_le (tgt := 51) X dX1_wouldBeAhead_44 (by decide) (fun hc44 => ?_) (fun hc44 => ?_)
    · have hF := ite_t hF hc44
      refine g_iconst (v := 0) X dX1_wouldBeAhead_51 (by decide) ?_
      exact g_zret X rfl (pZ_mk (some_inj hF) rfl) dX1_wouldBeAhead_52
    · have hF := ite_f hF hc44
      refine g_iconst (v := 1) X dX1_wouldBeAhead_47 (by decide) ?_
      refine g_goto (tgt := 52) X dX1_wouldBeAhead_48 (by decide) ?_
      exact g_zret X rfl (pZ_mk (some_inj hF) rfl) dX1_wouldBeAhead_52
def L_X1_foremost_6 (n : Nat) (a2 : Int32) (a3 : Int32) (a4 : Int32) (σ : Mem) : Nat → Int32 → Int32 → Option Int32
  | 0, _, _ => none
  | fu + 1, a5, a6 => (if a2 ≤ a6 then some a5 else (Option.bind (if a6 = a3 then some a5 else Option.bind (F_X1_has n a6 σ) (fun r21 => (if r21 = 0 then some a5 else (if a5 = (-1 : Int32) then some a6 else Option.bind (F_X1_speedOf n a6 σ) (fun r39 => Option.bind (F_X1_wouldBeAhead n a6 r39 a5 a4 σ) (fun r46 => (if r46 = 0 then some a5 else some a6))))))) (fun v15 : Int32 => L_X1_foremost_6 n a2 a3 a4 σ fu v15 (a6 + 1))))
set_option maxHeartbeats 4000000 in
set_option maxRecDepth 100000 in
theorem w_X1_foremost_6 {D : va_G} {ay : Nat → ClassId} {ad : Nat → Nat} {p : Program} {l : Launch} {e : Env} {s : State} {m : MethodId} {args : Array Value} {below : List Frame} {meth : Method} {c : Code} {Q : State → Prop} {n : Nat} {a2 : Int32} {a3 : Int32} {a4 : Int32} {σ : Mem} {res : Int32} (X : CX D ay p s m args meth c cX1_foremost 7 RX1 (some .int) wsX1_foremost) (hI : adOK ad) (hn : IsSt n) (K : ∀ ls : Array Slot, lv_has ls 7 [(5, .int res)] → GW D (wC ay ad) (AC ad) p l e ({ frames := 2, cells := 0, slots := 0, locals := 50 } : Room) s m args below meth c Q σ (F0 m 62 ls [])) : ∀ (fu : Nat) (a5 : Int32) (a6 : Int32), L_X1_foremost_6 n a2 a3 a4 σ fu a5 a6 = some res → ∀ ls : Array Slot, lv_has ls 7 [(0, .ref (ad n)), (2, .int a2), (3, .int a3), (4, .int a4), (5, .int a5), (6, .int a6)] → GW D (wC ay ad) (AC ad) p l e ({ frames := 2, cells := 0, slots := 0, locals := 50 } : Room) s m args below meth c Q σ (F0 m 6 ls []) := by
  intro fu
  induction fu with
  | zero =>
    intro a5 a6 hF ls hl
    rw [L_X1_foremost_6] at hF
    cases hF
  | succ fu ih =>
    intro a5 a6 hF ls hl
    rw [L_X1_foremost_6] at hF
    refine g_iload X dX1_foremost_6 (lv_at hl 5 rfl) ?_
    refine g_iload_n X dX1_foremost_8 rfl (lv_at hl 1 rfl) ?_
    refine g_icmp_ge (tgt := 62) X dX1_foremost_9 (by decide) (fun hc9 => ?_) (fun hc9 => ?_)
    · have hF := ite_t hF hc9
      have e6 := some_inj hF
      subst e6
      exact K ls (lv_sub hl [4] rfl)
    · have hF := ite_f hF hc9
      refine g_iload X dX1_foremost_12 (lv_at hl 5 rfl) ?_
      refine g_iload_n X dX1_foremost_14 rfl (lv_at hl 2 rfl) ?_
      obtain ⟨v15, hR15, hF⟩ := obind hF
      refine g_cut (nM := 7) [(0, .ref (ad n)), (2, .int a2), (3, .int a3), (4, .int a4), (5, .int v15), (6, .int a6)] (σ) 56 [] (fun ls hl => ?_) (fun J15 => ?_)
      · refine g_iinc (v := a6 + 1) (lv' := [(6, _), (0, _), (2, _), (3, _), (4, _), (5, _)]) X dX1_foremost_56 hl (k := 5) rfl rfl (by decide) rfl (fun ls hl => ?_)
        refine g_goto (tgt := 6) X dX1_foremost_59 (by decide) ?_
        exact ih v15 (a6 + 1) hF ls (lv_sub hl [1, 2, 3, 4, 5, 0] rfl)
      · refine g_icmp_eq (tgt := 56) X dX1_foremost_15 (by decide) (fun hc15 => ?_) (fun hc15 => ?_)
        · have hR15 := ite_t hR15 hc15
          have e15 := some_inj hR15
          subst e15
          exact J15 ls (lv_sub hl [0, 1, 2, 3, 4, 5] rfl)
        · have hR15 := ite_f hR15 hc15
          refine g_aload_n X dX1_foremost_18 rfl (lv_at hl 0 rfl) ?_
          refine g_iload X dX1_foremost_19 (lv_at hl 5 rfl) ?_
          obtain ⟨r21, hr21, hR15⟩ := obind hR15
          refine k_Vz X (As := [.int a6]) (rest := []) (c_X1_has hI hn hr21) (cwV 1 X.ts gX1_foremost_X1_has rfl rfl rfl (by decide +kernel) ⟨Nat.le_of_ble_eq_true rfl, Nat.le_of_ble_eq_true rfl⟩) ⟨n, 1, _, _, st_obj hn, rfl, rfl⟩ rfl hl.1 rfl (Nat.le_of_ble_eq_true rfl) dX1_foremost_21 (fun hz21 => ?_)
          refine g_if_eq (tgt := 56) X dX1_foremost_24 (by decide) (fun hc24 => ?_) (fun hc24 => ?_)
          · have hR15 := ite_t hR15 hc24
            have e15 := some_inj hR15
            subst e15
            exact J15 ls (lv_sub hl [0, 1, 2, 3, 4, 5] rfl)
          · have hR15 := ite_f hR15 hc24
            refine g_iload X dX1_foremost_27 (lv_at hl 4 rfl) ?_
            refine g_iconst (v := -1) X dX1_foremost_29 (by decide) ?_
            refine g_icmp_eq (tgt := 52) X dX1_foremost_30 (by decide) (fun hc30 => ?_) (fun hc30 => ?_)
            · have hR15 := ite_t hR15 hc30
              refine g_iload X dX1_foremost_52 (lv_at hl 5 rfl) ?_
              refine g_istore (lv' := [(5, _), (0, _), (2, _), (3, _), (4, _), (6, _)]) X dX1_foremost_54 hl (by decide) rfl (fun ls hl => ?_)
              have e15 := some_inj hR15
              subst e15
              exact J15 ls (lv_sub hl [1, 2, 3, 4, 0, 5] rfl)
            · have hR15 := ite_f hR15 hc30
              refine g_aload_n X dX1_foremost_33 rfl (lv_at hl 0 rfl) ?_
              refine g_iload X dX1_foremost_34 (lv_at hl 5 rfl) ?_
              refine g_aload_n X dX1_foremost_36 rfl (lv_at hl 0 rfl) ?_
              refine g_iload X dX1_foremost_37 (lv_at hl 5 rfl) ?_
              obtain ⟨r39, hr39, hR15⟩ := obind hR15
              refine k_Vi X (As := [.int a6]) (rest := [.int a6, .ref (ad n)]) (c_X1_speedOf hI hn hr39) (cwV 1 X.ts gX1_foremost_X1_speedOf rfl rfl rfl (by decide +kernel) ⟨Nat.le_of_ble_eq_true rfl, Nat.le_of_ble_eq_true rfl⟩) ⟨n, 1, _, _, st_obj hn, rfl, rfl⟩ rfl hl.1 rfl (Nat.le_of_ble_eq_true rfl) dX1_foremost_39 ?_
              refine g_iload X dX1_foremost_42 (lv_at hl 4 rfl) ?_
              refine g_iload X dX1_foremost_44 (lv_at hl 3 rfl) ?_
              obtain ⟨r46, hr46, hR15⟩ := obind hR15
              refine k_Vz X (As := [.int a6, .int r39, .int a5, .int a4]) (rest := []) (c_X1_wouldBeAhead hI hn hr46) (cwV 4 X.ts gX1_foremost_X1_wouldBeAhead rfl rfl rfl (by decide +kernel) ⟨Nat.le_of_ble_eq_true rfl, Nat.le_of_ble_eq_true rfl⟩) ⟨n, 1, _, _, st_obj hn, rfl, rfl⟩ rfl hl.1 rfl (Nat.le_of_ble_eq_true rfl) dX1_foremost_46 (fun hz46 => ?_)
              refine g_if_eq (tgt := 56) X dX1_foremost_49 (by decide) (fun hc49 => ?_) (fun hc49 => ?_)
              · have hR15 := ite_t hR15 hc49
                have e15 := some_inj hR15
                subst e15
                exact J15 ls (lv_sub hl [0, 1, 2, 3, 4, 5] rfl)
              · have hR15 := ite_f hR15 hc49
                refine g_iload X dX1_foremost_52 (lv_at hl 5 rfl) ?_
                refine g_istore (lv' := [(5, _), (0, _), (2, _), (3, _), (4, _), (6, _)]) X dX1_foremost_54 hl (by decide) rfl (fun ls hl => ?_)
                have e15 := some_inj hR15
                subst e15
                exact J15 ls (lv_sub hl [1, 2, 3, 4, 0, 5] rfl)
def F_X1_foremost (n : Nat) (a1 : Int32) (a2 : Int32) (a3 : Int32) (a4 : Int32) (σ : Mem) : Option Int32 := Option.bind (L_X1_foremost_6 n a2 a3 a4 σ FU (-1 : Int32) a1) (fun v6 : Int32 => some v6)
set_option maxHeartbeats 4000000 in
set_option maxRecDepth 100000 in
theorem c_X1_foremost {l : Launch} {D : va_G} {ay : Nat → ClassId} {ad : Nat → Nat} {n : Nat} {a1 : Int32} {a2 : Int32} {a3 : Int32} {a4 : Int32} {σ : Mem} {res : Int32} (hI : adOK ad) (hn : IsSt n) (hF : F_X1_foremost n a1 a2 a3 a4 σ = some res) : Met l yX1_foremost wsX1_foremost ({ frames := 2, cells := 0, slots := 0, locals := 50 } : Room) (va_Pc [.ref (ad n), .int a1, .int a2, .int a3, .int a4] (PP D ay (wC ay ad σ))) (va_Qi (pP res σ) (fun τ => PP D ay (wC ay ad τ)) (AC ad)) 0 0 (AC ad) := by
  refine g_start (wd := wC ay ad) (A := AC ad) (own := RX1) (mL := 7) (rt := (some .int)) (by decide) rfl rfl (Nat.le_of_ble_eq_true rfl) ?_
  intro p e s m below meth c ls X hl
  have hl : lv_has ls 7 [(0, .ref (ad n)), (1, .int a1), (2, .int a2), (3, .int a3), (4, .int a4)] := hl
  rw [F_X1_foremost] at hF
  refine g_iconst (v := -1) X dX1_foremost_0 (by decide) ?_
  refine g_istore (lv' := [(5, _), (0, _), (1, _), (2, _), (3, _), (4, _)]) X dX1_foremost_1 hl (by decide) rfl (fun ls hl => ?_)
  refine g_iload_n X dX1_foremost_3 rfl (lv_at hl 2 rfl) ?_
  refine g_istore (lv' := [(6, _), (5, _), (0, _), (1, _), (2, _), (3, _), (4, _)]) X dX1_foremost_4 hl (by decide) rfl (fun ls hl => ?_)
  obtain ⟨v6, hL6, hF⟩ := obind hF
  refine w_X1_foremost_6 X hI hn (fun ls hl => ?_) FU (-1 : Int32) a1 hL6 ls (lv_sub hl [2, 4, 5, 6, 1, 0] rfl)
  refine g_iload X dX1_foremost_62 (lv_at hl 0 rfl) ?_
  exact g_iret X (pP_mk (some_inj hF)) dX1_foremost_64
def F_X1_isSoonerAhead (n : Nat) (a1 : Int32) (a2 : Int32) (a3 : Int32) (σ : Mem) : Option Int32 := Option.bind (F_X1_speedOf n a1 σ) (fun r2 => Option.bind (F_X1_speedOf n a3 σ) (fun r8 => Option.bind (F_X1_speedOf n a2 σ) (fun r17 => Option.bind (F_X1_speedOf n a3 σ) (fun r23 => Option.bind (F_X1_valueOf n a3 σ) (fun r32 => Option.bind (F_X1_valueOf n a1 σ) (fun r38 => Option.bind (F_X1_valueOf n a3 σ) (fun r47 => Option.bind (F_X1_valueOf n a2 σ) (fun r53 => (if (lg_cmp (((r32.toInt64 - r38.toInt64) * (r17.toInt64 - r23.toInt64)) - ((r47.toInt64 - r53.toInt64) * (r2.toInt64 - r8.toInt64))) (0 : Int64)) = 0 then (if (lg_cmp (r2.toInt64 - r8.toInt64) (r17.toInt64 - r23.toInt64)) = 0 then Option.bind (F_X1_isBeforeAsEqual n a1 a2 σ) (fun r120 => some r120) else (if (lg_cmp (r2.toInt64 - r8.toInt64) (r17.toInt64 - r23.toInt64)) ≤ 0 then some (0 : Int32) else some (1 : Int32))) else (if 0 ≤ (lg_cmp (((r32.toInt64 - r38.toInt64) * (r17.toInt64 - r23.toInt64)) - ((r47.toInt64 - r53.toInt64) * (r2.toInt64 - r8.toInt64))) (0 : Int64)) then some (0 : Int32) else some (1 : Int32)))))))))))
set_option maxHeartbeats 4000000 in
set_option maxRecDepth 100000 in
theorem c_X1_isSoonerAhead {l : Launch} {D : va_G} {ay : Nat → ClassId} {ad : Nat → Nat} {n : Nat} {a1 : Int32} {a2 : Int32} {a3 : Int32} {σ : Mem} {res : Int32} (hI : adOK ad) (hn : IsSt n) (hF : F_X1_isSoonerAhead n a1 a2 a3 σ = some res) : Met l yX1_isSoonerAhead wsX1_isSoonerAhead ({ frames := 1, cells := 0, slots := 0, locals := 22 } : Room) (va_Pc [.ref (ad n), .int a1, .int a2, .int a3] (PP D ay (wC ay ad σ))) (va_Qi (pZ res σ) (fun τ => PP D ay (wC ay ad τ)) (AC ad)) 0 0 (AC ad) := by
  refine g_start (wd := wC ay ad) (A := AC ad) (own := RX1) (mL := 14) (rt := (some .boolean)) (by decide) rfl rfl (Nat.le_of_ble_eq_true rfl) ?_
  intro p e s m below meth c ls X hl
  have hl : lv_has ls 14 [(0, .ref (ad n)), (1, .int a1), (2, .int a2), (3, .int a3)] := hl
  rw [F_X1_isSoonerAhead] at hF
  refine g_aload_n X dX1_isSoonerAhead_0 rfl (lv_at hl 0 rfl) ?_
  refine g_iload_n X dX1_isSoonerAhead_1 rfl (lv_at hl 1 rfl) ?_
  obtain ⟨r2, hr2, hF⟩ := obind hF
  refine k_Vi X (As := [.int a1]) (rest := []) (c_X1_speedOf hI hn hr2) (cwV 1 X.ts gX1_isSoonerAhead_X1_speedOf rfl rfl rfl (by decide +kernel) ⟨Nat.le_of_ble_eq_true rfl, Nat.le_of_ble_eq_true rfl⟩) ⟨n, 1, _, _, st_obj hn, rfl, rfl⟩ rfl hl.1 rfl (Nat.le_of_ble_eq_true rfl) dX1_isSoonerAhead_2 ?_
  refine g_i2l X dX1_isSoonerAhead_5 ?_
  refine g_aload_n X dX1_isSoonerAhead_6 rfl (lv_at hl 0 rfl) ?_
  refine g_iload_n X dX1_isSoonerAhead_7 rfl (lv_at hl 3 rfl) ?_
  obtain ⟨r8, hr8, hF⟩ := obind hF
  refine k_Vi X (As := [.int a3]) (rest := [.long r2.toInt64]) (c_X1_speedOf hI hn hr8) (cwV 1 X.ts gX1_isSoonerAhead_X1_speedOf rfl rfl rfl (by decide +kernel) ⟨Nat.le_of_ble_eq_true rfl, Nat.le_of_ble_eq_true rfl⟩) ⟨n, 1, _, _, st_obj hn, rfl, rfl⟩ rfl hl.1 rfl (Nat.le_of_ble_eq_true rfl) dX1_isSoonerAhead_8 ?_
  refine g_i2l X dX1_isSoonerAhead_11 ?_
  refine g_lsub X dX1_isSoonerAhead_12 ?_
  refine g_lstore (lv' := [(4, _), (0, _), (1, _), (2, _), (3, _)]) X dX1_isSoonerAhead_13 hl (by decide) rfl (fun ls hl => ?_)
  refine g_aload_n X dX1_isSoonerAhead_15 rfl (lv_at hl 1 rfl) ?_
  refine g_iload_n X dX1_isSoonerAhead_16 rfl (lv_at hl 3 rfl) ?_
  obtain ⟨r17, hr17, hF⟩ := obind hF
  refine k_Vi X (As := [.int a2]) (rest := []) (c_X1_speedOf hI hn hr17) (cwV 1 X.ts gX1_isSoonerAhead_X1_speedOf rfl rfl rfl (by decide +kernel) ⟨Nat.le_of_ble_eq_true rfl, Nat.le_of_ble_eq_true rfl⟩) ⟨n, 1, _, _, st_obj hn, rfl, rfl⟩ rfl hl.1 rfl (Nat.le_of_ble_eq_true rfl) dX1_isSoonerAhead_17 ?_
  refine g_i2l X dX1_isSoonerAhead_20 ?_
  refine g_aload_n X dX1_isSoonerAhead_21 rfl (lv_at hl 1 rfl) ?_
  refine g_iload_n X dX1_isSoonerAhead_22 rfl (lv_at hl 4 rfl) ?_
  obtain ⟨r23, hr23, hF⟩ := obind hF
  refine k_Vi X (As := [.int a3]) (rest := [.long r17.toInt64]) (c_X1_speedOf hI hn hr23) (cwV 1 X.ts gX1_isSoonerAhead_X1_speedOf rfl rfl rfl (by decide +kernel) ⟨Nat.le_of_ble_eq_true rfl, Nat.le_of_ble_eq_true rfl⟩) ⟨n, 1, _, _, st_obj hn, rfl, rfl⟩ rfl hl.1 rfl (Nat.le_of_ble_eq_true rfl) dX1_isSoonerAhead_23 ?_
  refine g_i2l X dX1_isSoonerAhead_26 ?_
  refine g_lsub X dX1_isSoonerAhead_27 ?_
  refine g_lstore (lv' := [(6, _), (4, _), (0, _), (1, _), (2, _), (3, _)]) X dX1_isSoonerAhead_28 hl (by decide) rfl (fun ls hl => ?_)
  refine g_aload_n X dX1_isSoonerAhead_30 rfl (lv_at hl 2 rfl) ?_
  refine g_iload_n X dX1_isSoonerAhead_31 rfl (lv_at hl 5 rfl) ?_
  obtain ⟨r32, hr32, hF⟩ := obind hF
  refine k_Vi X (As := [.int a3]) (rest := []) (c_X1_valueOf hI hn hr32) (cwV 1 X.ts gX1_isSoonerAhead_X1_valueOf rfl rfl rfl (by decide +kernel) ⟨Nat.le_of_ble_eq_true rfl, Nat.le_of_ble_eq_true rfl⟩) ⟨n, 1, _, _, st_obj hn, rfl, rfl⟩ rfl hl.1 rfl (Nat.le_of_ble_eq_true rfl) dX1_isSoonerAhead_32 ?_
  refine g_i2l X dX1_isSoonerAhead_35 ?_
  refine g_aload_n X dX1_isSoonerAhead_36 rfl (lv_at hl 2 rfl) ?_
  refine g_iload_n X dX1_isSoonerAhead_37 rfl (lv_at hl 3 rfl) ?_
  obtain ⟨r38, hr38, hF⟩ := obind hF
  refine k_Vi X (As := [.int a1]) (rest := [.long r32.toInt64]) (c_X1_valueOf hI hn hr38) (cwV 1 X.ts gX1_isSoonerAhead_X1_valueOf rfl rfl rfl (by decide +kernel) ⟨Nat.le_of_ble_eq_true rfl, Nat.le_of_ble_eq_true rfl⟩) ⟨n, 1, _, _, st_obj hn, rfl, rfl⟩ rfl hl.1 rfl (Nat.le_of_ble_eq_true rfl) dX1_isSoonerAhead_38 ?_
  refine g_i2l X dX1_isSoonerAhead_41 ?_
  refine g_lsub X dX1_isSoonerAhead_42 ?_
  refine g_lstore (lv' := [(8, _), (6, _), (4, _), (0, _), (1, _), (2, _), (3, _)]) X dX1_isSoonerAhead_43 hl (by decide) rfl (fun ls hl => ?_)
  refine g_aload_n X dX1_isSoonerAhead_45 rfl (lv_at hl 3 rfl) ?_
  refine g_iload_n X dX1_isSoonerAhead_46 rfl (lv_at hl 6 rfl) ?_
  obtain ⟨r47, hr47, hF⟩ := obind hF
  refine k_Vi X (As := [.int a3]) (rest := []) (c_X1_valueOf hI hn hr47) (cwV 1 X.ts gX1_isSoonerAhead_X1_valueOf rfl rfl rfl (by decide +kernel) ⟨Nat.le_of_ble_eq_true rfl, Nat.le_of_ble_eq_true rfl⟩) ⟨n, 1, _, _, st_obj hn, rfl, rfl⟩ rfl hl.1 rfl (Nat.le_of_ble_eq_true rfl) dX1_isSoonerAhead_47 ?_
  refine g_i2l X dX1_isSoonerAhead_50 ?_
  refine g_aload_n X dX1_isSoonerAhead_51 rfl (lv_at hl 3 rfl) ?_
  refine g_iload_n X dX1_isSoonerAhead_52 rfl (lv_at hl 5 rfl) ?_
  obtain ⟨r53, hr53, hF⟩ := obind hF
  refine k_Vi X (As := [.int a2]) (rest := [.long r47.toInt64]) (c_X1_valueOf hI hn hr53) (cwV 1 X.ts gX1_isSoonerAhead_X1_valueOf rfl rfl rfl (by decide +kernel) ⟨Nat.le_of_ble_eq_true rfl, Nat.le_of_ble_eq_true rfl⟩) ⟨n, 1, _, _, st_obj hn, rfl, rfl⟩ rfl hl.1 rfl (Nat.le_of_ble_eq_true rfl) dX1_isSoonerAhead_53 ?_
  refine g_i2l X dX1_isSoonerAhead_56 ?_
  refine g_lsub X dX1_isSoonerAhead_57 ?_
  refine g_lstore (lv' := [(10, _), (8, _), (6, _), (4, _), (0, _), (1, _), (2, _), (3, _)]) X dX1_isSoonerAhead_58 hl (by decide) rfl (fun ls hl => ?_)
  refine g_lload X dX1_isSoonerAhead_60 (lv_at hl 1 rfl) ?_
  refine g_lload X dX1_isSoonerAhead_62 (lv_at hl 2 rfl) ?_
  refine g_lmul X dX1_isSoonerAhead_64 ?_
  refine g_lload X dX1_isSoonerAhead_65 (lv_at hl 0 rfl) ?_
  refine g_lload X dX1_isSoonerAhead_67 (lv_at hl 3 rfl) ?_
  refine g_lmul X dX1_isSoonerAhead_69 ?_
  refine g_lsub X dX1_isSoonerAhead_70 ?_
  refine g_lstore (lv' := [(12, _), (10, _), (8, _), (6, _), (4, _), (0, _), (1, _), (2, _), (3, _)]) X dX1_isSoonerAhead_71 hl (by decide) rfl (fun ls hl => ?_)
  refine g_lload X dX1_isSoonerAhead_73 (lv_at hl 0 rfl) ?_
  refine g_lconst (v := 0) X dX1_isSoonerAhead_75 (by decide) ?_
  refine g_lcmp X dX1_isSoonerAhead_76 ?_
  refine g_if_eq (tgt := 93) X dX1_isSoonerAhead_77 (by decide) (fun hc77 => ?_) (fun hc77 => ?_)
  · have hF := ite_t hF hc77
    refine g_lload X dX1_isSoonerAhead_93 (lv_at hl 4 rfl) ?_
    refine g_lload X dX1_isSoonerAhead_95 (lv_at hl 3 rfl) ?_
    refine g_lcmp X dX1_isSoonerAhead_97 ?_
    refine g_if_eq (tgt := 117) X dX1_isSoonerAhead_98 (by decide) (fun hc98 => ?_) (fun hc98 => ?_)
    · have hF := ite_t hF hc98
      refine g_aload_n X dX1_isSoonerAhead_117 rfl (lv_at hl 5 rfl) ?_
      refine g_iload_n X dX1_isSoonerAhead_118 rfl (lv_at hl 6 rfl) ?_
      refine g_iload_n X dX1_isSoonerAhead_119 rfl (lv_at hl 7 rfl) ?_
      obtain ⟨r120, hr120, hF⟩ := obind hF
      refine k_Vz X (As := [.int a1, .int a2]) (rest := []) (c_X1_isBeforeAsEqual hI hn hr120) (cwV 2 X.ts gX1_isSoonerAhead_X1_isBeforeAsEqual rfl rfl rfl (by decide +kernel) ⟨Nat.le_of_ble_eq_true rfl, Nat.le_of_ble_eq_true rfl⟩) ⟨n, 1, _, _, st_obj hn, rfl, rfl⟩ rfl hl.1 rfl (Nat.le_of_ble_eq_true rfl) dX1_isSoonerAhead_120 (fun hz120 => ?_)
      exact g_zret X hz120 (pZ_mk (some_inj hF) hz120) dX1_isSoonerAhead_123
    · have hF := ite_f hF hc98
      refine g_lload X dX1_isSoonerAhead_101 (lv_at hl 4 rfl) ?_
      refine g_lload X dX1_isSoonerAhead_103 (lv_at hl 3 rfl) ?_
      refine g_lcmp X dX1_isSoonerAhead_105 ?_
      refine g_if_le (tgt := 113) X dX1_isSoonerAhead_106 (by decide) (fun hc106 => ?_) (fun hc106 => ?_)
      · have hF := ite_t hF hc106
        refine g_iconst (v := 0) X dX1_isSoonerAhead_113 (by decide) ?_
        refine g_goto (tgt := 123) X dX1_isSoonerAhead_114 (by decide) ?_
        exact g_zret X rfl (pZ_mk (some_inj hF) rfl) dX1_isSoonerAhead_123
      · have hF := ite_f hF hc106
        refine g_iconst (v := 1) X dX1_isSoonerAhead_109 (by decide) ?_
        refine g_goto (tgt := 123) X dX1_isSoonerAhead_110 (by decide) ?_
        exact g_zret X rfl (pZ_mk (some_inj hF) rfl) dX1_isSoonerAhead_123
  · have hF := ite_f hF hc77
    refine g_lload X dX1_isSoonerAhead_80 (lv_at hl 0 rfl) ?_
    refine g_lconst (v := 0) X dX1_isSoonerAhead_82 (by decide) ?_
    refine g_lcmp X dX1_isSoonerAhead_83 ?_
    refine g_if_ge (tgt := 91) X dX1_isSoonerAhead_84 (by decide) (fun hc84 => ?_) (fun hc84 => ?_)
    · have hF := ite_t hF hc84
      refine g_iconst (v := 0) X dX1_isSoonerAhead_91 (by decide) ?_
      exact g_zret X rfl (pZ_mk (some_inj hF) rfl) dX1_isSoonerAhead_92
    · have hF := ite_f hF hc84
      refine g_iconst (v := 1) X dX1_isSoonerAhead_87 (by decide) ?_
      refine g_goto (tgt := 92) X dX1_isSoonerAhead_88 (by decide) ?_
      exact g_zret X rfl (pZ_mk (some_inj hF) rfl) dX1_isSoonerAhead_92
theorem in_X1_copyFrom_X1 : ∀ w ∈ wsX10, w ∈ wsX1_copyFrom := by decide +kernel
def L_X1_copyFrom_2 (n : Nat) (o1 : Nat) : Nat → Int32 → Mem → Option Mem
  | 0, _, _ => none
  | fu + 1, a2, σ => (if (16 : Int32) ≤ a2 then some σ else if inb a2 16 then (if inb a2 16 then (if inb a2 16 then (if inb a2 16 then (if inb a2 16 then (if inb a2 16 then (if inb a2 16 then (if inb a2 16 then (L_X1_copyFrom_2 n o1 fu (a2 + 1) (up2 (up2 (up2 (up2 σ (n + 1) a2.toNatClampNeg (vp_nar .boolean (σ (o1 + 1) a2.toNatClampNeg))) (n + 2) a2.toNatClampNeg ((up2 σ (n + 1) a2.toNatClampNeg (vp_nar .boolean (σ (o1 + 1) a2.toNatClampNeg))) (o1 + 2) a2.toNatClampNeg)) (n + 3) a2.toNatClampNeg ((up2 (up2 σ (n + 1) a2.toNatClampNeg (vp_nar .boolean (σ (o1 + 1) a2.toNatClampNeg))) (n + 2) a2.toNatClampNeg ((up2 σ (n + 1) a2.toNatClampNeg (vp_nar .boolean (σ (o1 + 1) a2.toNatClampNeg))) (o1 + 2) a2.toNatClampNeg)) (o1 + 3) a2.toNatClampNeg)) (n + 4) a2.toNatClampNeg ((up2 (up2 (up2 σ (n + 1) a2.toNatClampNeg (vp_nar .boolean (σ (o1 + 1) a2.toNatClampNeg))) (n + 2) a2.toNatClampNeg ((up2 σ (n + 1) a2.toNatClampNeg (vp_nar .boolean (σ (o1 + 1) a2.toNatClampNeg))) (o1 + 2) a2.toNatClampNeg)) (n + 3) a2.toNatClampNeg ((up2 (up2 σ (n + 1) a2.toNatClampNeg (vp_nar .boolean (σ (o1 + 1) a2.toNatClampNeg))) (n + 2) a2.toNatClampNeg ((up2 σ (n + 1) a2.toNatClampNeg (vp_nar .boolean (σ (o1 + 1) a2.toNatClampNeg))) (o1 + 2) a2.toNatClampNeg)) (o1 + 3) a2.toNatClampNeg)) (o1 + 4) a2.toNatClampNeg))) else none) else none) else none) else none) else none) else none) else none) else none)
set_option maxHeartbeats 4000000 in
set_option maxRecDepth 100000 in
theorem w_X1_copyFrom_2 {D : va_G} {ay : Nat → ClassId} {ad : Nat → Nat} {p : Program} {l : Launch} {e : Env} {s : State} {m : MethodId} {args : Array Value} {below : List Frame} {meth : Method} {c : Code} {Q : State → Prop} {n : Nat} {o1 : Nat} {res : Mem} (X : CX D ay p s m args meth c cX1_copyFrom 3 RX1 none wsX1_copyFrom) (hI : adOK ad) (hn : IsSt n) (ho1 : IsSt o1) (K : ∀ ls : Array Slot, lv_has ls 3 [(0, .ref (ad n)), (1, .ref (ad o1))] → GW D (wC ay ad) (AC ad) p l e ({ frames := 0, cells := 0, slots := 0, locals := 0 } : Room) s m args below meth c Q res (F0 m 62 ls [])) : ∀ (fu : Nat) (a2 : Int32) (σ : Mem), L_X1_copyFrom_2 n o1 fu a2 σ = some res → ∀ ls : Array Slot, lv_has ls 3 [(0, .ref (ad n)), (1, .ref (ad o1)), (2, .int a2)] → GW D (wC ay ad) (AC ad) p l e ({ frames := 0, cells := 0, slots := 0, locals := 0 } : Room) s m args below meth c Q σ (F0 m 2 ls []) := by
  intro fu
  induction fu with
  | zero =>
    intro a2 σ hF ls hl
    rw [L_X1_copyFrom_2] at hF
    cases hF
  | succ fu ih =>
    intro a2 σ hF ls hl
    rw [L_X1_copyFrom_2] at hF
    refine g_iload_n X dX1_copyFrom_2 rfl (lv_at hl 2 rfl) ?_
    refine g_bipush (v := 16) X dX1_copyFrom_3 (by decide) ?_
    refine g_icmp_ge (tgt := 62) X dX1_copyFrom_5 (by decide) (fun hc5 => ?_) (fun hc5 => ?_)
    · have hF := ite_t hF hc5
      have e2 := some_inj hF
      subst e2
      exact K ls (lv_sub hl [0, 1] rfl)
    · have hF := ite_f hF hc5
      refine g_aload_n X dX1_copyFrom_8 rfl (lv_at hl 0 rfl) ?_
      refine g_get X n (st_obj hn) in_X1_copyFrom_X1 rfl 0 (by decide) (X.ts (.fieldLink RX1 9 "LeadTimes$State" "taken" "[Z") (by decide +kernel)) rfl rfl dX1_copyFrom_9 ?_
      refine g_iload_n X dX1_copyFrom_12 rfl (lv_at hl 2 rfl) ?_
      refine g_aload_n X dX1_copyFrom_13 rfl (lv_at hl 1 rfl) ?_
      refine g_get X o1 (st_obj ho1) in_X1_copyFrom_X1 rfl 0 (by decide) (X.ts (.fieldLink RX1 9 "LeadTimes$State" "taken" "[Z") (by decide +kernel)) rfl rfl dX1_copyFrom_14 ?_
      refine g_iload_n X dX1_copyFrom_17 rfl (lv_at hl 2 rfl) ?_
      obtain ⟨h18, hF⟩ := itn hF
      refine g_zald X (o1 + 1) (j := a2.toNatClampNeg) (st_arr1 ho1) (by first | rfl | decide) (inb_in h18) dX1_copyFrom_18 ?_
      obtain ⟨h19, hF⟩ := itn hF
      refine g_zast X (wC_D hI) (up2 σ (n + 1) a2.toNatClampNeg (vp_nar .boolean (σ (o1 + 1) a2.toNatClampNeg))) (n + 1) (j := a2.toNatClampNeg) (st_arr1 hn) (by first | rfl | decide) (set_arr (a := 1) (n := 16) (fun τ => st_arr1 hn)) (inb_in h19) dX1_copyFrom_19 ?_
      refine g_aload_n X dX1_copyFrom_20 rfl (lv_at hl 0 rfl) ?_
      refine g_get X n (st_obj hn) in_X1_copyFrom_X1 rfl 1 (by decide) (X.ts (.fieldLink RX1 15 "LeadTimes$State" "value" "[I") (by decide +kernel)) rfl rfl dX1_copyFrom_21 ?_
      refine g_iload_n X dX1_copyFrom_24 rfl (lv_at hl 2 rfl) ?_
      refine g_aload_n X dX1_copyFrom_25 rfl (lv_at hl 1 rfl) ?_
      refine g_get X o1 (st_obj ho1) in_X1_copyFrom_X1 rfl 1 (by decide) (X.ts (.fieldLink RX1 15 "LeadTimes$State" "value" "[I") (by decide +kernel)) rfl rfl dX1_copyFrom_26 ?_
      refine g_iload_n X dX1_copyFrom_29 rfl (lv_at hl 2 rfl) ?_
      obtain ⟨h30, hF⟩ := itn hF
      refine g_iald X (o1 + 2) (j := a2.toNatClampNeg) (st_arr ho1 (by decide) (by decide)) (by first | rfl | decide) (inb_in h30) dX1_copyFrom_30 ?_
      obtain ⟨h31, hF⟩ := itn hF
      refine g_iast X (wC_D hI) (up2 (up2 σ (n + 1) a2.toNatClampNeg (vp_nar .boolean (σ (o1 + 1) a2.toNatClampNeg))) (n + 2) a2.toNatClampNeg ((up2 σ (n + 1) a2.toNatClampNeg (vp_nar .boolean (σ (o1 + 1) a2.toNatClampNeg))) (o1 + 2) a2.toNatClampNeg)) (n + 2) (j := a2.toNatClampNeg) (st_arr hn (by decide) (by decide)) (by first | rfl | decide) (set_arr (a := 0) (n := 16) (fun τ => st_arr hn (by decide) (by decide))) (inb_in h31) dX1_copyFrom_31 ?_
      refine g_aload_n X dX1_copyFrom_32 rfl (lv_at hl 0 rfl) ?_
      refine g_get X n (st_obj hn) in_X1_copyFrom_X1 rfl 2 (by decide) (X.ts (.fieldLink RX1 19 "LeadTimes$State" "speed" "[I") (by decide +kernel)) rfl rfl dX1_copyFrom_33 ?_
      refine g_iload_n X dX1_copyFrom_36 rfl (lv_at hl 2 rfl) ?_
      refine g_aload_n X dX1_copyFrom_37 rfl (lv_at hl 1 rfl) ?_
      refine g_get X o1 (st_obj ho1) in_X1_copyFrom_X1 rfl 2 (by decide) (X.ts (.fieldLink RX1 19 "LeadTimes$State" "speed" "[I") (by decide +kernel)) rfl rfl dX1_copyFrom_38 ?_
      refine g_iload_n X dX1_copyFrom_41 rfl (lv_at hl 2 rfl) ?_
      obtain ⟨h42, hF⟩ := itn hF
      refine g_iald X (o1 + 3) (j := a2.toNatClampNeg) (st_arr ho1 (by decide) (by decide)) (by first | rfl | decide) (inb_in h42) dX1_copyFrom_42 ?_
      obtain ⟨h43, hF⟩ := itn hF
      refine g_iast X (wC_D hI) (up2 (up2 (up2 σ (n + 1) a2.toNatClampNeg (vp_nar .boolean (σ (o1 + 1) a2.toNatClampNeg))) (n + 2) a2.toNatClampNeg ((up2 σ (n + 1) a2.toNatClampNeg (vp_nar .boolean (σ (o1 + 1) a2.toNatClampNeg))) (o1 + 2) a2.toNatClampNeg)) (n + 3) a2.toNatClampNeg ((up2 (up2 σ (n + 1) a2.toNatClampNeg (vp_nar .boolean (σ (o1 + 1) a2.toNatClampNeg))) (n + 2) a2.toNatClampNeg ((up2 σ (n + 1) a2.toNatClampNeg (vp_nar .boolean (σ (o1 + 1) a2.toNatClampNeg))) (o1 + 2) a2.toNatClampNeg)) (o1 + 3) a2.toNatClampNeg)) (n + 3) (j := a2.toNatClampNeg) (st_arr hn (by decide) (by decide)) (by first | rfl | decide) (set_arr (a := 0) (n := 16) (fun τ => st_arr hn (by decide) (by decide))) (inb_in h43) dX1_copyFrom_43 ?_
      refine g_aload_n X dX1_copyFrom_44 rfl (lv_at hl 0 rfl) ?_
      refine g_get X n (st_obj hn) in_X1_copyFrom_X1 rfl 3 (by decide) (X.ts (.fieldLink RX1 22 "LeadTimes$State" "addedAt" "[I") (by decide +kernel)) rfl rfl dX1_copyFrom_45 ?_
      refine g_iload_n X dX1_copyFrom_48 rfl (lv_at hl 2 rfl) ?_
      refine g_aload_n X dX1_copyFrom_49 rfl (lv_at hl 1 rfl) ?_
      refine g_get X o1 (st_obj ho1) in_X1_copyFrom_X1 rfl 3 (by decide) (X.ts (.fieldLink RX1 22 "LeadTimes$State" "addedAt" "[I") (by decide +kernel)) rfl rfl dX1_copyFrom_50 ?_
      refine g_iload_n X dX1_copyFrom_53 rfl (lv_at hl 2 rfl) ?_
      obtain ⟨h54, hF⟩ := itn hF
      refine g_iald X (o1 + 4) (j := a2.toNatClampNeg) (st_arr ho1 (by decide) (by decide)) (by first | rfl | decide) (inb_in h54) dX1_copyFrom_54 ?_
      obtain ⟨h55, hF⟩ := itn hF
      refine g_iast X (wC_D hI) (up2 (up2 (up2 (up2 σ (n + 1) a2.toNatClampNeg (vp_nar .boolean (σ (o1 + 1) a2.toNatClampNeg))) (n + 2) a2.toNatClampNeg ((up2 σ (n + 1) a2.toNatClampNeg (vp_nar .boolean (σ (o1 + 1) a2.toNatClampNeg))) (o1 + 2) a2.toNatClampNeg)) (n + 3) a2.toNatClampNeg ((up2 (up2 σ (n + 1) a2.toNatClampNeg (vp_nar .boolean (σ (o1 + 1) a2.toNatClampNeg))) (n + 2) a2.toNatClampNeg ((up2 σ (n + 1) a2.toNatClampNeg (vp_nar .boolean (σ (o1 + 1) a2.toNatClampNeg))) (o1 + 2) a2.toNatClampNeg)) (o1 + 3) a2.toNatClampNeg)) (n + 4) a2.toNatClampNeg ((up2 (up2 (up2 σ (n + 1) a2.toNatClampNeg (vp_nar .boolean (σ (o1 + 1) a2.toNatClampNeg))) (n + 2) a2.toNatClampNeg ((up2 σ (n + 1) a2.toNatClampNeg (vp_nar .boolean (σ (o1 + 1) a2.toNatClampNeg))) (o1 + 2) a2.toNatClampNeg)) (n + 3) a2.toNatClampNeg ((up2 (up2 σ (n + 1) a2.toNatClampNeg (vp_nar .boolean (σ (o1 + 1) a2.toNatClampNeg))) (n + 2) a2.toNatClampNeg ((up2 σ (n + 1) a2.toNatClampNeg (vp_nar .boolean (σ (o1 + 1) a2.toNatClampNeg))) (o1 + 2) a2.toNatClampNeg)) (o1 + 3) a2.toNatClampNeg)) (o1 + 4) a2.toNatClampNeg)) (n + 4) (j := a2.toNatClampNeg) (st_arr hn (by decide) (by decide)) (by first | rfl | decide) (set_arr (a := 0) (n := 16) (fun τ => st_arr hn (by decide) (by decide))) (inb_in h55) dX1_copyFrom_55 ?_
      refine g_iinc (v := a2 + 1) (lv' := [(2, _), (0, _), (1, _)]) X dX1_copyFrom_56 hl (k := 2) rfl rfl (by decide) rfl (fun ls hl => ?_)
      refine g_goto (tgt := 2) X dX1_copyFrom_59 (by decide) ?_
      exact ih (a2 + 1) (up2 (up2 (up2 (up2 σ (n + 1) a2.toNatClampNeg (vp_nar .boolean (σ (o1 + 1) a2.toNatClampNeg))) (n + 2) a2.toNatClampNeg ((up2 σ (n + 1) a2.toNatClampNeg (vp_nar .boolean (σ (o1 + 1) a2.toNatClampNeg))) (o1 + 2) a2.toNatClampNeg)) (n + 3) a2.toNatClampNeg ((up2 (up2 σ (n + 1) a2.toNatClampNeg (vp_nar .boolean (σ (o1 + 1) a2.toNatClampNeg))) (n + 2) a2.toNatClampNeg ((up2 σ (n + 1) a2.toNatClampNeg (vp_nar .boolean (σ (o1 + 1) a2.toNatClampNeg))) (o1 + 2) a2.toNatClampNeg)) (o1 + 3) a2.toNatClampNeg)) (n + 4) a2.toNatClampNeg ((up2 (up2 (up2 σ (n + 1) a2.toNatClampNeg (vp_nar .boolean (σ (o1 + 1) a2.toNatClampNeg))) (n + 2) a2.toNatClampNeg ((up2 σ (n + 1) a2.toNatClampNeg (vp_nar .boolean (σ (o1 + 1) a2.toNatClampNeg))) (o1 + 2) a2.toNatClampNeg)) (n + 3) a2.toNatClampNeg ((up2 (up2 σ (n + 1) a2.toNatClampNeg (vp_nar .boolean (σ (o1 + 1) a2.toNatClampNeg))) (n + 2) a2.toNatClampNeg ((up2 σ (n + 1) a2.toNatClampNeg (vp_nar .boolean (σ (o1 + 1) a2.toNatClampNeg))) (o1 + 2) a2.toNatClampNeg)) (o1 + 3) a2.toNatClampNeg)) (o1 + 4) a2.toNatClampNeg)) hF ls (lv_sub hl [1, 2, 0] rfl)
def L_X1_copyFrom_64 (n : Nat) (o1 : Nat) : Nat → Int32 → Mem → Option Mem
  | 0, _, _ => none
  | fu + 1, a2, σ => (if (15 : Int32) < a2 then some σ else if inb a2 16 then (if inb a2 16 then (L_X1_copyFrom_64 n o1 fu (a2 + 1) (up2 σ (n + 5) a2.toNatClampNeg (σ (o1 + 5) a2.toNatClampNeg))) else none) else none)
set_option maxHeartbeats 4000000 in
set_option maxRecDepth 100000 in
theorem w_X1_copyFrom_64 {D : va_G} {ay : Nat → ClassId} {ad : Nat → Nat} {p : Program} {l : Launch} {e : Env} {s : State} {m : MethodId} {args : Array Value} {below : List Frame} {meth : Method} {c : Code} {Q : State → Prop} {n : Nat} {o1 : Nat} {res : Mem} (X : CX D ay p s m args meth c cX1_copyFrom 3 RX1 none wsX1_copyFrom) (hI : adOK ad) (hn : IsSt n) (ho1 : IsSt o1) (K : ∀ ls : Array Slot, lv_has ls 3 [(0, .ref (ad n)), (1, .ref (ad o1))] → GW D (wC ay ad) (AC ad) p l e ({ frames := 0, cells := 0, slots := 0, locals := 0 } : Room) s m args below meth c Q res (F0 m 88 ls [])) : ∀ (fu : Nat) (a2 : Int32) (σ : Mem), L_X1_copyFrom_64 n o1 fu a2 σ = some res → ∀ ls : Array Slot, lv_has ls 3 [(0, .ref (ad n)), (1, .ref (ad o1)), (2, .int a2)] → GW D (wC ay ad) (AC ad) p l e ({ frames := 0, cells := 0, slots := 0, locals := 0 } : Room) s m args below meth c Q σ (F0 m 64 ls []) := by
  intro fu
  induction fu with
  | zero =>
    intro a2 σ hF ls hl
    rw [L_X1_copyFrom_64] at hF
    cases hF
  | succ fu ih =>
    intro a2 σ hF ls hl
    rw [L_X1_copyFrom_64] at hF
    refine g_iload_n X dX1_copyFrom_64 rfl (lv_at hl 2 rfl) ?_
    refine g_bipush (v := 15) X dX1_copyFrom_65 (by decide) ?_
    refine g_icmp_gt (tgt := 88) X dX1_copyFrom_67 (by decide) (fun hc67 => ?_) (fun hc67 => ?_)
    · have hF := ite_t hF hc67
      have e64 := some_inj hF
      subst e64
      exact K ls (lv_sub hl [0, 1] rfl)
    · have hF := ite_f hF hc67
      refine g_aload_n X dX1_copyFrom_70 rfl (lv_at hl 0 rfl) ?_
      refine g_get X n (st_obj hn) in_X1_copyFrom_X1 rfl 4 (by decide) (X.ts (.fieldLink RX1 25 "LeadTimes$State" "turned" "[I") (by decide +kernel)) rfl rfl dX1_copyFrom_71 ?_
      refine g_iload_n X dX1_copyFrom_74 rfl (lv_at hl 2 rfl) ?_
      refine g_aload_n X dX1_copyFrom_75 rfl (lv_at hl 1 rfl) ?_
      refine g_get X o1 (st_obj ho1) in_X1_copyFrom_X1 rfl 4 (by decide) (X.ts (.fieldLink RX1 25 "LeadTimes$State" "turned" "[I") (by decide +kernel)) rfl rfl dX1_copyFrom_76 ?_
      refine g_iload_n X dX1_copyFrom_79 rfl (lv_at hl 2 rfl) ?_
      obtain ⟨h80, hF⟩ := itn hF
      refine g_iald X (o1 + 5) (j := a2.toNatClampNeg) (st_arr ho1 (by decide) (by decide)) (by first | rfl | decide) (inb_in h80) dX1_copyFrom_80 ?_
      obtain ⟨h81, hF⟩ := itn hF
      refine g_iast X (wC_D hI) (up2 σ (n + 5) a2.toNatClampNeg (σ (o1 + 5) a2.toNatClampNeg)) (n + 5) (j := a2.toNatClampNeg) (st_arr hn (by decide) (by decide)) (by first | rfl | decide) (set_arr (a := 0) (n := 16) (fun τ => st_arr hn (by decide) (by decide))) (inb_in h81) dX1_copyFrom_81 ?_
      refine g_iinc (v := a2 + 1) (lv' := [(2, _), (0, _), (1, _)]) X dX1_copyFrom_82 hl (k := 2) rfl rfl (by decide) rfl (fun ls hl => ?_)
      refine g_goto (tgt := 64) X dX1_copyFrom_85 (by decide) ?_
      exact ih (a2 + 1) (up2 σ (n + 5) a2.toNatClampNeg (σ (o1 + 5) a2.toNatClampNeg)) hF ls (lv_sub hl [1, 2, 0] rfl)
def F_X1_copyFrom (n : Nat) (o1 : Nat) (σ : Mem) : Option Mem := Option.bind (L_X1_copyFrom_2 n o1 FU (0 : Int32) σ) (fun v2 : Mem => Option.bind (L_X1_copyFrom_64 n o1 FU (1 : Int32) v2) (fun v64 : Mem => some (up2 (up2 (up2 v64 n 5 (v64 o1 5)) n 6 ((up2 v64 n 5 (v64 o1 5)) o1 6)) n 7 ((up2 (up2 v64 n 5 (v64 o1 5)) n 6 ((up2 v64 n 5 (v64 o1 5)) o1 6)) o1 7))))
set_option maxHeartbeats 4000000 in
set_option maxRecDepth 100000 in
theorem c_X1_copyFrom {l : Launch} {D : va_G} {ay : Nat → ClassId} {ad : Nat → Nat} {n : Nat} {o1 : Nat} {σ : Mem} {res : Mem} (hI : adOK ad) (hn : IsSt n) (ho1 : IsSt o1) (hF : F_X1_copyFrom n o1 σ = some res) : Met l yX1_copyFrom wsX1_copyFrom ({ frames := 0, cells := 0, slots := 0, locals := 0 } : Room) (va_Pc [.ref (ad n), .ref (ad o1)] (PP D ay (wC ay ad σ))) (va_Qv (pV res) (fun τ => PP D ay (wC ay ad τ)) (AC ad)) 0 0 (AC ad) := by
  refine g_start (wd := wC ay ad) (A := AC ad) (own := RX1) (mL := 3) (rt := none) (by decide) rfl rfl (Nat.le_of_ble_eq_true rfl) ?_
  intro p e s m below meth c ls X hl
  have hl : lv_has ls 3 [(0, .ref (ad n)), (1, .ref (ad o1))] := hl
  rw [F_X1_copyFrom] at hF
  refine g_iconst (v := 0) X dX1_copyFrom_0 (by decide) ?_
  refine g_istore_n (lv' := [(2, _), (0, _), (1, _)]) X dX1_copyFrom_1 rfl hl (by decide) rfl (fun ls hl => ?_)
  obtain ⟨v2, hL2, hF⟩ := obind hF
  refine w_X1_copyFrom_2 X hI hn ho1 (fun ls hl => ?_) FU (0 : Int32) σ hL2 ls (lv_sub hl [1, 2, 0] rfl)
  refine g_iconst (v := 1) X dX1_copyFrom_62 (by decide) ?_
  refine g_istore_n (lv' := [(2, _), (0, _), (1, _)]) X dX1_copyFrom_63 rfl hl (by decide) rfl (fun ls hl => ?_)
  obtain ⟨v64, hL64, hF⟩ := obind hF
  refine w_X1_copyFrom_64 X hI hn ho1 (fun ls hl => ?_) FU (1 : Int32) v2 hL64 ls (lv_sub hl [1, 2, 0] rfl)
  refine g_aload_n X dX1_copyFrom_88 rfl (lv_at hl 0 rfl) ?_
  refine g_aload_n X dX1_copyFrom_89 rfl (lv_at hl 1 rfl) ?_
  refine g_get X o1 (st_obj ho1) in_X1_copyFrom_X1 rfl 5 (by decide) (X.ts (.fieldLink RX1 28 "LeadTimes$State" "time" "I") (by decide +kernel)) rfl rfl dX1_copyFrom_90 ?_
  refine g_put X (wC_D hI) (up2 v64 n 5 (v64 o1 5)) n (st_obj hn) 5 (set_st hn (by decide) (by decide)) tyX1 tyX1_ok nmX1 in_X1_copyFrom_X1 rfl (by decide) (X.ts (.fieldLink RX1 28 "LeadTimes$State" "time" "I") (by decide +kernel)) rfl rfl rfl rfl rfl (Nat.le_of_ble_eq_true rfl) dX1_copyFrom_93 ?_
  refine g_aload_n X dX1_copyFrom_96 rfl (lv_at hl 0 rfl) ?_
  refine g_aload_n X dX1_copyFrom_97 rfl (lv_at hl 1 rfl) ?_
  refine g_get X o1 (st_obj ho1) in_X1_copyFrom_X1 rfl 6 (by decide) (X.ts (.fieldLink RX1 32 "LeadTimes$State" "higherFirst" "I") (by decide +kernel)) rfl rfl dX1_copyFrom_98 ?_
  refine g_put X (wC_D hI) (up2 (up2 v64 n 5 (v64 o1 5)) n 6 ((up2 v64 n 5 (v64 o1 5)) o1 6)) n (st_obj hn) 6 (set_st hn (by decide) (by decide)) tyX1 tyX1_ok nmX1 in_X1_copyFrom_X1 rfl (by decide) (X.ts (.fieldLink RX1 32 "LeadTimes$State" "higherFirst" "I") (by decide +kernel)) rfl rfl rfl rfl rfl (Nat.le_of_ble_eq_true rfl) dX1_copyFrom_101 ?_
  refine g_aload_n X dX1_copyFrom_104 rfl (lv_at hl 0 rfl) ?_
  refine g_aload_n X dX1_copyFrom_105 rfl (lv_at hl 1 rfl) ?_
  refine g_get X o1 (st_obj ho1) in_X1_copyFrom_X1 rfl 7 (by decide) (X.ts (.fieldLink RX1 35 "LeadTimes$State" "horizon" "I") (by decide +kernel)) rfl rfl dX1_copyFrom_106 ?_
  refine g_put X (wC_D hI) (up2 (up2 (up2 v64 n 5 (v64 o1 5)) n 6 ((up2 v64 n 5 (v64 o1 5)) o1 6)) n 7 ((up2 (up2 v64 n 5 (v64 o1 5)) n 6 ((up2 v64 n 5 (v64 o1 5)) o1 6)) o1 7)) n (st_obj hn) 7 (set_st hn (by decide) (by decide)) tyX1 tyX1_ok nmX1 in_X1_copyFrom_X1 rfl (by decide) (X.ts (.fieldLink RX1 35 "LeadTimes$State" "horizon" "I") (by decide +kernel)) rfl rfl rfl rfl rfl (Nat.le_of_ble_eq_true rfl) dX1_copyFrom_109 ?_
  exact g_vret X (pV_mk (some_inj hF)) dX1_copyFrom_112
theorem in_X1_addedAtOf_X1 : ∀ w ∈ wsX10, w ∈ wsX1_addedAtOf := by decide +kernel
def F_X1_addedAtOf (n : Nat) (a1 : Int32) (σ : Mem) : Option Int32 := (if a1 < 0 then some (0 : Int32) else (if (16 : Int32) ≤ a1 then some (0 : Int32) else if inb a1 16 then (some (σ (n + 4) a1.toNatClampNeg)) else none))
set_option maxHeartbeats 4000000 in
set_option maxRecDepth 100000 in
theorem c_X1_addedAtOf {l : Launch} {D : va_G} {ay : Nat → ClassId} {ad : Nat → Nat} {n : Nat} {a1 : Int32} {σ : Mem} {res : Int32} (hI : adOK ad) (hn : IsSt n) (hF : F_X1_addedAtOf n a1 σ = some res) : Met l yX1_addedAtOf wsX1_addedAtOf ({ frames := 0, cells := 0, slots := 0, locals := 0 } : Room) (va_Pc [.ref (ad n), .int a1] (PP D ay (wC ay ad σ))) (va_Qi (pP res σ) (fun τ => PP D ay (wC ay ad τ)) (AC ad)) 0 0 (AC ad) := by
  refine g_start (wd := wC ay ad) (A := AC ad) (own := RX1) (mL := 2) (rt := (some .int)) (by decide) rfl rfl (Nat.le_of_ble_eq_true rfl) ?_
  intro p e s m below meth c ls X hl
  have hl : lv_has ls 2 [(0, .ref (ad n)), (1, .int a1)] := hl
  rw [F_X1_addedAtOf] at hF
  refine g_iload_n X dX1_addedAtOf_0 rfl (lv_at hl 1 rfl) ?_
  refine g_if_lt (tgt := 19) X dX1_addedAtOf_1 (by decide) (fun hc1 => ?_) (fun hc1 => ?_)
  · have hF := ite_t hF hc1
    refine g_iconst (v := 0) X dX1_addedAtOf_19 (by decide) ?_
    exact g_iret X (pP_mk (some_inj hF)) dX1_addedAtOf_20
  · have hF := ite_f hF hc1
    refine g_iload_n X dX1_addedAtOf_4 rfl (lv_at hl 1 rfl) ?_
    refine g_bipush (v := 16) X dX1_addedAtOf_5 (by decide) ?_
    refine g_icmp_ge (tgt := 19) X dX1_addedAtOf_7 (by decide) (fun hc7 => ?_) (fun hc7 => ?_)
    · have hF := ite_t hF hc7
      refine g_iconst (v := 0) X dX1_addedAtOf_19 (by decide) ?_
      exact g_iret X (pP_mk (some_inj hF)) dX1_addedAtOf_20
    · have hF := ite_f hF hc7
      refine g_aload_n X dX1_addedAtOf_10 rfl (lv_at hl 0 rfl) ?_
      refine g_get X n (st_obj hn) in_X1_addedAtOf_X1 rfl 3 (by decide) (X.ts (.fieldLink RX1 22 "LeadTimes$State" "addedAt" "[I") (by decide +kernel)) rfl rfl dX1_addedAtOf_11 ?_
      refine g_iload_n X dX1_addedAtOf_14 rfl (lv_at hl 1 rfl) ?_
      obtain ⟨h15, hF⟩ := itn hF
      refine g_iald X (n + 4) (j := a1.toNatClampNeg) (st_arr hn (by decide) (by decide)) (by first | rfl | decide) (inb_in h15) dX1_addedAtOf_15 ?_
      refine g_goto (tgt := 20) X dX1_addedAtOf_16 (by decide) ?_
      exact g_iret X (pP_mk (some_inj hF)) dX1_addedAtOf_20
theorem in_X1_turnedOf_X1 : ∀ w ∈ wsX10, w ∈ wsX1_turnedOf := by decide +kernel
def F_X1_turnedOf (n : Nat) (a1 : Int32) (σ : Mem) : Option Int32 := Option.bind (F_X3_isWithin a1 (1 : Int32) (15 : Int32)) (fun r4 => (if r4 = 0 then some (0 : Int32) else if inb a1 16 then (some (σ (n + 5) a1.toNatClampNeg)) else none))
set_option maxHeartbeats 4000000 in
set_option maxRecDepth 100000 in
theorem c_X1_turnedOf {l : Launch} {D : va_G} {ay : Nat → ClassId} {ad : Nat → Nat} {n : Nat} {a1 : Int32} {σ : Mem} {res : Int32} (hI : adOK ad) (hn : IsSt n) (hF : F_X1_turnedOf n a1 σ = some res) : Met l yX1_turnedOf wsX1_turnedOf ({ frames := 1, cells := 0, slots := 0, locals := 22 } : Room) (va_Pc [.ref (ad n), .int a1] (PP D ay (wC ay ad σ))) (va_Qi (pP res σ) (fun τ => PP D ay (wC ay ad τ)) (AC ad)) 0 0 (AC ad) := by
  refine g_start (wd := wC ay ad) (A := AC ad) (own := RX1) (mL := 2) (rt := (some .int)) (by decide) rfl rfl (Nat.le_of_ble_eq_true rfl) ?_
  intro p e s m below meth c ls X hl
  have hl : lv_has ls 2 [(0, .ref (ad n)), (1, .int a1)] := hl
  rw [F_X1_turnedOf] at hF
  refine g_iload_n X dX1_turnedOf_0 rfl (lv_at hl 1 rfl) ?_
  refine g_iconst (v := 1) X dX1_turnedOf_1 (by decide) ?_
  refine g_bipush (v := 15) X dX1_turnedOf_2 (by decide) ?_
  obtain ⟨r4, hr4, hF⟩ := obind hF
  refine k_SNz X (As := [.int a1, .int (1 : Int32), .int (15 : Int32)]) (rest := []) (c_X3_isWithin hI hr4) ⟨va_cnB 3 X.ts gX1_turnedOf_X3_isWithin_n38 rfl rfl rfl X.kk.2.2.1 (X.ts (.initialized RX3) (by decide +kernel)) (by decide +kernel) ⟨Nat.le_of_ble_eq_true rfl, Nat.le_of_ble_eq_true rfl⟩, X.ts (.static yX3_isWithin) (by decide +kernel), trivial⟩ rfl hl.1 rfl (Nat.le_of_ble_eq_true rfl) dX1_turnedOf_4 (fun hz4 => ?_)
  refine g_if_eq (tgt := 19) X dX1_turnedOf_7 (by decide) (fun hc7 => ?_) (fun hc7 => ?_)
  · have hF := ite_t hF hc7
    refine g_iconst (v := 0) X dX1_turnedOf_19 (by decide) ?_
    exact g_iret X (pP_mk (some_inj hF)) dX1_turnedOf_20
  · have hF := ite_f hF hc7
    refine g_aload_n X dX1_turnedOf_10 rfl (lv_at hl 0 rfl) ?_
    refine g_get X n (st_obj hn) in_X1_turnedOf_X1 rfl 4 (by decide) (X.ts (.fieldLink RX1 25 "LeadTimes$State" "turned" "[I") (by decide +kernel)) rfl rfl dX1_turnedOf_11 ?_
    refine g_iload_n X dX1_turnedOf_14 rfl (lv_at hl 1 rfl) ?_
    obtain ⟨h15, hF⟩ := itn hF
    refine g_iald X (n + 5) (j := a1.toNatClampNeg) (st_arr hn (by decide) (by decide)) (by first | rfl | decide) (inb_in h15) dX1_turnedOf_15 ?_
    refine g_goto (tgt := 20) X dX1_turnedOf_16 (by decide) ?_
    exact g_iret X (pP_mk (some_inj hF)) dX1_turnedOf_20
theorem in_X1_allTurned_X1 : ∀ w ∈ wsX10, w ∈ wsX1_allTurned := by decide +kernel
def L_X1_allTurned_4 (n : Nat) (σ : Mem) : Nat → Int32 → Int32 → Option Int32
  | 0, _, _ => none
  | fu + 1, a1, a2 => (if (15 : Int32) < a2 then some a1 else if inb a2 16 then (L_X1_allTurned_4 n σ fu (a1 + (σ (n + 5) a2.toNatClampNeg)) (a2 + 1)) else none)
set_option maxHeartbeats 4000000 in
set_option maxRecDepth 100000 in
theorem w_X1_allTurned_4 {D : va_G} {ay : Nat → ClassId} {ad : Nat → Nat} {p : Program} {l : Launch} {e : Env} {s : State} {m : MethodId} {args : Array Value} {below : List Frame} {meth : Method} {c : Code} {Q : State → Prop} {n : Nat} {σ : Mem} {res : Int32} (X : CX D ay p s m args meth c cX1_allTurned 3 RX1 (some .int) wsX1_allTurned) (hI : adOK ad) (hn : IsSt n) (K : ∀ ls : Array Slot, lv_has ls 3 [(1, .int res)] → GW D (wC ay ad) (AC ad) p l e ({ frames := 0, cells := 0, slots := 0, locals := 0 } : Room) s m args below meth c Q σ (F0 m 25 ls [])) : ∀ (fu : Nat) (a1 : Int32) (a2 : Int32), L_X1_allTurned_4 n σ fu a1 a2 = some res → ∀ ls : Array Slot, lv_has ls 3 [(0, .ref (ad n)), (1, .int a1), (2, .int a2)] → GW D (wC ay ad) (AC ad) p l e ({ frames := 0, cells := 0, slots := 0, locals := 0 } : Room) s m args below meth c Q σ (F0 m 4 ls []) := by
  intro fu
  induction fu with
  | zero =>
    intro a1 a2 hF ls hl
    rw [L_X1_allTurned_4] at hF
    cases hF
  | succ fu ih =>
    intro a1 a2 hF ls hl
    rw [L_X1_allTurned_4] at hF
    refine g_iload_n X dX1_allTurned_4 rfl (lv_at hl 2 rfl) ?_
    refine g_bipush (v := 15) X dX1_allTurned_5 (by decide) ?_
    refine g_icmp_gt (tgt := 25) X dX1_allTurned_7 (by decide) (fun hc7 => ?_) (fun hc7 => ?_)
    · have hF := ite_t hF hc7
      have e4 := some_inj hF
      subst e4
      exact K ls (lv_sub hl [1] rfl)
    · have hF := ite_f hF hc7
      refine g_iload_n X dX1_allTurned_10 rfl (lv_at hl 1 rfl) ?_
      refine g_aload_n X dX1_allTurned_11 rfl (lv_at hl 0 rfl) ?_
      refine g_get X n (st_obj hn) in_X1_allTurned_X1 rfl 4 (by decide) (X.ts (.fieldLink RX1 25 "LeadTimes$State" "turned" "[I") (by decide +kernel)) rfl rfl dX1_allTurned_12 ?_
      refine g_iload_n X dX1_allTurned_15 rfl (lv_at hl 2 rfl) ?_
      obtain ⟨h16, hF⟩ := itn hF
      refine g_iald X (n + 5) (j := a2.toNatClampNeg) (st_arr hn (by decide) (by decide)) (by first | rfl | decide) (inb_in h16) dX1_allTurned_16 ?_
      refine g_iadd X dX1_allTurned_17 ?_
      refine g_istore_n (lv' := [(1, _), (0, _), (2, _)]) X dX1_allTurned_18 rfl hl (by decide) rfl (fun ls hl => ?_)
      refine g_iinc (v := a2 + 1) (lv' := [(2, _), (1, _), (0, _)]) X dX1_allTurned_19 hl (k := 2) rfl rfl (by decide) rfl (fun ls hl => ?_)
      refine g_goto (tgt := 4) X dX1_allTurned_22 (by decide) ?_
      exact ih (a1 + (σ (n + 5) a2.toNatClampNeg)) (a2 + 1) hF ls (lv_sub hl [2, 1, 0] rfl)
def F_X1_allTurned (n : Nat) (σ : Mem) : Option Int32 := Option.bind (L_X1_allTurned_4 n σ FU (0 : Int32) (1 : Int32)) (fun v4 : Int32 => some v4)
set_option maxHeartbeats 4000000 in
set_option maxRecDepth 100000 in
theorem c_X1_allTurned {l : Launch} {D : va_G} {ay : Nat → ClassId} {ad : Nat → Nat} {n : Nat} {σ : Mem} {res : Int32} (hI : adOK ad) (hn : IsSt n) (hF : F_X1_allTurned n σ = some res) : Met l yX1_allTurned wsX1_allTurned ({ frames := 0, cells := 0, slots := 0, locals := 0 } : Room) (va_Pc [.ref (ad n)] (PP D ay (wC ay ad σ))) (va_Qi (pP res σ) (fun τ => PP D ay (wC ay ad τ)) (AC ad)) 0 0 (AC ad) := by
  refine g_start (wd := wC ay ad) (A := AC ad) (own := RX1) (mL := 3) (rt := (some .int)) (by decide) rfl rfl (Nat.le_of_ble_eq_true rfl) ?_
  intro p e s m below meth c ls X hl
  have hl : lv_has ls 3 [(0, .ref (ad n))] := hl
  rw [F_X1_allTurned] at hF
  refine g_iconst (v := 0) X dX1_allTurned_0 (by decide) ?_
  refine g_istore_n (lv' := [(1, _), (0, _)]) X dX1_allTurned_1 rfl hl (by decide) rfl (fun ls hl => ?_)
  refine g_iconst (v := 1) X dX1_allTurned_2 (by decide) ?_
  refine g_istore_n (lv' := [(2, _), (1, _), (0, _)]) X dX1_allTurned_3 rfl hl (by decide) rfl (fun ls hl => ?_)
  obtain ⟨v4, hL4, hF⟩ := obind hF
  refine w_X1_allTurned_4 X hI hn (fun ls hl => ?_) FU (0 : Int32) (1 : Int32) hL4 ls (lv_sub hl [2, 1, 0] rfl)
  refine g_iload_n X dX1_allTurned_25 rfl (lv_at hl 0 rfl) ?_
  exact g_iret X (pP_mk (some_inj hF)) dX1_allTurned_26
theorem in_X1_moverCount_X1 : ∀ w ∈ wsX10, w ∈ wsX1_moverCount := by decide +kernel
def L_X1_moverCount_4 (n : Nat) (σ : Mem) : Nat → Int32 → Int32 → Option Int32
  | 0, _, _ => none
  | fu + 1, a1, a2 => (if (16 : Int32) ≤ a2 then some a1 else if inb a2 16 then ((Option.bind (if (σ (n + 1) a2.toNatClampNeg) = 0 then some a1 else some (a1 + 1)) (fun v16 : Int32 => L_X1_moverCount_4 n σ fu v16 (a2 + 1)))) else none)
set_option maxHeartbeats 4000000 in
set_option maxRecDepth 100000 in
theorem w_X1_moverCount_4 {D : va_G} {ay : Nat → ClassId} {ad : Nat → Nat} {p : Program} {l : Launch} {e : Env} {s : State} {m : MethodId} {args : Array Value} {below : List Frame} {meth : Method} {c : Code} {Q : State → Prop} {n : Nat} {σ : Mem} {res : Int32} (X : CX D ay p s m args meth c cX1_moverCount 3 RX1 (some .int) wsX1_moverCount) (hI : adOK ad) (hn : IsSt n) (K : ∀ ls : Array Slot, lv_has ls 3 [(1, .int res)] → GW D (wC ay ad) (AC ad) p l e ({ frames := 0, cells := 0, slots := 0, locals := 0 } : Room) s m args below meth c Q σ (F0 m 28 ls [])) : ∀ (fu : Nat) (a1 : Int32) (a2 : Int32), L_X1_moverCount_4 n σ fu a1 a2 = some res → ∀ ls : Array Slot, lv_has ls 3 [(0, .ref (ad n)), (1, .int a1), (2, .int a2)] → GW D (wC ay ad) (AC ad) p l e ({ frames := 0, cells := 0, slots := 0, locals := 0 } : Room) s m args below meth c Q σ (F0 m 4 ls []) := by
  intro fu
  induction fu with
  | zero =>
    intro a1 a2 hF ls hl
    rw [L_X1_moverCount_4] at hF
    cases hF
  | succ fu ih =>
    intro a1 a2 hF ls hl
    rw [L_X1_moverCount_4] at hF
    refine g_iload_n X dX1_moverCount_4 rfl (lv_at hl 2 rfl) ?_
    refine g_bipush (v := 16) X dX1_moverCount_5 (by decide) ?_
    refine g_icmp_ge (tgt := 28) X dX1_moverCount_7 (by decide) (fun hc7 => ?_) (fun hc7 => ?_)
    · have hF := ite_t hF hc7
      have e4 := some_inj hF
      subst e4
      exact K ls (lv_sub hl [1] rfl)
    · have hF := ite_f hF hc7
      refine g_aload_n X dX1_moverCount_10 rfl (lv_at hl 0 rfl) ?_
      refine g_get X n (st_obj hn) in_X1_moverCount_X1 rfl 0 (by decide) (X.ts (.fieldLink RX1 9 "LeadTimes$State" "taken" "[Z") (by decide +kernel)) rfl rfl dX1_moverCount_11 ?_
      refine g_iload_n X dX1_moverCount_14 rfl (lv_at hl 2 rfl) ?_
      obtain ⟨h15, hF⟩ := itn hF
      refine g_zald X (n + 1) (j := a2.toNatClampNeg) (st_arr1 hn) (by first | rfl | decide) (inb_in h15) dX1_moverCount_15 ?_
      obtain ⟨v16, hR16, hF⟩ := obind hF
      refine g_cut (nM := 3) [(0, .ref (ad n)), (1, .int v16), (2, .int a2)] (σ) 22 [] (fun ls hl => ?_) (fun J16 => ?_)
      · refine g_iinc (v := a2 + 1) (lv' := [(2, _), (0, _), (1, _)]) X dX1_moverCount_22 hl (k := 2) rfl rfl (by decide) rfl (fun ls hl => ?_)
        refine g_goto (tgt := 4) X dX1_moverCount_25 (by decide) ?_
        exact ih v16 (a2 + 1) hF ls (lv_sub hl [1, 2, 0] rfl)
      · refine g_if_eq (tgt := 22) X dX1_moverCount_16 (by decide) (fun hc16 => ?_) (fun hc16 => ?_)
        · have hR16 := ite_t hR16 hc16
          have e16 := some_inj hR16
          subst e16
          exact J16 ls (lv_sub hl [0, 1, 2] rfl)
        · have hR16 := ite_f hR16 hc16
          refine g_iinc (v := a1 + 1) (lv' := [(1, _), (0, _), (2, _)]) X dX1_moverCount_19 hl (k := 1) rfl rfl (by decide) rfl (fun ls hl => ?_)
          have e16 := some_inj hR16
          subst e16
          exact J16 ls (lv_sub hl [1, 0, 2] rfl)
def F_X1_moverCount (n : Nat) (σ : Mem) : Option Int32 := Option.bind (L_X1_moverCount_4 n σ FU (0 : Int32) (0 : Int32)) (fun v4 : Int32 => some v4)
set_option maxHeartbeats 4000000 in
set_option maxRecDepth 100000 in
theorem c_X1_moverCount {l : Launch} {D : va_G} {ay : Nat → ClassId} {ad : Nat → Nat} {n : Nat} {σ : Mem} {res : Int32} (hI : adOK ad) (hn : IsSt n) (hF : F_X1_moverCount n σ = some res) : Met l yX1_moverCount wsX1_moverCount ({ frames := 0, cells := 0, slots := 0, locals := 0 } : Room) (va_Pc [.ref (ad n)] (PP D ay (wC ay ad σ))) (va_Qi (pP res σ) (fun τ => PP D ay (wC ay ad τ)) (AC ad)) 0 0 (AC ad) := by
  refine g_start (wd := wC ay ad) (A := AC ad) (own := RX1) (mL := 3) (rt := (some .int)) (by decide) rfl rfl (Nat.le_of_ble_eq_true rfl) ?_
  intro p e s m below meth c ls X hl
  have hl : lv_has ls 3 [(0, .ref (ad n))] := hl
  rw [F_X1_moverCount] at hF
  refine g_iconst (v := 0) X dX1_moverCount_0 (by decide) ?_
  refine g_istore_n (lv' := [(1, _), (0, _)]) X dX1_moverCount_1 rfl hl (by decide) rfl (fun ls hl => ?_)
  refine g_iconst (v := 0) X dX1_moverCount_2 (by decide) ?_
  refine g_istore_n (lv' := [(2, _), (1, _), (0, _)]) X dX1_moverCount_3 rfl hl (by decide) rfl (fun ls hl => ?_)
  obtain ⟨v4, hL4, hF⟩ := obind hF
  refine w_X1_moverCount_4 X hI hn (fun ls hl => ?_) FU (0 : Int32) (0 : Int32) hL4 ls (lv_sub hl [2, 1, 0] rfl)
  refine g_iload_n X dX1_moverCount_28 rfl (lv_at hl 0 rfl) ?_
  exact g_iret X (pP_mk (some_inj hF)) dX1_moverCount_29
theorem in_X1_freeSlot_X1 : ∀ w ∈ wsX10, w ∈ wsX1_freeSlot := by decide +kernel
def L_X1_freeSlot_2 (n : Nat) (σ : Mem) : Nat → Int32 → Option Int32
  | 0, _ => none
  | fu + 1, a1 => (if (16 : Int32) ≤ a1 then some (-1 : Int32) else if inb a1 16 then ((if ¬ (σ (n + 1) a1.toNatClampNeg) = 0 then L_X1_freeSlot_2 n σ fu (a1 + 1) else some a1)) else none)
set_option maxHeartbeats 4000000 in
set_option maxRecDepth 100000 in
theorem w_X1_freeSlot_2 {D : va_G} {ay : Nat → ClassId} {ad : Nat → Nat} {p : Program} {l : Launch} {e : Env} {s : State} {m : MethodId} {args : Array Value} {below : List Frame} {meth : Method} {c : Code} {n : Nat} {σ : Mem} {res : Int32} (X : CX D ay p s m args meth c cX1_freeSlot 2 RX1 (some .int) wsX1_freeSlot) (hI : adOK ad) (hn : IsSt n) : ∀ (fu : Nat) (a1 : Int32), L_X1_freeSlot_2 n σ fu a1 = some res → ∀ ls : Array Slot, lv_has ls 2 [(0, .ref (ad n)), (1, .int a1)] → GW D (wC ay ad) (AC ad) p l e ({ frames := 0, cells := 0, slots := 0, locals := 0 } : Room) s m args below meth c (MQ below (va_Qi (pP res σ) (fun τ => PP D ay (wC ay ad τ)) (AC ad)) args s 0 0 (AC ad)) σ (F0 m 2 ls []) := by
  intro fu
  induction fu with
  | zero =>
    intro a1 hF ls hl
    rw [L_X1_freeSlot_2] at hF
    cases hF
  | succ fu ih =>
    intro a1 hF ls hl
    rw [L_X1_freeSlot_2] at hF
    refine g_iload_n X dX1_freeSlot_2 rfl (lv_at hl 1 rfl) ?_
    refine g_bipush (v := 16) X dX1_freeSlot_3 (by decide) ?_
    refine g_icmp_ge (tgt := 25) X dX1_freeSlot_5 (by decide) (fun hc5 => ?_) (fun hc5 => ?_)
    · have hF := ite_t hF hc5
      refine g_iconst (v := -1) X dX1_freeSlot_25 (by decide) ?_
      exact g_iret X (pP_mk (some_inj hF)) dX1_freeSlot_26
    · have hF := ite_f hF hc5
      refine g_aload_n X dX1_freeSlot_8 rfl (lv_at hl 0 rfl) ?_
      refine g_get X n (st_obj hn) in_X1_freeSlot_X1 rfl 0 (by decide) (X.ts (.fieldLink RX1 9 "LeadTimes$State" "taken" "[Z") (by decide +kernel)) rfl rfl dX1_freeSlot_9 ?_
      refine g_iload_n X dX1_freeSlot_12 rfl (lv_at hl 1 rfl) ?_
      obtain ⟨h13, hF⟩ := itn hF
      refine g_zald X (n + 1) (j := a1.toNatClampNeg) (st_arr1 hn) (by first | rfl | decide) (inb_in h13) dX1_freeSlot_13 ?_
      refine g_if_ne (tgt := 19) X dX1_freeSlot_14 (by decide) (fun hc14 => ?_) (fun hc14 => ?_)
      · have hF := ite_t hF hc14
        refine g_iinc (v := a1 + 1) (lv' := [(1, _), (0, _)]) X dX1_freeSlot_19 hl (k := 1) rfl rfl (by decide) rfl (fun ls hl => ?_)
        refine g_goto (tgt := 2) X dX1_freeSlot_22 (by decide) ?_
        exact ih (a1 + 1) hF ls (lv_sub hl [1, 0] rfl)
      · have hF := ite_n hF hc14
        refine g_iload_n X dX1_freeSlot_17 rfl (lv_at hl 1 rfl) ?_
        exact g_iret X (pP_mk (some_inj hF)) dX1_freeSlot_18
def F_X1_freeSlot (n : Nat) (σ : Mem) : Option Int32 := L_X1_freeSlot_2 n σ FU (0 : Int32)
set_option maxHeartbeats 4000000 in
set_option maxRecDepth 100000 in
theorem c_X1_freeSlot {l : Launch} {D : va_G} {ay : Nat → ClassId} {ad : Nat → Nat} {n : Nat} {σ : Mem} {res : Int32} (hI : adOK ad) (hn : IsSt n) (hF : F_X1_freeSlot n σ = some res) : Met l yX1_freeSlot wsX1_freeSlot ({ frames := 0, cells := 0, slots := 0, locals := 0 } : Room) (va_Pc [.ref (ad n)] (PP D ay (wC ay ad σ))) (va_Qi (pP res σ) (fun τ => PP D ay (wC ay ad τ)) (AC ad)) 0 0 (AC ad) := by
  refine g_start (wd := wC ay ad) (A := AC ad) (own := RX1) (mL := 2) (rt := (some .int)) (by decide) rfl rfl (Nat.le_of_ble_eq_true rfl) ?_
  intro p e s m below meth c ls X hl
  have hl : lv_has ls 2 [(0, .ref (ad n))] := hl
  rw [F_X1_freeSlot] at hF
  refine g_iconst (v := 0) X dX1_freeSlot_0 (by decide) ?_
  refine g_istore_n (lv' := [(1, _), (0, _)]) X dX1_freeSlot_1 rfl hl (by decide) rfl (fun ls hl => ?_)
  exact w_X1_freeSlot_2 X hI hn FU (0 : Int32) hF ls (lv_sub hl [1, 0] rfl)
theorem in_X1_put_X1 : ∀ w ∈ wsX10, w ∈ wsX1_put := by decide +kernel
def F_X1_put (n : Nat) (a1 : Int32) (a2 : Int32) (a3 : Int32) (σ : Mem) : Option Mem := Option.bind (F_X3_isSlot a1) (fun r1 => (if r1 = 0 then some σ else if inb a1 16 then (if inb a1 16 then (if inb a1 16 then (if inb a1 16 then (some (up2 (up2 (up2 (up2 σ (n + 1) a1.toNatClampNeg (vp_nar .boolean (1 : Int32))) (n + 2) a1.toNatClampNeg a2) (n + 3) a1.toNatClampNeg a3) (n + 4) a1.toNatClampNeg ((up2 (up2 (up2 σ (n + 1) a1.toNatClampNeg (vp_nar .boolean (1 : Int32))) (n + 2) a1.toNatClampNeg a2) (n + 3) a1.toNatClampNeg a3) n 5))) else none) else none) else none) else none))
set_option maxHeartbeats 4000000 in
set_option maxRecDepth 100000 in
theorem c_X1_put {l : Launch} {D : va_G} {ay : Nat → ClassId} {ad : Nat → Nat} {n : Nat} {a1 : Int32} {a2 : Int32} {a3 : Int32} {σ : Mem} {res : Mem} (hI : adOK ad) (hn : IsSt n) (hF : F_X1_put n a1 a2 a3 σ = some res) : Met l yX1_put wsX1_put ({ frames := 2, cells := 0, slots := 0, locals := 42 } : Room) (va_Pc [.ref (ad n), .int a1, .int a2, .int a3] (PP D ay (wC ay ad σ))) (va_Qv (pV res) (fun τ => PP D ay (wC ay ad τ)) (AC ad)) 0 0 (AC ad) := by
  refine g_start (wd := wC ay ad) (A := AC ad) (own := RX1) (mL := 4) (rt := none) (by decide) rfl rfl (Nat.le_of_ble_eq_true rfl) ?_
  intro p e s m below meth c ls X hl
  have hl : lv_has ls 4 [(0, .ref (ad n)), (1, .int a1), (2, .int a2), (3, .int a3)] := hl
  rw [F_X1_put] at hF
  refine g_iload_n X dX1_put_0 rfl (lv_at hl 1 rfl) ?_
  obtain ⟨r1, hr1, hF⟩ := obind hF
  refine k_SNz X (As := [.int a1]) (rest := []) (c_X3_isSlot hI hr1) ⟨va_cnB 1 X.ts gX1_put_X3_isSlot_n42 rfl rfl rfl X.kk.2.2.2 (X.ts (.initialized RX3) (by decide +kernel)) (by decide +kernel) ⟨Nat.le_of_ble_eq_true rfl, Nat.le_of_ble_eq_true rfl⟩, X.ts (.static yX3_isSlot) (by decide +kernel), trivial⟩ rfl hl.1 rfl (Nat.le_of_ble_eq_true rfl) dX1_put_1 (fun hz1 => ?_)
  refine g_if_eq (tgt := 38) X dX1_put_4 (by decide) (fun hc4 => ?_) (fun hc4 => ?_)
  · have hF := ite_t hF hc4
    exact g_vret X (pV_mk (some_inj hF)) dX1_put_38
  · have hF := ite_f hF hc4
    refine g_aload_n X dX1_put_7 rfl (lv_at hl 0 rfl) ?_
    refine g_get X n (st_obj hn) in_X1_put_X1 rfl 0 (by decide) (X.ts (.fieldLink RX1 9 "LeadTimes$State" "taken" "[Z") (by decide +kernel)) rfl rfl dX1_put_8 ?_
    refine g_iload_n X dX1_put_11 rfl (lv_at hl 1 rfl) ?_
    refine g_iconst (v := 1) X dX1_put_12 (by decide) ?_
    obtain ⟨h13, hF⟩ := itn hF
    refine g_zast X (wC_D hI) (up2 σ (n + 1) a1.toNatClampNeg (vp_nar .boolean (1 : Int32))) (n + 1) (j := a1.toNatClampNeg) (st_arr1 hn) (by first | rfl | decide) (set_arr (a := 1) (n := 16) (fun τ => st_arr1 hn)) (inb_in h13) dX1_put_13 ?_
    refine g_aload_n X dX1_put_14 rfl (lv_at hl 0 rfl) ?_
    refine g_get X n (st_obj hn) in_X1_put_X1 rfl 1 (by decide) (X.ts (.fieldLink RX1 15 "LeadTimes$State" "value" "[I") (by decide +kernel)) rfl rfl dX1_put_15 ?_
    refine g_iload_n X dX1_put_18 rfl (lv_at hl 1 rfl) ?_
    refine g_iload_n X dX1_put_19 rfl (lv_at hl 2 rfl) ?_
    obtain ⟨h20, hF⟩ := itn hF
    refine g_iast X (wC_D hI) (up2 (up2 σ (n + 1) a1.toNatClampNeg (vp_nar .boolean (1 : Int32))) (n + 2) a1.toNatClampNeg a2) (n + 2) (j := a1.toNatClampNeg) (st_arr hn (by decide) (by decide)) (by first | rfl | decide) (set_arr (a := 0) (n := 16) (fun τ => st_arr hn (by decide) (by decide))) (inb_in h20) dX1_put_20 ?_
    refine g_aload_n X dX1_put_21 rfl (lv_at hl 0 rfl) ?_
    refine g_get X n (st_obj hn) in_X1_put_X1 rfl 2 (by decide) (X.ts (.fieldLink RX1 19 "LeadTimes$State" "speed" "[I") (by decide +kernel)) rfl rfl dX1_put_22 ?_
    refine g_iload_n X dX1_put_25 rfl (lv_at hl 1 rfl) ?_
    refine g_iload_n X dX1_put_26 rfl (lv_at hl 3 rfl) ?_
    obtain ⟨h27, hF⟩ := itn hF
    refine g_iast X (wC_D hI) (up2 (up2 (up2 σ (n + 1) a1.toNatClampNeg (vp_nar .boolean (1 : Int32))) (n + 2) a1.toNatClampNeg a2) (n + 3) a1.toNatClampNeg a3) (n + 3) (j := a1.toNatClampNeg) (st_arr hn (by decide) (by decide)) (by first | rfl | decide) (set_arr (a := 0) (n := 16) (fun τ => st_arr hn (by decide) (by decide))) (inb_in h27) dX1_put_27 ?_
    refine g_aload_n X dX1_put_28 rfl (lv_at hl 0 rfl) ?_
    refine g_get X n (st_obj hn) in_X1_put_X1 rfl 3 (by decide) (X.ts (.fieldLink RX1 22 "LeadTimes$State" "addedAt" "[I") (by decide +kernel)) rfl rfl dX1_put_29 ?_
    refine g_iload_n X dX1_put_32 rfl (lv_at hl 1 rfl) ?_
    refine g_aload_n X dX1_put_33 rfl (lv_at hl 0 rfl) ?_
    refine g_get X n (st_obj hn) in_X1_put_X1 rfl 5 (by decide) (X.ts (.fieldLink RX1 28 "LeadTimes$State" "time" "I") (by decide +kernel)) rfl rfl dX1_put_34 ?_
    obtain ⟨h37, hF⟩ := itn hF
    refine g_iast X (wC_D hI) (up2 (up2 (up2 (up2 σ (n + 1) a1.toNatClampNeg (vp_nar .boolean (1 : Int32))) (n + 2) a1.toNatClampNeg a2) (n + 3) a1.toNatClampNeg a3) (n + 4) a1.toNatClampNeg ((up2 (up2 (up2 σ (n + 1) a1.toNatClampNeg (vp_nar .boolean (1 : Int32))) (n + 2) a1.toNatClampNeg a2) (n + 3) a1.toNatClampNeg a3) n 5)) (n + 4) (j := a1.toNatClampNeg) (st_arr hn (by decide) (by decide)) (by first | rfl | decide) (set_arr (a := 0) (n := 16) (fun τ => st_arr hn (by decide) (by decide))) (inb_in h37) dX1_put_37 ?_
    exact g_vret X (pV_mk (some_inj hF)) dX1_put_38
theorem in_X1_free_X1 : ∀ w ∈ wsX10, w ∈ wsX1_free := by decide +kernel
def F_X1_free (n : Nat) (a1 : Int32) (σ : Mem) : Option Mem := Option.bind (F_X3_isSlot a1) (fun r1 => (if r1 = 0 then some σ else if inb a1 16 then (if inb a1 16 then (if inb a1 16 then (if inb a1 16 then (some (up2 (up2 (up2 (up2 σ (n + 1) a1.toNatClampNeg (vp_nar .boolean (0 : Int32))) (n + 2) a1.toNatClampNeg (0 : Int32)) (n + 3) a1.toNatClampNeg (0 : Int32)) (n + 4) a1.toNatClampNeg (0 : Int32))) else none) else none) else none) else none))
set_option maxHeartbeats 4000000 in
set_option maxRecDepth 100000 in
theorem c_X1_free {l : Launch} {D : va_G} {ay : Nat → ClassId} {ad : Nat → Nat} {n : Nat} {a1 : Int32} {σ : Mem} {res : Mem} (hI : adOK ad) (hn : IsSt n) (hF : F_X1_free n a1 σ = some res) : Met l yX1_free wsX1_free ({ frames := 2, cells := 0, slots := 0, locals := 42 } : Room) (va_Pc [.ref (ad n), .int a1] (PP D ay (wC ay ad σ))) (va_Qv (pV res) (fun τ => PP D ay (wC ay ad τ)) (AC ad)) 0 0 (AC ad) := by
  refine g_start (wd := wC ay ad) (A := AC ad) (own := RX1) (mL := 2) (rt := none) (by decide) rfl rfl (Nat.le_of_ble_eq_true rfl) ?_
  intro p e s m below meth c ls X hl
  have hl : lv_has ls 2 [(0, .ref (ad n)), (1, .int a1)] := hl
  rw [F_X1_free] at hF
  refine g_iload_n X dX1_free_0 rfl (lv_at hl 1 rfl) ?_
  obtain ⟨r1, hr1, hF⟩ := obind hF
  refine k_SNz X (As := [.int a1]) (rest := []) (c_X3_isSlot hI hr1) ⟨va_cnB 1 X.ts gX1_free_X3_isSlot_n42 rfl rfl rfl X.kk.2.2.2 (X.ts (.initialized RX3) (by decide +kernel)) (by decide +kernel) ⟨Nat.le_of_ble_eq_true rfl, Nat.le_of_ble_eq_true rfl⟩, X.ts (.static yX3_isSlot) (by decide +kernel), trivial⟩ rfl hl.1 rfl (Nat.le_of_ble_eq_true rfl) dX1_free_1 (fun hz1 => ?_)
  refine g_if_eq (tgt := 35) X dX1_free_4 (by decide) (fun hc4 => ?_) (fun hc4 => ?_)
  · have hF := ite_t hF hc4
    exact g_vret X (pV_mk (some_inj hF)) dX1_free_35
  · have hF := ite_f hF hc4
    refine g_aload_n X dX1_free_7 rfl (lv_at hl 0 rfl) ?_
    refine g_get X n (st_obj hn) in_X1_free_X1 rfl 0 (by decide) (X.ts (.fieldLink RX1 9 "LeadTimes$State" "taken" "[Z") (by decide +kernel)) rfl rfl dX1_free_8 ?_
    refine g_iload_n X dX1_free_11 rfl (lv_at hl 1 rfl) ?_
    refine g_iconst (v := 0) X dX1_free_12 (by decide) ?_
    obtain ⟨h13, hF⟩ := itn hF
    refine g_zast X (wC_D hI) (up2 σ (n + 1) a1.toNatClampNeg (vp_nar .boolean (0 : Int32))) (n + 1) (j := a1.toNatClampNeg) (st_arr1 hn) (by first | rfl | decide) (set_arr (a := 1) (n := 16) (fun τ => st_arr1 hn)) (inb_in h13) dX1_free_13 ?_
    refine g_aload_n X dX1_free_14 rfl (lv_at hl 0 rfl) ?_
    refine g_get X n (st_obj hn) in_X1_free_X1 rfl 1 (by decide) (X.ts (.fieldLink RX1 15 "LeadTimes$State" "value" "[I") (by decide +kernel)) rfl rfl dX1_free_15 ?_
    refine g_iload_n X dX1_free_18 rfl (lv_at hl 1 rfl) ?_
    refine g_iconst (v := 0) X dX1_free_19 (by decide) ?_
    obtain ⟨h20, hF⟩ := itn hF
    refine g_iast X (wC_D hI) (up2 (up2 σ (n + 1) a1.toNatClampNeg (vp_nar .boolean (0 : Int32))) (n + 2) a1.toNatClampNeg (0 : Int32)) (n + 2) (j := a1.toNatClampNeg) (st_arr hn (by decide) (by decide)) (by first | rfl | decide) (set_arr (a := 0) (n := 16) (fun τ => st_arr hn (by decide) (by decide))) (inb_in h20) dX1_free_20 ?_
    refine g_aload_n X dX1_free_21 rfl (lv_at hl 0 rfl) ?_
    refine g_get X n (st_obj hn) in_X1_free_X1 rfl 2 (by decide) (X.ts (.fieldLink RX1 19 "LeadTimes$State" "speed" "[I") (by decide +kernel)) rfl rfl dX1_free_22 ?_
    refine g_iload_n X dX1_free_25 rfl (lv_at hl 1 rfl) ?_
    refine g_iconst (v := 0) X dX1_free_26 (by decide) ?_
    obtain ⟨h27, hF⟩ := itn hF
    refine g_iast X (wC_D hI) (up2 (up2 (up2 σ (n + 1) a1.toNatClampNeg (vp_nar .boolean (0 : Int32))) (n + 2) a1.toNatClampNeg (0 : Int32)) (n + 3) a1.toNatClampNeg (0 : Int32)) (n + 3) (j := a1.toNatClampNeg) (st_arr hn (by decide) (by decide)) (by first | rfl | decide) (set_arr (a := 0) (n := 16) (fun τ => st_arr hn (by decide) (by decide))) (inb_in h27) dX1_free_27 ?_
    refine g_aload_n X dX1_free_28 rfl (lv_at hl 0 rfl) ?_
    refine g_get X n (st_obj hn) in_X1_free_X1 rfl 3 (by decide) (X.ts (.fieldLink RX1 22 "LeadTimes$State" "addedAt" "[I") (by decide +kernel)) rfl rfl dX1_free_29 ?_
    refine g_iload_n X dX1_free_32 rfl (lv_at hl 1 rfl) ?_
    refine g_iconst (v := 0) X dX1_free_33 (by decide) ?_
    obtain ⟨h34, hF⟩ := itn hF
    refine g_iast X (wC_D hI) (up2 (up2 (up2 (up2 σ (n + 1) a1.toNatClampNeg (vp_nar .boolean (0 : Int32))) (n + 2) a1.toNatClampNeg (0 : Int32)) (n + 3) a1.toNatClampNeg (0 : Int32)) (n + 4) a1.toNatClampNeg (0 : Int32)) (n + 4) (j := a1.toNatClampNeg) (st_arr hn (by decide) (by decide)) (by first | rfl | decide) (set_arr (a := 0) (n := 16) (fun τ => st_arr hn (by decide) (by decide))) (inb_in h34) dX1_free_34 ?_
    exact g_vret X (pV_mk (some_inj hF)) dX1_free_35
theorem in_X1_changeSpeed_X1 : ∀ w ∈ wsX10, w ∈ wsX1_changeSpeed := by decide +kernel
def F_X1_changeSpeed (n : Nat) (a1 : Int32) (a2 : Int32) (σ : Mem) : Option Mem := Option.bind (F_X3_isSlot a1) (fun r1 => (if r1 = 0 then some σ else if inb a1 16 then (some (up2 σ (n + 3) a1.toNatClampNeg a2)) else none))
set_option maxHeartbeats 4000000 in
set_option maxRecDepth 100000 in
theorem c_X1_changeSpeed {l : Launch} {D : va_G} {ay : Nat → ClassId} {ad : Nat → Nat} {n : Nat} {a1 : Int32} {a2 : Int32} {σ : Mem} {res : Mem} (hI : adOK ad) (hn : IsSt n) (hF : F_X1_changeSpeed n a1 a2 σ = some res) : Met l yX1_changeSpeed wsX1_changeSpeed ({ frames := 2, cells := 0, slots := 0, locals := 42 } : Room) (va_Pc [.ref (ad n), .int a1, .int a2] (PP D ay (wC ay ad σ))) (va_Qv (pV res) (fun τ => PP D ay (wC ay ad τ)) (AC ad)) 0 0 (AC ad) := by
  refine g_start (wd := wC ay ad) (A := AC ad) (own := RX1) (mL := 3) (rt := none) (by decide) rfl rfl (Nat.le_of_ble_eq_true rfl) ?_
  intro p e s m below meth c ls X hl
  have hl : lv_has ls 3 [(0, .ref (ad n)), (1, .int a1), (2, .int a2)] := hl
  rw [F_X1_changeSpeed] at hF
  refine g_iload_n X dX1_changeSpeed_0 rfl (lv_at hl 1 rfl) ?_
  obtain ⟨r1, hr1, hF⟩ := obind hF
  refine k_SNz X (As := [.int a1]) (rest := []) (c_X3_isSlot hI hr1) ⟨va_cnB 1 X.ts gX1_changeSpeed_X3_isSlot_n42 rfl rfl rfl X.kk.2.2.2 (X.ts (.initialized RX3) (by decide +kernel)) (by decide +kernel) ⟨Nat.le_of_ble_eq_true rfl, Nat.le_of_ble_eq_true rfl⟩, X.ts (.static yX3_isSlot) (by decide +kernel), trivial⟩ rfl hl.1 rfl (Nat.le_of_ble_eq_true rfl) dX1_changeSpeed_1 (fun hz1 => ?_)
  refine g_if_eq (tgt := 14) X dX1_changeSpeed_4 (by decide) (fun hc4 => ?_) (fun hc4 => ?_)
  · have hF := ite_t hF hc4
    exact g_vret X (pV_mk (some_inj hF)) dX1_changeSpeed_14
  · have hF := ite_f hF hc4
    refine g_aload_n X dX1_changeSpeed_7 rfl (lv_at hl 0 rfl) ?_
    refine g_get X n (st_obj hn) in_X1_changeSpeed_X1 rfl 2 (by decide) (X.ts (.fieldLink RX1 19 "LeadTimes$State" "speed" "[I") (by decide +kernel)) rfl rfl dX1_changeSpeed_8 ?_
    refine g_iload_n X dX1_changeSpeed_11 rfl (lv_at hl 1 rfl) ?_
    refine g_iload_n X dX1_changeSpeed_12 rfl (lv_at hl 2 rfl) ?_
    obtain ⟨h13, hF⟩ := itn hF
    refine g_iast X (wC_D hI) (up2 σ (n + 3) a1.toNatClampNeg a2) (n + 3) (j := a1.toNatClampNeg) (st_arr hn (by decide) (by decide)) (by first | rfl | decide) (set_arr (a := 0) (n := 16) (fun τ => st_arr hn (by decide) (by decide))) (inb_in h13) dX1_changeSpeed_13 ?_
    exact g_vret X (pV_mk (some_inj hF)) dX1_changeSpeed_14
theorem in_X1_changeValue_X1 : ∀ w ∈ wsX10, w ∈ wsX1_changeValue := by decide +kernel
def F_X1_changeValue (n : Nat) (a1 : Int32) (a2 : Int32) (σ : Mem) : Option Mem := Option.bind (F_X3_isSlot a1) (fun r1 => (if r1 = 0 then some σ else if inb a1 16 then (some (up2 σ (n + 2) a1.toNatClampNeg a2)) else none))
set_option maxHeartbeats 4000000 in
set_option maxRecDepth 100000 in
theorem c_X1_changeValue {l : Launch} {D : va_G} {ay : Nat → ClassId} {ad : Nat → Nat} {n : Nat} {a1 : Int32} {a2 : Int32} {σ : Mem} {res : Mem} (hI : adOK ad) (hn : IsSt n) (hF : F_X1_changeValue n a1 a2 σ = some res) : Met l yX1_changeValue wsX1_changeValue ({ frames := 2, cells := 0, slots := 0, locals := 42 } : Room) (va_Pc [.ref (ad n), .int a1, .int a2] (PP D ay (wC ay ad σ))) (va_Qv (pV res) (fun τ => PP D ay (wC ay ad τ)) (AC ad)) 0 0 (AC ad) := by
  refine g_start (wd := wC ay ad) (A := AC ad) (own := RX1) (mL := 3) (rt := none) (by decide) rfl rfl (Nat.le_of_ble_eq_true rfl) ?_
  intro p e s m below meth c ls X hl
  have hl : lv_has ls 3 [(0, .ref (ad n)), (1, .int a1), (2, .int a2)] := hl
  rw [F_X1_changeValue] at hF
  refine g_iload_n X dX1_changeValue_0 rfl (lv_at hl 1 rfl) ?_
  obtain ⟨r1, hr1, hF⟩ := obind hF
  refine k_SNz X (As := [.int a1]) (rest := []) (c_X3_isSlot hI hr1) ⟨va_cnB 1 X.ts gX1_changeValue_X3_isSlot_n42 rfl rfl rfl X.kk.2.2.2 (X.ts (.initialized RX3) (by decide +kernel)) (by decide +kernel) ⟨Nat.le_of_ble_eq_true rfl, Nat.le_of_ble_eq_true rfl⟩, X.ts (.static yX3_isSlot) (by decide +kernel), trivial⟩ rfl hl.1 rfl (Nat.le_of_ble_eq_true rfl) dX1_changeValue_1 (fun hz1 => ?_)
  refine g_if_eq (tgt := 14) X dX1_changeValue_4 (by decide) (fun hc4 => ?_) (fun hc4 => ?_)
  · have hF := ite_t hF hc4
    exact g_vret X (pV_mk (some_inj hF)) dX1_changeValue_14
  · have hF := ite_f hF hc4
    refine g_aload_n X dX1_changeValue_7 rfl (lv_at hl 0 rfl) ?_
    refine g_get X n (st_obj hn) in_X1_changeValue_X1 rfl 1 (by decide) (X.ts (.fieldLink RX1 15 "LeadTimes$State" "value" "[I") (by decide +kernel)) rfl rfl dX1_changeValue_8 ?_
    refine g_iload_n X dX1_changeValue_11 rfl (lv_at hl 1 rfl) ?_
    refine g_iload_n X dX1_changeValue_12 rfl (lv_at hl 2 rfl) ?_
    obtain ⟨h13, hF⟩ := itn hF
    refine g_iast X (wC_D hI) (up2 σ (n + 2) a1.toNatClampNeg a2) (n + 2) (j := a1.toNatClampNeg) (st_arr hn (by decide) (by decide)) (by first | rfl | decide) (set_arr (a := 0) (n := 16) (fun τ => st_arr hn (by decide) (by decide))) (inb_in h13) dX1_changeValue_13 ?_
    exact g_vret X (pV_mk (some_inj hF)) dX1_changeValue_14
def F_X1_exchangeIn (o0 : Nat) (a1 : Int32) (a2 : Int32) (σ : Mem) : Option Mem := Option.bind (F_X3_isWithin a1 (0 : Int32) ((16 : Int32) - (1 : Int32))) (fun r6 => (if r6 = 0 then some σ else Option.bind (F_X3_isWithin a2 (0 : Int32) ((16 : Int32) - (1 : Int32))) (fun r18 => (if r18 = 0 then some σ else if inb a2 16 then (if inb a1 16 then (if inb a2 16 then (if inb a1 16 then (some (up2 (up2 σ o0 a2.toNatClampNeg (σ o0 a1.toNatClampNeg)) o0 a1.toNatClampNeg (σ o0 a2.toNatClampNeg))) else none) else none) else none) else none))))
set_option maxHeartbeats 4000000 in
set_option maxRecDepth 100000 in
theorem c_X1_exchangeIn {l : Launch} {D : va_G} {ay : Nat → ClassId} {ad : Nat → Nat} {o0 : Nat} {a1 : Int32} {a2 : Int32} {σ : Mem} {res : Mem} (hI : adOK ad) (ho0 : IsIA o0) (hF : F_X1_exchangeIn o0 a1 a2 σ = some res) : Met l yX1_exchangeIn wsX1_exchangeIn ({ frames := 1, cells := 0, slots := 0, locals := 22 } : Room) (va_Pc [.ref (ad o0), .int a1, .int a2] (PP D ay (wC ay ad σ))) (va_Qv (pV res) (fun τ => PP D ay (wC ay ad τ)) (AC ad)) 0 0 (AC ad) := by
  refine g_start (wd := wC ay ad) (A := AC ad) (own := RX1) (mL := 4) (rt := none) (by decide) rfl rfl (Nat.le_of_ble_eq_true rfl) ?_
  intro p e s m below meth c ls X hl
  have hl : lv_has ls 4 [(0, .ref (ad o0)), (1, .int a1), (2, .int a2)] := hl
  rw [F_X1_exchangeIn] at hF
  refine g_iload_n X dX1_exchangeIn_0 rfl (lv_at hl 1 rfl) ?_
  refine g_iconst (v := 0) X dX1_exchangeIn_1 (by decide) ?_
  refine g_aload_n X dX1_exchangeIn_2 rfl (lv_at hl 0 rfl) ?_
  refine g_alen (v := 16) X o0 0 (ia_arr ho0) rfl (by decide) dX1_exchangeIn_3 ?_
  refine g_iconst (v := 1) X dX1_exchangeIn_4 (by decide) ?_
  refine g_isub X dX1_exchangeIn_5 ?_
  obtain ⟨r6, hr6, hF⟩ := obind hF
  refine k_SNz X (As := [.int a1, .int (0 : Int32), .int ((16 : Int32) - (1 : Int32))]) (rest := []) (c_X3_isWithin hI hr6) ⟨va_cnB 3 X.ts gX1_exchangeIn_X3_isWithin_n38 rfl rfl rfl X.kk.2.2.1 (X.ts (.initialized RX3) (by decide +kernel)) (by decide +kernel) ⟨Nat.le_of_ble_eq_true rfl, Nat.le_of_ble_eq_true rfl⟩, X.ts (.static yX3_isWithin) (by decide +kernel), trivial⟩ rfl hl.1 rfl (Nat.le_of_ble_eq_true rfl) dX1_exchangeIn_6 (fun hz6 => ?_)
  refine g_if_eq (tgt := 38) X dX1_exchangeIn_9 (by decide) (fun hc9 => ?_) (fun hc9 => ?_)
  · have hF := ite_t hF hc9
    exact g_vret X (pV_mk (some_inj hF)) dX1_exchangeIn_38
  · have hF := ite_f hF hc9
    refine g_iload_n X dX1_exchangeIn_12 rfl (lv_at hl 2 rfl) ?_
    refine g_iconst (v := 0) X dX1_exchangeIn_13 (by decide) ?_
    refine g_aload_n X dX1_exchangeIn_14 rfl (lv_at hl 0 rfl) ?_
    refine g_alen (v := 16) X o0 0 (ia_arr ho0) rfl (by decide) dX1_exchangeIn_15 ?_
    refine g_iconst (v := 1) X dX1_exchangeIn_16 (by decide) ?_
    refine g_isub X dX1_exchangeIn_17 ?_
    obtain ⟨r18, hr18, hF⟩ := obind hF
    refine k_SNz X (As := [.int a2, .int (0 : Int32), .int ((16 : Int32) - (1 : Int32))]) (rest := []) (c_X3_isWithin hI hr18) ⟨va_cnB 3 X.ts gX1_exchangeIn_X3_isWithin_n38 rfl rfl rfl X.kk.2.2.1 (X.ts (.initialized RX3) (by decide +kernel)) (by decide +kernel) ⟨Nat.le_of_ble_eq_true rfl, Nat.le_of_ble_eq_true rfl⟩, X.ts (.static yX3_isWithin) (by decide +kernel), trivial⟩ rfl hl.1 rfl (Nat.le_of_ble_eq_true rfl) dX1_exchangeIn_18 (fun hz18 => ?_)
    refine g_if_eq (tgt := 38) X dX1_exchangeIn_21 (by decide) (fun hc21 => ?_) (fun hc21 => ?_)
    · have hF := ite_t hF hc21
      exact g_vret X (pV_mk (some_inj hF)) dX1_exchangeIn_38
    · have hF := ite_f hF hc21
      refine g_aload_n X dX1_exchangeIn_24 rfl (lv_at hl 0 rfl) ?_
      refine g_iload_n X dX1_exchangeIn_25 rfl (lv_at hl 2 rfl) ?_
      obtain ⟨h26, hF⟩ := itn hF
      refine g_iald X o0 (j := a2.toNatClampNeg) (ia_arr ho0) (by first | rfl | decide) (inb_in h26) dX1_exchangeIn_26 ?_
      refine g_istore_n (lv' := [(3, _), (0, _), (1, _), (2, _)]) X dX1_exchangeIn_27 rfl hl (by decide) rfl (fun ls hl => ?_)
      refine g_aload_n X dX1_exchangeIn_28 rfl (lv_at hl 1 rfl) ?_
      refine g_iload_n X dX1_exchangeIn_29 rfl (lv_at hl 3 rfl) ?_
      refine g_aload_n X dX1_exchangeIn_30 rfl (lv_at hl 1 rfl) ?_
      refine g_iload_n X dX1_exchangeIn_31 rfl (lv_at hl 2 rfl) ?_
      obtain ⟨h32, hF⟩ := itn hF
      refine g_iald X o0 (j := a1.toNatClampNeg) (ia_arr ho0) (by first | rfl | decide) (inb_in h32) dX1_exchangeIn_32 ?_
      obtain ⟨h33, hF⟩ := itn hF
      refine g_iast X (wC_D hI) (up2 σ o0 a2.toNatClampNeg (σ o0 a1.toNatClampNeg)) o0 (j := a2.toNatClampNeg) (ia_arr ho0) (by first | rfl | decide) (set_arr (a := 0) (n := 16) (fun τ => ia_arr ho0)) (inb_in h33) dX1_exchangeIn_33 ?_
      refine g_aload_n X dX1_exchangeIn_34 rfl (lv_at hl 1 rfl) ?_
      refine g_iload_n X dX1_exchangeIn_35 rfl (lv_at hl 2 rfl) ?_
      refine g_iload_n X dX1_exchangeIn_36 rfl (lv_at hl 0 rfl) ?_
      obtain ⟨h37, hF⟩ := itn hF
      refine g_iast X (wC_D hI) (up2 (up2 σ o0 a2.toNatClampNeg (σ o0 a1.toNatClampNeg)) o0 a1.toNatClampNeg (σ o0 a2.toNatClampNeg)) o0 (j := a1.toNatClampNeg) (ia_arr ho0) (by first | rfl | decide) (set_arr (a := 0) (n := 16) (fun τ => ia_arr ho0)) (inb_in h37) dX1_exchangeIn_37 ?_
      exact g_vret X (pV_mk (some_inj hF)) dX1_exchangeIn_38
theorem in_X1_exchange_X1 : ∀ w ∈ wsX10, w ∈ wsX1_exchange := by decide +kernel
def F_X1_exchange (n : Nat) (a1 : Int32) (a2 : Int32) (σ : Mem) : Option Mem := Option.bind (F_X3_isSlot a1) (fun r1 => (if r1 = 0 then some σ else Option.bind (F_X3_isSlot a2) (fun r8 => (if ¬ r8 = 0 then if inb a2 16 then (if inb a1 16 then (if inb a2 16 then (if inb a1 16 then (Option.bind (F_X1_exchangeIn (n + 2) a1 a2 (up2 (up2 σ (n + 1) a2.toNatClampNeg (vp_nar .boolean (σ (n + 1) a1.toNatClampNeg))) (n + 1) a1.toNatClampNeg (vp_nar .boolean (σ (n + 1) a2.toNatClampNeg)))) (fun r47 => Option.bind (F_X1_exchangeIn (n + 3) a1 a2 r47) (fun r56 => Option.bind (F_X1_exchangeIn (n + 4) a1 a2 r56) (fun r65 => some r65)))) else none) else none) else none) else none else some σ))))
set_option maxHeartbeats 4000000 in
set_option maxRecDepth 100000 in
theorem c_X1_exchange {l : Launch} {D : va_G} {ay : Nat → ClassId} {ad : Nat → Nat} {n : Nat} {a1 : Int32} {a2 : Int32} {σ : Mem} {res : Mem} (hI : adOK ad) (hn : IsSt n) (hF : F_X1_exchange n a1 a2 σ = some res) : Met l yX1_exchange wsX1_exchange ({ frames := 2, cells := 0, slots := 0, locals := 45 } : Room) (va_Pc [.ref (ad n), .int a1, .int a2] (PP D ay (wC ay ad σ))) (va_Qv (pV res) (fun τ => PP D ay (wC ay ad τ)) (AC ad)) 0 0 (AC ad) := by
  refine g_start (wd := wC ay ad) (A := AC ad) (own := RX1) (mL := 4) (rt := none) (by decide) rfl rfl (Nat.le_of_ble_eq_true rfl) ?_
  intro p e s m below meth c ls X hl
  have hl : lv_has ls 4 [(0, .ref (ad n)), (1, .int a1), (2, .int a2)] := hl
  rw [F_X1_exchange] at hF
  refine g_iload_n X dX1_exchange_0 rfl (lv_at hl 1 rfl) ?_
  obtain ⟨r1, hr1, hF⟩ := obind hF
  refine k_SNz X (As := [.int a1]) (rest := []) (c_X3_isSlot hI hr1) ⟨va_cnB 1 X.ts gX1_exchange_X3_isSlot_n42 rfl rfl rfl X.kk.2.2.2 (X.ts (.initialized RX3) (by decide +kernel)) (by decide +kernel) ⟨Nat.le_of_ble_eq_true rfl, Nat.le_of_ble_eq_true rfl⟩, X.ts (.static yX3_isSlot) (by decide +kernel), trivial⟩ rfl hl.1 rfl (Nat.le_of_ble_eq_true rfl) dX1_exchange_1 (fun hz1 => ?_)
  refine g_if_eq (tgt := 14) X dX1_exchange_4 (by decide) (fun hc4 => ?_) (fun hc4 => ?_)
  · have hF := ite_t hF hc4
    exact g_vret X (pV_mk (some_inj hF)) dX1_exchange_14
  · have hF := ite_f hF hc4
    refine g_iload_n X dX1_exchange_7 rfl (lv_at hl 2 rfl) ?_
    obtain ⟨r8, hr8, hF⟩ := obind hF
    refine k_SNz X (As := [.int a2]) (rest := []) (c_X3_isSlot hI hr8) ⟨va_cnB 1 X.ts gX1_exchange_X3_isSlot_n42 rfl rfl rfl X.kk.2.2.2 (X.ts (.initialized RX3) (by decide +kernel)) (by decide +kernel) ⟨Nat.le_of_ble_eq_true rfl, Nat.le_of_ble_eq_true rfl⟩, X.ts (.static yX3_isSlot) (by decide +kernel), trivial⟩ rfl hl.1 rfl (Nat.le_of_ble_eq_true rfl) dX1_exchange_8 (fun hz8 => ?_)
    refine g_if_ne (tgt := 15) X dX1_exchange_11 (by decide) (fun hc11 => ?_) (fun hc11 => ?_)
    · have hF := ite_t hF hc11
      refine g_aload_n X dX1_exchange_15 rfl (lv_at hl 0 rfl) ?_
      refine g_get X n (st_obj hn) in_X1_exchange_X1 rfl 0 (by decide) (X.ts (.fieldLink RX1 9 "LeadTimes$State" "taken" "[Z") (by decide +kernel)) rfl rfl dX1_exchange_16 ?_
      refine g_iload_n X dX1_exchange_19 rfl (lv_at hl 2 rfl) ?_
      obtain ⟨h20, hF⟩ := itn hF
      refine g_zald X (n + 1) (j := a2.toNatClampNeg) (st_arr1 hn) (by first | rfl | decide) (inb_in h20) dX1_exchange_20 ?_
      refine g_istore_n (lv' := [(3, _), (0, _), (1, _), (2, _)]) X dX1_exchange_21 rfl hl (by decide) rfl (fun ls hl => ?_)
      refine g_aload_n X dX1_exchange_22 rfl (lv_at hl 1 rfl) ?_
      refine g_get X n (st_obj hn) in_X1_exchange_X1 rfl 0 (by decide) (X.ts (.fieldLink RX1 9 "LeadTimes$State" "taken" "[Z") (by decide +kernel)) rfl rfl dX1_exchange_23 ?_
      refine g_iload_n X dX1_exchange_26 rfl (lv_at hl 3 rfl) ?_
      refine g_aload_n X dX1_exchange_27 rfl (lv_at hl 1 rfl) ?_
      refine g_get X n (st_obj hn) in_X1_exchange_X1 rfl 0 (by decide) (X.ts (.fieldLink RX1 9 "LeadTimes$State" "taken" "[Z") (by decide +kernel)) rfl rfl dX1_exchange_28 ?_
      refine g_iload_n X dX1_exchange_31 rfl (lv_at hl 2 rfl) ?_
      obtain ⟨h32, hF⟩ := itn hF
      refine g_zald X (n + 1) (j := a1.toNatClampNeg) (st_arr1 hn) (by first | rfl | decide) (inb_in h32) dX1_exchange_32 ?_
      obtain ⟨h33, hF⟩ := itn hF
      refine g_zast X (wC_D hI) (up2 σ (n + 1) a2.toNatClampNeg (vp_nar .boolean (σ (n + 1) a1.toNatClampNeg))) (n + 1) (j := a2.toNatClampNeg) (st_arr1 hn) (by first | rfl | decide) (set_arr (a := 1) (n := 16) (fun τ => st_arr1 hn)) (inb_in h33) dX1_exchange_33 ?_
      refine g_aload_n X dX1_exchange_34 rfl (lv_at hl 1 rfl) ?_
      refine g_get X n (st_obj hn) in_X1_exchange_X1 rfl 0 (by decide) (X.ts (.fieldLink RX1 9 "LeadTimes$State" "taken" "[Z") (by decide +kernel)) rfl rfl dX1_exchange_35 ?_
      refine g_iload_n X dX1_exchange_38 rfl (lv_at hl 2 rfl) ?_
      refine g_iload_n X dX1_exchange_39 rfl (lv_at hl 0 rfl) ?_
      obtain ⟨h40, hF⟩ := itn hF
      refine g_zast X (wC_D hI) (up2 (up2 σ (n + 1) a2.toNatClampNeg (vp_nar .boolean (σ (n + 1) a1.toNatClampNeg))) (n + 1) a1.toNatClampNeg (vp_nar .boolean (σ (n + 1) a2.toNatClampNeg))) (n + 1) (j := a1.toNatClampNeg) (st_arr1 hn) (by first | rfl | decide) (set_arr (a := 1) (n := 16) (fun τ => st_arr1 hn)) (inb_in h40) dX1_exchange_40 ?_
      refine g_aload_n X dX1_exchange_41 rfl (lv_at hl 1 rfl) ?_
      refine g_get X n (st_obj hn) in_X1_exchange_X1 rfl 1 (by decide) (X.ts (.fieldLink RX1 15 "LeadTimes$State" "value" "[I") (by decide +kernel)) rfl rfl dX1_exchange_42 ?_
      refine g_iload_n X dX1_exchange_45 rfl (lv_at hl 2 rfl) ?_
      refine g_iload_n X dX1_exchange_46 rfl (lv_at hl 3 rfl) ?_
      obtain ⟨r47, hr47, hF⟩ := obind hF
      refine k_Sv X (As := [.ref (ad (n + 2)), .int a1, .int a2]) (rest := []) (c_X1_exchangeIn hI (⟨n, 2, hn, by decide, by decide, rfl⟩) hr47) (va_cwS 3 X.ts gX1_exchange_X1_exchangeIn rfl rfl rfl (by decide +kernel) ⟨Nat.le_of_ble_eq_true rfl, Nat.le_of_ble_eq_true rfl⟩) rfl hl.1 rfl (Nat.le_of_ble_eq_true rfl) dX1_exchange_47 ?_
      refine g_aload_n X dX1_exchange_50 rfl (lv_at hl 1 rfl) ?_
      refine g_get X n (st_obj hn) in_X1_exchange_X1 rfl 2 (by decide) (X.ts (.fieldLink RX1 19 "LeadTimes$State" "speed" "[I") (by decide +kernel)) rfl rfl dX1_exchange_51 ?_
      refine g_iload_n X dX1_exchange_54 rfl (lv_at hl 2 rfl) ?_
      refine g_iload_n X dX1_exchange_55 rfl (lv_at hl 3 rfl) ?_
      obtain ⟨r56, hr56, hF⟩ := obind hF
      refine k_Sv X (As := [.ref (ad (n + 3)), .int a1, .int a2]) (rest := []) (c_X1_exchangeIn hI (⟨n, 3, hn, by decide, by decide, rfl⟩) hr56) (va_cwS 3 X.ts gX1_exchange_X1_exchangeIn rfl rfl rfl (by decide +kernel) ⟨Nat.le_of_ble_eq_true rfl, Nat.le_of_ble_eq_true rfl⟩) rfl hl.1 rfl (Nat.le_of_ble_eq_true rfl) dX1_exchange_56 ?_
      refine g_aload_n X dX1_exchange_59 rfl (lv_at hl 1 rfl) ?_
      refine g_get X n (st_obj hn) in_X1_exchange_X1 rfl 3 (by decide) (X.ts (.fieldLink RX1 22 "LeadTimes$State" "addedAt" "[I") (by decide +kernel)) rfl rfl dX1_exchange_60 ?_
      refine g_iload_n X dX1_exchange_63 rfl (lv_at hl 2 rfl) ?_
      refine g_iload_n X dX1_exchange_64 rfl (lv_at hl 3 rfl) ?_
      obtain ⟨r65, hr65, hF⟩ := obind hF
      refine k_Sv X (As := [.ref (ad (n + 4)), .int a1, .int a2]) (rest := []) (c_X1_exchangeIn hI (⟨n, 4, hn, by decide, by decide, rfl⟩) hr65) (va_cwS 3 X.ts gX1_exchange_X1_exchangeIn rfl rfl rfl (by decide +kernel) ⟨Nat.le_of_ble_eq_true rfl, Nat.le_of_ble_eq_true rfl⟩) rfl hl.1 rfl (Nat.le_of_ble_eq_true rfl) dX1_exchange_65 ?_
      exact g_vret X (pV_mk (some_inj hF)) dX1_exchange_68
    · have hF := ite_n hF hc11
      exact g_vret X (pV_mk (some_inj hF)) dX1_exchange_14
theorem in_X1_moveOn_X1 : ∀ w ∈ wsX10, w ∈ wsX1_moveOn := by decide +kernel
def L_X1_moveOn_2 (n : Nat) (a1 : Int32) : Nat → Int32 → Mem → Option Mem
  | 0, _, _ => none
  | fu + 1, a2, σ => (if (16 : Int32) ≤ a2 then some σ else if inb a2 16 then (if inb a2 16 then (if inb a2 16 then (L_X1_moveOn_2 n a1 fu (a2 + 1) (up2 σ (n + 2) a2.toNatClampNeg ((σ (n + 2) a2.toNatClampNeg) + ((σ (n + 3) a2.toNatClampNeg) * a1)))) else none) else none) else none)
set_option maxHeartbeats 4000000 in
set_option maxRecDepth 100000 in
theorem w_X1_moveOn_2 {D : va_G} {ay : Nat → ClassId} {ad : Nat → Nat} {p : Program} {l : Launch} {e : Env} {s : State} {m : MethodId} {args : Array Value} {below : List Frame} {meth : Method} {c : Code} {Q : State → Prop} {n : Nat} {a1 : Int32} {res : Mem} (X : CX D ay p s m args meth c cX1_moveOn 3 RX1 none wsX1_moveOn) (hI : adOK ad) (hn : IsSt n) (K : ∀ ls : Array Slot, lv_has ls 3 [(0, .ref (ad n)), (1, .int a1)] → GW D (wC ay ad) (AC ad) p l e ({ frames := 0, cells := 0, slots := 0, locals := 0 } : Room) s m args below meth c Q res (F0 m 31 ls [])) : ∀ (fu : Nat) (a2 : Int32) (σ : Mem), L_X1_moveOn_2 n a1 fu a2 σ = some res → ∀ ls : Array Slot, lv_has ls 3 [(0, .ref (ad n)), (1, .int a1), (2, .int a2)] → GW D (wC ay ad) (AC ad) p l e ({ frames := 0, cells := 0, slots := 0, locals := 0 } : Room) s m args below meth c Q σ (F0 m 2 ls []) := by
  intro fu
  induction fu with
  | zero =>
    intro a2 σ hF ls hl
    rw [L_X1_moveOn_2] at hF
    cases hF
  | succ fu ih =>
    intro a2 σ hF ls hl
    rw [L_X1_moveOn_2] at hF
    refine g_iload_n X dX1_moveOn_2 rfl (lv_at hl 2 rfl) ?_
    refine g_bipush (v := 16) X dX1_moveOn_3 (by decide) ?_
    refine g_icmp_ge (tgt := 31) X dX1_moveOn_5 (by decide) (fun hc5 => ?_) (fun hc5 => ?_)
    · have hF := ite_t hF hc5
      have e2 := some_inj hF
      subst e2
      exact K ls (lv_sub hl [0, 1] rfl)
    · have hF := ite_f hF hc5
      refine g_aload_n X dX1_moveOn_8 rfl (lv_at hl 0 rfl) ?_
      refine g_get X n (st_obj hn) in_X1_moveOn_X1 rfl 1 (by decide) (X.ts (.fieldLink RX1 15 "LeadTimes$State" "value" "[I") (by decide +kernel)) rfl rfl dX1_moveOn_9 ?_
      refine g_iload_n X dX1_moveOn_12 rfl (lv_at hl 2 rfl) ?_
      refine g_dup2 X dX1_moveOn_13 rfl rfl ?_
      obtain ⟨h14, hF⟩ := itn hF
      refine g_iald X (n + 2) (j := a2.toNatClampNeg) (st_arr hn (by decide) (by decide)) (by first | rfl | decide) (inb_in h14) dX1_moveOn_14 ?_
      refine g_aload_n X dX1_moveOn_15 rfl (lv_at hl 0 rfl) ?_
      refine g_get X n (st_obj hn) in_X1_moveOn_X1 rfl 2 (by decide) (X.ts (.fieldLink RX1 19 "LeadTimes$State" "speed" "[I") (by decide +kernel)) rfl rfl dX1_moveOn_16 ?_
      refine g_iload_n X dX1_moveOn_19 rfl (lv_at hl 2 rfl) ?_
      obtain ⟨h20, hF⟩ := itn hF
      refine g_iald X (n + 3) (j := a2.toNatClampNeg) (st_arr hn (by decide) (by decide)) (by first | rfl | decide) (inb_in h20) dX1_moveOn_20 ?_
      refine g_iload_n X dX1_moveOn_21 rfl (lv_at hl 1 rfl) ?_
      refine g_imul X dX1_moveOn_22 ?_
      refine g_iadd X dX1_moveOn_23 ?_
      obtain ⟨h24, hF⟩ := itn hF
      refine g_iast X (wC_D hI) (up2 σ (n + 2) a2.toNatClampNeg ((σ (n + 2) a2.toNatClampNeg) + ((σ (n + 3) a2.toNatClampNeg) * a1))) (n + 2) (j := a2.toNatClampNeg) (st_arr hn (by decide) (by decide)) (by first | rfl | decide) (set_arr (a := 0) (n := 16) (fun τ => st_arr hn (by decide) (by decide))) (inb_in h24) dX1_moveOn_24 ?_
      refine g_iinc (v := a2 + 1) (lv' := [(2, _), (0, _), (1, _)]) X dX1_moveOn_25 hl (k := 2) rfl rfl (by decide) rfl (fun ls hl => ?_)
      refine g_goto (tgt := 2) X dX1_moveOn_28 (by decide) ?_
      exact ih (a2 + 1) (up2 σ (n + 2) a2.toNatClampNeg ((σ (n + 2) a2.toNatClampNeg) + ((σ (n + 3) a2.toNatClampNeg) * a1))) hF ls (lv_sub hl [1, 2, 0] rfl)
def F_X1_moveOn (n : Nat) (a1 : Int32) (σ : Mem) : Option Mem := Option.bind (L_X1_moveOn_2 n a1 FU (0 : Int32) σ) (fun v2 : Mem => some (up2 v2 n 5 ((v2 n 5) + a1)))
set_option maxHeartbeats 4000000 in
set_option maxRecDepth 100000 in
theorem c_X1_moveOn {l : Launch} {D : va_G} {ay : Nat → ClassId} {ad : Nat → Nat} {n : Nat} {a1 : Int32} {σ : Mem} {res : Mem} (hI : adOK ad) (hn : IsSt n) (hF : F_X1_moveOn n a1 σ = some res) : Met l yX1_moveOn wsX1_moveOn ({ frames := 0, cells := 0, slots := 0, locals := 0 } : Room) (va_Pc [.ref (ad n), .int a1] (PP D ay (wC ay ad σ))) (va_Qv (pV res) (fun τ => PP D ay (wC ay ad τ)) (AC ad)) 0 0 (AC ad) := by
  refine g_start (wd := wC ay ad) (A := AC ad) (own := RX1) (mL := 3) (rt := none) (by decide) rfl rfl (Nat.le_of_ble_eq_true rfl) ?_
  intro p e s m below meth c ls X hl
  have hl : lv_has ls 3 [(0, .ref (ad n)), (1, .int a1)] := hl
  rw [F_X1_moveOn] at hF
  refine g_iconst (v := 0) X dX1_moveOn_0 (by decide) ?_
  refine g_istore_n (lv' := [(2, _), (0, _), (1, _)]) X dX1_moveOn_1 rfl hl (by decide) rfl (fun ls hl => ?_)
  obtain ⟨v2, hL2, hF⟩ := obind hF
  refine w_X1_moveOn_2 X hI hn (fun ls hl => ?_) FU (0 : Int32) σ hL2 ls (lv_sub hl [1, 2, 0] rfl)
  refine g_aload_n X dX1_moveOn_31 rfl (lv_at hl 0 rfl) ?_
  refine g_dup X dX1_moveOn_32 rfl ?_
  refine g_get X n (st_obj hn) in_X1_moveOn_X1 rfl 5 (by decide) (X.ts (.fieldLink RX1 28 "LeadTimes$State" "time" "I") (by decide +kernel)) rfl rfl dX1_moveOn_33 ?_
  refine g_iload_n X dX1_moveOn_36 rfl (lv_at hl 1 rfl) ?_
  refine g_iadd X dX1_moveOn_37 ?_
  refine g_put X (wC_D hI) (up2 v2 n 5 ((v2 n 5) + a1)) n (st_obj hn) 5 (set_st hn (by decide) (by decide)) tyX1 tyX1_ok nmX1 in_X1_moveOn_X1 rfl (by decide) (X.ts (.fieldLink RX1 28 "LeadTimes$State" "time" "I") (by decide +kernel)) rfl rfl rfl rfl rfl (Nat.le_of_ble_eq_true rfl) dX1_moveOn_38 ?_
  exact g_vret X (pV_mk (some_inj hF)) dX1_moveOn_41
theorem in_X1_countTurns_X1 : ∀ w ∈ wsX10, w ∈ wsX1_countTurns := by decide +kernel
def F_X1_countTurns (n : Nat) (a1 : Int32) (a2 : Int32) (σ : Mem) : Option Mem := Option.bind (F_X3_isWithin a1 (1 : Int32) (15 : Int32)) (fun r4 => (if r4 = 0 then some σ else if inb a1 16 then (if inb a1 16 then (some (up2 σ (n + 5) a1.toNatClampNeg ((σ (n + 5) a1.toNatClampNeg) + a2))) else none) else none))
set_option maxHeartbeats 4000000 in
set_option maxRecDepth 100000 in
theorem c_X1_countTurns {l : Launch} {D : va_G} {ay : Nat → ClassId} {ad : Nat → Nat} {n : Nat} {a1 : Int32} {a2 : Int32} {σ : Mem} {res : Mem} (hI : adOK ad) (hn : IsSt n) (hF : F_X1_countTurns n a1 a2 σ = some res) : Met l yX1_countTurns wsX1_countTurns ({ frames := 1, cells := 0, slots := 0, locals := 22 } : Room) (va_Pc [.ref (ad n), .int a1, .int a2] (PP D ay (wC ay ad σ))) (va_Qv (pV res) (fun τ => PP D ay (wC ay ad τ)) (AC ad)) 0 0 (AC ad) := by
  refine g_start (wd := wC ay ad) (A := AC ad) (own := RX1) (mL := 3) (rt := none) (by decide) rfl rfl (Nat.le_of_ble_eq_true rfl) ?_
  intro p e s m below meth c ls X hl
  have hl : lv_has ls 3 [(0, .ref (ad n)), (1, .int a1), (2, .int a2)] := hl
  rw [F_X1_countTurns] at hF
  refine g_iload_n X dX1_countTurns_0 rfl (lv_at hl 1 rfl) ?_
  refine g_iconst (v := 1) X dX1_countTurns_1 (by decide) ?_
  refine g_bipush (v := 15) X dX1_countTurns_2 (by decide) ?_
  obtain ⟨r4, hr4, hF⟩ := obind hF
  refine k_SNz X (As := [.int a1, .int (1 : Int32), .int (15 : Int32)]) (rest := []) (c_X3_isWithin hI hr4) ⟨va_cnB 3 X.ts gX1_countTurns_X3_isWithin_n38 rfl rfl rfl X.kk.2.2.1 (X.ts (.initialized RX3) (by decide +kernel)) (by decide +kernel) ⟨Nat.le_of_ble_eq_true rfl, Nat.le_of_ble_eq_true rfl⟩, X.ts (.static yX3_isWithin) (by decide +kernel), trivial⟩ rfl hl.1 rfl (Nat.le_of_ble_eq_true rfl) dX1_countTurns_4 (fun hz4 => ?_)
  refine g_if_eq (tgt := 20) X dX1_countTurns_7 (by decide) (fun hc7 => ?_) (fun hc7 => ?_)
  · have hF := ite_t hF hc7
    exact g_vret X (pV_mk (some_inj hF)) dX1_countTurns_20
  · have hF := ite_f hF hc7
    refine g_aload_n X dX1_countTurns_10 rfl (lv_at hl 0 rfl) ?_
    refine g_get X n (st_obj hn) in_X1_countTurns_X1 rfl 4 (by decide) (X.ts (.fieldLink RX1 25 "LeadTimes$State" "turned" "[I") (by decide +kernel)) rfl rfl dX1_countTurns_11 ?_
    refine g_iload_n X dX1_countTurns_14 rfl (lv_at hl 1 rfl) ?_
    refine g_dup2 X dX1_countTurns_15 rfl rfl ?_
    obtain ⟨h16, hF⟩ := itn hF
    refine g_iald X (n + 5) (j := a1.toNatClampNeg) (st_arr hn (by decide) (by decide)) (by first | rfl | decide) (inb_in h16) dX1_countTurns_16 ?_
    refine g_iload_n X dX1_countTurns_17 rfl (lv_at hl 2 rfl) ?_
    refine g_iadd X dX1_countTurns_18 ?_
    obtain ⟨h19, hF⟩ := itn hF
    refine g_iast X (wC_D hI) (up2 σ (n + 5) a1.toNatClampNeg ((σ (n + 5) a1.toNatClampNeg) + a2)) (n + 5) (j := a1.toNatClampNeg) (st_arr hn (by decide) (by decide)) (by first | rfl | decide) (set_arr (a := 0) (n := 16) (fun τ => st_arr hn (by decide) (by decide))) (inb_in h19) dX1_countTurns_19 ?_
    exact g_vret X (pV_mk (some_inj hF)) dX1_countTurns_20
def F_X1_isAhead (n : Nat) (a1 : Int32) (a2 : Int32) (a3 : Int32) (σ : Mem) : Option Int32 := Option.bind (F_X1_speedOf n a1 σ) (fun r4 => Option.bind (F_X1_wouldBeAhead n a1 r4 a2 a3 σ) (fun r9 => some r9))
set_option maxHeartbeats 4000000 in
set_option maxRecDepth 100000 in
theorem c_X1_isAhead {l : Launch} {D : va_G} {ay : Nat → ClassId} {ad : Nat → Nat} {n : Nat} {a1 : Int32} {a2 : Int32} {a3 : Int32} {σ : Mem} {res : Int32} (hI : adOK ad) (hn : IsSt n) (hF : F_X1_isAhead n a1 a2 a3 σ = some res) : Met l yX1_isAhead wsX1_isAhead ({ frames := 2, cells := 0, slots := 0, locals := 50 } : Room) (va_Pc [.ref (ad n), .int a1, .int a2, .int a3] (PP D ay (wC ay ad σ))) (va_Qi (pZ res σ) (fun τ => PP D ay (wC ay ad τ)) (AC ad)) 0 0 (AC ad) := by
  refine g_start (wd := wC ay ad) (A := AC ad) (own := RX1) (mL := 4) (rt := (some .boolean)) (by decide) rfl rfl (Nat.le_of_ble_eq_true rfl) ?_
  intro p e s m below meth c ls X hl
  have hl : lv_has ls 4 [(0, .ref (ad n)), (1, .int a1), (2, .int a2), (3, .int a3)] := hl
  rw [F_X1_isAhead] at hF
  refine g_aload_n X dX1_isAhead_0 rfl (lv_at hl 0 rfl) ?_
  refine g_iload_n X dX1_isAhead_1 rfl (lv_at hl 1 rfl) ?_
  refine g_aload_n X dX1_isAhead_2 rfl (lv_at hl 0 rfl) ?_
  refine g_iload_n X dX1_isAhead_3 rfl (lv_at hl 1 rfl) ?_
  obtain ⟨r4, hr4, hF⟩ := obind hF
  refine k_Vi X (As := [.int a1]) (rest := [.int a1, .ref (ad n)]) (c_X1_speedOf hI hn hr4) (cwV 1 X.ts gX1_isAhead_X1_speedOf rfl rfl rfl (by decide +kernel) ⟨Nat.le_of_ble_eq_true rfl, Nat.le_of_ble_eq_true rfl⟩) ⟨n, 1, _, _, st_obj hn, rfl, rfl⟩ rfl hl.1 rfl (Nat.le_of_ble_eq_true rfl) dX1_isAhead_4 ?_
  refine g_iload_n X dX1_isAhead_7 rfl (lv_at hl 2 rfl) ?_
  refine g_iload_n X dX1_isAhead_8 rfl (lv_at hl 3 rfl) ?_
  obtain ⟨r9, hr9, hF⟩ := obind hF
  refine k_Vz X (As := [.int a1, .int r4, .int a2, .int a3]) (rest := []) (c_X1_wouldBeAhead hI hn hr9) (cwV 4 X.ts gX1_isAhead_X1_wouldBeAhead rfl rfl rfl (by decide +kernel) ⟨Nat.le_of_ble_eq_true rfl, Nat.le_of_ble_eq_true rfl⟩) ⟨n, 1, _, _, st_obj hn, rfl, rfl⟩ rfl hl.1 rfl (Nat.le_of_ble_eq_true rfl) dX1_isAhead_9 (fun hz9 => ?_)
  exact g_zret X hz9 (pZ_mk (some_inj hF) hz9) dX1_isAhead_12
theorem in_X1_rankOf_X1 : ∀ w ∈ wsX10, w ∈ wsX1_rankOf := by decide +kernel
def L_X1_rankOf_4 (n : Nat) (a1 : Int32) (σ : Mem) : Nat → Int32 → Int32 → Option Int32
  | 0, _, _ => none
  | fu + 1, a2, a3 => (if (16 : Int32) ≤ a3 then some a2 else if inb a3 16 then ((Option.bind (if (σ (n + 1) a3.toNatClampNeg) = 0 then some a2 else Option.bind (F_X1_isAhead n a3 a1 (0 : Int32) σ) (fun r23 => (if r23 = 0 then some a2 else some (a2 + 1)))) (fun v16 : Int32 => L_X1_rankOf_4 n a1 σ fu v16 (a3 + 1)))) else none)
set_option maxHeartbeats 4000000 in
set_option maxRecDepth 100000 in
theorem w_X1_rankOf_4 {D : va_G} {ay : Nat → ClassId} {ad : Nat → Nat} {p : Program} {l : Launch} {e : Env} {s : State} {m : MethodId} {args : Array Value} {below : List Frame} {meth : Method} {c : Code} {Q : State → Prop} {n : Nat} {a1 : Int32} {σ : Mem} {res : Int32} (X : CX D ay p s m args meth c cX1_rankOf 4 RX1 (some .int) wsX1_rankOf) (hI : adOK ad) (hn : IsSt n) (K : ∀ ls : Array Slot, lv_has ls 4 [(2, .int res)] → GW D (wC ay ad) (AC ad) p l e ({ frames := 3, cells := 0, slots := 0, locals := 73 } : Room) s m args below meth c Q σ (F0 m 38 ls [])) : ∀ (fu : Nat) (a2 : Int32) (a3 : Int32), L_X1_rankOf_4 n a1 σ fu a2 a3 = some res → ∀ ls : Array Slot, lv_has ls 4 [(0, .ref (ad n)), (1, .int a1), (2, .int a2), (3, .int a3)] → GW D (wC ay ad) (AC ad) p l e ({ frames := 3, cells := 0, slots := 0, locals := 73 } : Room) s m args below meth c Q σ (F0 m 4 ls []) := by
  intro fu
  induction fu with
  | zero =>
    intro a2 a3 hF ls hl
    rw [L_X1_rankOf_4] at hF
    cases hF
  | succ fu ih =>
    intro a2 a3 hF ls hl
    rw [L_X1_rankOf_4] at hF
    refine g_iload_n X dX1_rankOf_4 rfl (lv_at hl 3 rfl) ?_
    refine g_bipush (v := 16) X dX1_rankOf_5 (by decide) ?_
    refine g_icmp_ge (tgt := 38) X dX1_rankOf_7 (by decide) (fun hc7 => ?_) (fun hc7 => ?_)
    · have hF := ite_t hF hc7
      have e4 := some_inj hF
      subst e4
      exact K ls (lv_sub hl [2] rfl)
    · have hF := ite_f hF hc7
      refine g_aload_n X dX1_rankOf_10 rfl (lv_at hl 0 rfl) ?_
      refine g_get X n (st_obj hn) in_X1_rankOf_X1 rfl 0 (by decide) (X.ts (.fieldLink RX1 9 "LeadTimes$State" "taken" "[Z") (by decide +kernel)) rfl rfl dX1_rankOf_11 ?_
      refine g_iload_n X dX1_rankOf_14 rfl (lv_at hl 3 rfl) ?_
      obtain ⟨h15, hF⟩ := itn hF
      refine g_zald X (n + 1) (j := a3.toNatClampNeg) (st_arr1 hn) (by first | rfl | decide) (inb_in h15) dX1_rankOf_15 ?_
      obtain ⟨v16, hR16, hF⟩ := obind hF
      refine g_cut (nM := 4) [(0, .ref (ad n)), (1, .int a1), (2, .int v16), (3, .int a3)] (σ) 32 [] (fun ls hl => ?_) (fun J16 => ?_)
      · refine g_iinc (v := a3 + 1) (lv' := [(3, _), (0, _), (1, _), (2, _)]) X dX1_rankOf_32 hl (k := 3) rfl rfl (by decide) rfl (fun ls hl => ?_)
        refine g_goto (tgt := 4) X dX1_rankOf_35 (by decide) ?_
        exact ih v16 (a3 + 1) hF ls (lv_sub hl [1, 2, 3, 0] rfl)
      · refine g_if_eq (tgt := 32) X dX1_rankOf_16 (by decide) (fun hc16 => ?_) (fun hc16 => ?_)
        · have hR16 := ite_t hR16 hc16
          have e16 := some_inj hR16
          subst e16
          exact J16 ls (lv_sub hl [0, 1, 2, 3] rfl)
        · have hR16 := ite_f hR16 hc16
          refine g_aload_n X dX1_rankOf_19 rfl (lv_at hl 0 rfl) ?_
          refine g_iload_n X dX1_rankOf_20 rfl (lv_at hl 3 rfl) ?_
          refine g_iload_n X dX1_rankOf_21 rfl (lv_at hl 1 rfl) ?_
          refine g_iconst (v := 0) X dX1_rankOf_22 (by decide) ?_
          obtain ⟨r23, hr23, hR16⟩ := obind hR16
          refine k_Vz X (As := [.int a3, .int a1, .int (0 : Int32)]) (rest := []) (c_X1_isAhead hI hn hr23) (cwV 3 X.ts gX1_rankOf_X1_isAhead rfl rfl rfl (by decide +kernel) ⟨Nat.le_of_ble_eq_true rfl, Nat.le_of_ble_eq_true rfl⟩) ⟨n, 1, _, _, st_obj hn, rfl, rfl⟩ rfl hl.1 rfl (Nat.le_of_ble_eq_true rfl) dX1_rankOf_23 (fun hz23 => ?_)
          refine g_if_eq (tgt := 32) X dX1_rankOf_26 (by decide) (fun hc26 => ?_) (fun hc26 => ?_)
          · have hR16 := ite_t hR16 hc26
            have e16 := some_inj hR16
            subst e16
            exact J16 ls (lv_sub hl [0, 1, 2, 3] rfl)
          · have hR16 := ite_f hR16 hc26
            refine g_iinc (v := a2 + 1) (lv' := [(2, _), (0, _), (1, _), (3, _)]) X dX1_rankOf_29 hl (k := 2) rfl rfl (by decide) rfl (fun ls hl => ?_)
            have e16 := some_inj hR16
            subst e16
            exact J16 ls (lv_sub hl [1, 2, 0, 3] rfl)
def F_X1_rankOf (n : Nat) (a1 : Int32) (σ : Mem) : Option Int32 := Option.bind (L_X1_rankOf_4 n a1 σ FU (0 : Int32) (0 : Int32)) (fun v4 : Int32 => some v4)
set_option maxHeartbeats 4000000 in
set_option maxRecDepth 100000 in
theorem c_X1_rankOf {l : Launch} {D : va_G} {ay : Nat → ClassId} {ad : Nat → Nat} {n : Nat} {a1 : Int32} {σ : Mem} {res : Int32} (hI : adOK ad) (hn : IsSt n) (hF : F_X1_rankOf n a1 σ = some res) : Met l yX1_rankOf wsX1_rankOf ({ frames := 3, cells := 0, slots := 0, locals := 73 } : Room) (va_Pc [.ref (ad n), .int a1] (PP D ay (wC ay ad σ))) (va_Qi (pP res σ) (fun τ => PP D ay (wC ay ad τ)) (AC ad)) 0 0 (AC ad) := by
  refine g_start (wd := wC ay ad) (A := AC ad) (own := RX1) (mL := 4) (rt := (some .int)) (by decide) rfl rfl (Nat.le_of_ble_eq_true rfl) ?_
  intro p e s m below meth c ls X hl
  have hl : lv_has ls 4 [(0, .ref (ad n)), (1, .int a1)] := hl
  rw [F_X1_rankOf] at hF
  refine g_iconst (v := 0) X dX1_rankOf_0 (by decide) ?_
  refine g_istore_n (lv' := [(2, _), (0, _), (1, _)]) X dX1_rankOf_1 rfl hl (by decide) rfl (fun ls hl => ?_)
  refine g_iconst (v := 0) X dX1_rankOf_2 (by decide) ?_
  refine g_istore_n (lv' := [(3, _), (2, _), (0, _), (1, _)]) X dX1_rankOf_3 rfl hl (by decide) rfl (fun ls hl => ?_)
  obtain ⟨v4, hL4, hF⟩ := obind hF
  refine w_X1_rankOf_4 X hI hn (fun ls hl => ?_) FU (0 : Int32) (0 : Int32) hL4 ls (lv_sub hl [2, 3, 1, 0] rfl)
  refine g_iload_n X dX1_rankOf_38 rfl (lv_at hl 0 rfl) ?_
  exact g_iret X (pP_mk (some_inj hF)) dX1_rankOf_39
