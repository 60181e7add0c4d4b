def L_X3_reduced_7 (a0 : Int32) : Nat → Int32 → Int32 → Int32 → Option Int32
  | 0, _, _, _ => none
  | fu + 1, a2, a3, a4 => (if (64 : Int32) ≤ a4 then some a2 else (if a3 ≤ 0 then some a2 else if ¬ a3 = 0 then (L_X3_reduced_7 a0 fu a3 (a2 - a2 / a3 * a3) (a4 + 1)) else none))
set_option maxHeartbeats 4000000 in
set_option maxRecDepth 100000 in
theorem w_X3_reduced_7 {D : va_G} {ay : Nat → ClassId} {ad : Nat → Nat} {p : Program} {l : Launch} {e : Env} {s : State} {m : MethodId} {args : Array Value} {below : List Frame} {meth : Method} {c : Code} {Q : State → Prop} {a0 : Int32} {σ : Mem} {res : Int32} (X : CX D ay p s m args meth c cX3_reduced 6 RX3 (some .int) wsX3_reduced) (hI : adOK ad) (K : ∀ ls : Array Slot, lv_has ls 6 [(0, .int a0), (2, .int res)] → GW D (wC ay ad) (AC ad) p l e ({ frames := 0, cells := 0, slots := 0, locals := 0 } : Room) s m args below meth c Q σ (F0 m 34 ls [])) : ∀ (fu : Nat) (a2 : Int32) (a3 : Int32) (a4 : Int32), L_X3_reduced_7 a0 fu a2 a3 a4 = some res → ∀ ls : Array Slot, lv_has ls 6 [(0, .int a0), (2, .int a2), (3, .int a3), (4, .int a4)] → GW D (wC ay ad) (AC ad) p l e ({ frames := 0, cells := 0, slots := 0, locals := 0 } : Room) s m args below meth c Q σ (F0 m 7 ls []) := by
  intro fu
  induction fu with
  | zero =>
    intro a2 a3 a4 hF ls hl
    rw [L_X3_reduced_7] at hF
    cases hF
  | succ fu ih =>
    intro a2 a3 a4 hF ls hl
    rw [L_X3_reduced_7] at hF
    refine g_iload X dX3_reduced_7 (lv_at hl 3 rfl) ?_
    refine g_bipush (v := 64) X dX3_reduced_9 (by decide) ?_
    refine g_icmp_ge (tgt := 34) X dX3_reduced_11 (by decide) (fun hc11 => ?_) (fun hc11 => ?_)
    · have hF := ite_t hF hc11
      have e7 := some_inj hF
      subst e7
      exact K ls (lv_sub hl [0, 1] rfl)
    · have hF := ite_f hF hc11
      refine g_iload_n X dX3_reduced_14 rfl (lv_at hl 2 rfl) ?_
      refine g_if_le (tgt := 34) X dX3_reduced_15 (by decide) (fun hc15 => ?_) (fun hc15 => ?_)
      · have hF := ite_t hF hc15
        have e7 := some_inj hF
        subst e7
        exact K ls (lv_sub hl [0, 1] rfl)
      · have hF := ite_f hF hc15
        refine g_iload_n X dX3_reduced_18 rfl (lv_at hl 1 rfl) ?_
        refine g_iload_n X dX3_reduced_19 rfl (lv_at hl 2 rfl) ?_
        obtain ⟨h20, hF⟩ := itn hF
        refine g_irem X dX3_reduced_20 h20 ?_
        refine g_istore (lv' := [(5, _), (0, _), (2, _), (3, _), (4, _)]) X dX3_reduced_21 hl (by decide) rfl (fun ls hl => ?_)
        refine g_iload_n X dX3_reduced_23 rfl (lv_at hl 3 rfl) ?_
        refine g_istore_n (lv' := [(2, _), (5, _), (0, _), (3, _), (4, _)]) X dX3_reduced_24 rfl hl (by decide) rfl (fun ls hl => ?_)
        refine g_iload X dX3_reduced_25 (lv_at hl 1 rfl) ?_
        refine g_istore_n (lv' := [(3, _), (2, _), (5, _), (0, _), (4, _)]) X dX3_reduced_27 rfl hl (by decide) rfl (fun ls hl => ?_)
        refine g_iinc (v := a4 + 1) (lv' := [(4, _), (3, _), (2, _), (5, _), (0, _)]) X dX3_reduced_28 hl (k := 4) rfl rfl (by decide) rfl (fun ls hl => ?_)
        refine g_goto (tgt := 7) X dX3_reduced_31 (by decide) ?_
        exact ih a3 (a2 - a2 / a3 * a3) (a4 + 1) hF ls (lv_sub hl [4, 2, 1, 0] rfl)
def F_X3_reduced (a0 : Int32) (a1 : Int32) : Option Int32 := Option.bind (L_X3_reduced_7 a0 FU a0 a1 (0 : Int32)) (fun v7 : Int32 => (if v7 ≤ (1 : Int32) then some a0 else if ¬ v7 = 0 then (some (a0 / v7)) else none))
set_option maxHeartbeats 4000000 in
set_option maxRecDepth 100000 in
theorem c_X3_reduced {l : Launch} {D : va_G} {ay : Nat → ClassId} {ad : Nat → Nat} {a0 : Int32} {a1 : Int32} {σ : Mem} {res : Int32} (hI : adOK ad) (hF : F_X3_reduced a0 a1 = some res) : Met l yX3_reduced wsX3_reduced ({ frames := 0, cells := 0, slots := 0, locals := 0 } : Room) (va_Pc [.int a0, .int a1] (PP D ay (wC ay ad σ))) (va_Qi (pP res σ) (fun τ => PP D ay (wC ay ad τ)) (AC ad)) 0 0 (AC ad) := by
  refine g_start (wd := wC ay ad) (A := AC ad) (own := RX3) (mL := 6) (rt := (some .int)) (by decide) rfl rfl (Nat.le_of_ble_eq_true rfl) ?_
  intro p e s m below meth c ls X hl
  have hl : lv_has ls 6 [(0, .int a0), (1, .int a1)] := hl
  rw [F_X3_reduced] at hF
  refine g_iload_n X dX3_reduced_0 rfl (lv_at hl 0 rfl) ?_
  refine g_istore_n (lv' := [(2, _), (0, _), (1, _)]) X dX3_reduced_1 rfl hl (by decide) rfl (fun ls hl => ?_)
  refine g_iload_n X dX3_reduced_2 rfl (lv_at hl 2 rfl) ?_
  refine g_istore_n (lv' := [(3, _), (2, _), (0, _), (1, _)]) X dX3_reduced_3 rfl hl (by decide) rfl (fun ls hl => ?_)
  refine g_iconst (v := 0) X dX3_reduced_4 (by decide) ?_
  refine g_istore (lv' := [(4, _), (3, _), (2, _), (0, _), (1, _)]) X dX3_reduced_5 hl (by decide) rfl (fun ls hl => ?_)
  obtain ⟨v7, hL7, hF⟩ := obind hF
  refine w_X3_reduced_7 X hI (fun ls hl => ?_) FU a0 a1 (0 : Int32) hL7 ls (lv_sub hl [3, 2, 1, 0] rfl)
  refine g_iload_n X dX3_reduced_34 rfl (lv_at hl 1 rfl) ?_
  refine g_iconst (v := 1) X dX3_reduced_35 (by decide) ?_
  refine g_icmp_le (tgt := 45) X dX3_reduced_36 (by decide) (fun hc36 => ?_) (fun hc36 => ?_)
  · have hF := ite_t hF hc36
    refine g_iload_n X dX3_reduced_45 rfl (lv_at hl 0 rfl) ?_
    exact g_iret X (pP_mk (some_inj hF)) dX3_reduced_46
  · have hF := ite_f hF hc36
    refine g_iload_n X dX3_reduced_39 rfl (lv_at hl 0 rfl) ?_
    refine g_iload_n X dX3_reduced_40 rfl (lv_at hl 1 rfl) ?_
    obtain ⟨h41, hF⟩ := itn hF
    refine g_idiv X dX3_reduced_41 h41 ?_
    refine g_goto (tgt := 46) X dX3_reduced_42 (by decide) ?_
    exact g_iret X (pP_mk (some_inj hF)) dX3_reduced_46
def F_X3_isWithin (a0 : Int32) (a1 : Int32) (a2 : Int32) : Option Int32 := (if a0 < a1 then some (0 : Int32) else (if a2 < a0 then some (0 : Int32) else some (1 : Int32)))
set_option maxHeartbeats 4000000 in
set_option maxRecDepth 100000 in
theorem c_X3_isWithin {l : Launch} {D : va_G} {ay : Nat → ClassId} {ad : Nat → Nat} {a0 : Int32} {a1 : Int32} {a2 : Int32} {σ : Mem} {res : Int32} (hI : adOK ad) (hF : F_X3_isWithin a0 a1 a2 = some res) : Met l yX3_isWithin wsX3_isWithin ({ frames := 0, cells := 0, slots := 0, locals := 0 } : Room) (va_Pc [.int a0, .int a1, .int a2] (PP D ay (wC ay ad σ))) (va_Qi (pZ res σ) (fun τ => PP D ay (wC ay ad τ)) (AC ad)) 0 0 (AC ad) := by
  refine g_start (wd := wC ay ad) (A := AC ad) (own := RX3) (mL := 3) (rt := (some .boolean)) (by decide) rfl rfl (Nat.le_of_ble_eq_true rfl) ?_
  intro p e s m below meth c ls X hl
  have hl : lv_has ls 3 [(0, .int a0), (1, .int a1), (2, .int a2)] := hl
  rw [F_X3_isWithin] at hF
  refine g_iload_n X dX3_isWithin_0 rfl (lv_at hl 0 rfl) ?_
  refine g_iload_n X dX3_isWithin_1 rfl (lv_at hl 1 rfl) ?_
  refine g_icmp_lt (tgt := 14) X dX3_isWithin_2 (by decide) (fun hc2 => ?_) (fun hc2 => ?_)
  · have hF := ite_t hF hc2
    refine g_iconst (v := 0) X dX3_isWithin_14 (by decide) ?_
    exact g_zret X rfl (pZ_mk (some_inj hF) rfl) dX3_isWithin_15
  · have hF := ite_f hF hc2
    refine g_iload_n X dX3_isWithin_5 rfl (lv_at hl 0 rfl) ?_
    refine g_iload_n X dX3_isWithin_6 rfl (lv_at hl 2 rfl) ?_
    refine g_icmp_gt (tgt := 14) X dX3_isWithin_7 (by decide) (fun hc7 => ?_) (fun hc7 => ?_)
    · have hF := ite_t hF hc7
      refine g_iconst (v := 0) X dX3_isWithin_14 (by decide) ?_
      exact g_zret X rfl (pZ_mk (some_inj hF) rfl) dX3_isWithin_15
    · have hF := ite_f hF hc7
      refine g_iconst (v := 1) X dX3_isWithin_10 (by decide) ?_
      refine g_goto (tgt := 15) X dX3_isWithin_11 (by decide) ?_
      exact g_zret X rfl (pZ_mk (some_inj hF) rfl) dX3_isWithin_15
def F_X3_isSlot (a0 : Int32) : Option Int32 := Option.bind (F_X3_isWithin a0 (0 : Int32) (15 : Int32)) (fun r4 => some r4)
set_option maxHeartbeats 4000000 in
set_option maxRecDepth 100000 in
theorem c_X3_isSlot {l : Launch} {D : va_G} {ay : Nat → ClassId} {ad : Nat → Nat} {a0 : Int32} {σ : Mem} {res : Int32} (hI : adOK ad) (hF : F_X3_isSlot a0 = some res) : Met l yX3_isSlot wsX3_isSlot ({ frames := 1, cells := 0, slots := 0, locals := 22 } : Room) (va_Pc [.int a0] (PP D ay (wC ay ad σ))) (va_Qi (pZ res σ) (fun τ => PP D ay (wC ay ad τ)) (AC ad)) 0 0 (AC ad) := by
  refine g_start (wd := wC ay ad) (A := AC ad) (own := RX3) (mL := 1) (rt := (some .boolean)) (by decide) rfl rfl (Nat.le_of_ble_eq_true rfl) ?_
  intro p e s m below meth c ls X hl
  have hl : lv_has ls 1 [(0, .int a0)] := hl
  rw [F_X3_isSlot] at hF
  refine g_iload_n X dX3_isSlot_0 rfl (lv_at hl 0 rfl) ?_
  refine g_iconst (v := 0) X dX3_isSlot_1 (by decide) ?_
  refine g_bipush (v := 15) X dX3_isSlot_2 (by decide) ?_
  obtain ⟨r4, hr4, hF⟩ := obind hF
  refine k_Sz X (As := [.int a0, .int (0 : Int32), .int (15 : Int32)]) (rest := []) (c_X3_isWithin hI hr4) (va_cwS 3 X.ts gX3_isSlot_X3_isWithin rfl rfl rfl (by decide +kernel) ⟨Nat.le_of_ble_eq_true rfl, Nat.le_of_ble_eq_true rfl⟩) rfl hl.1 rfl (Nat.le_of_ble_eq_true rfl) dX3_isSlot_4 (fun hz4 => ?_)
  exact g_zret X hz4 (pZ_mk (some_inj hF) hz4) dX3_isSlot_7
def F_X3_isSpeed (a0 : Int32) : Option Int32 := Option.bind (F_X3_isWithin a0 (-99 : Int32) (99 : Int32)) (fun r5 => some r5)
set_option maxHeartbeats 4000000 in
set_option maxRecDepth 100000 in
theorem c_X3_isSpeed {l : Launch} {D : va_G} {ay : Nat → ClassId} {ad : Nat → Nat} {a0 : Int32} {σ : Mem} {res : Int32} (hI : adOK ad) (hF : F_X3_isSpeed a0 = some res) : Met l yX3_isSpeed wsX3_isSpeed ({ frames := 1, cells := 0, slots := 0, locals := 22 } : Room) (va_Pc [.int a0] (PP D ay (wC ay ad σ))) (va_Qi (pZ res σ) (fun τ => PP D ay (wC ay ad τ)) (AC ad)) 0 0 (AC ad) := by
  refine g_start (wd := wC ay ad) (A := AC ad) (own := RX3) (mL := 1) (rt := (some .boolean)) (by decide) rfl rfl (Nat.le_of_ble_eq_true rfl) ?_
  intro p e s m below meth c ls X hl
  have hl : lv_has ls 1 [(0, .int a0)] := hl
  rw [F_X3_isSpeed] at hF
  refine g_iload_n X dX3_isSpeed_0 rfl (lv_at hl 0 rfl) ?_
  refine g_bipush (v := -99) X dX3_isSpeed_1 (by decide) ?_
  refine g_bipush (v := 99) X dX3_isSpeed_3 (by decide) ?_
  obtain ⟨r5, hr5, hF⟩ := obind hF
  refine k_Sz X (As := [.int a0, .int (-99 : Int32), .int (99 : Int32)]) (rest := []) (c_X3_isWithin hI hr5) (va_cwS 3 X.ts gX3_isSpeed_X3_isWithin rfl rfl rfl (by decide +kernel) ⟨Nat.le_of_ble_eq_true rfl, Nat.le_of_ble_eq_true rfl⟩) rfl hl.1 rfl (Nat.le_of_ble_eq_true rfl) dX3_isSpeed_5 (fun hz5 => ?_)
  exact g_zret X hz5 (pZ_mk (some_inj hF) hz5) dX3_isSpeed_8
