theorem in_X4_thrown_X4 : ∀ w ∈ wsX40, w ∈ wsX4_thrown := by decide +kernel
def F_X4_thrown (σ : (Mem × Int64)) : Option Int32 := some (σ.1 0 5)
set_option maxHeartbeats 4000000 in
set_option maxRecDepth 100000 in
theorem c_X4_thrown {l : Launch} {D : va_G} {ay : Nat → ClassId} {ad : Nat → Nat} {σ : (Mem × Int64)} {res : Int32} (hI : amOK ad) (hF : F_X4_thrown  σ = some res) : Met l yX4_thrown wsX4_thrown ({ frames := 0, cells := 0, slots := 0, locals := 0 } : Room) (va_Pc [.ref (ad 0)] (PP D ay (wM ay ad σ))) (va_Qi (pP res σ) (fun τ => PP D ay (wM ay ad τ)) (AM ad)) 0 0 (AM ad) := by
  refine g_start (wd := wM ay ad) (A := AM ad) (own := RX4) (mL := 1) (rt := (some .int)) (by decide) rfl rfl (Nat.le_of_ble_eq_true rfl) ?_
  intro p e s m below meth c ls X hl
  have hl : lv_has ls 1 [(0, .ref (ad 0))] := hl
  rw [F_X4_thrown] at hF
  refine g_aload_n X dX4_thrown_0 rfl (lv_at hl 0 rfl) ?_
  refine g_get X 0 (mo_obj) in_X4_thrown_X4 rfl 5 (by decide) (X.ts (.fieldLink RX4 34 "LeadTimesModel" "thrown" "I") (by decide +kernel)) rfl rfl dX4_thrown_1 ?_
  exact g_iret X (pP_mk (some_inj hF)) dX4_thrown_4
theorem in_X4_fails_X4 : ∀ w ∈ wsX40, w ∈ wsX4_fails := by decide +kernel
def F_X4_fails (a1 : Int32) (σ : (Mem × Int64)) : Option (Int32 × (Mem × Int64)) := some ((0 : Int32), (up2 σ.1 0 5 a1, σ.2))
set_option maxHeartbeats 4000000 in
set_option maxRecDepth 100000 in
theorem c_X4_fails {l : Launch} {D : va_G} {ay : Nat → ClassId} {ad : Nat → Nat} {a1 : Int32} {σ : (Mem × Int64)} {res : Int32 × (Mem × Int64)} (hI : amOK ad) (hF : F_X4_fails a1 σ = some res) : Met l yX4_fails wsX4_fails ({ frames := 0, cells := 0, slots := 0, locals := 0 } : Room) (va_Pc [.ref (ad 0), .int a1] (PP D ay (wM ay ad σ))) (va_Qi (pE res) (fun τ => PP D ay (wM ay ad τ)) (AM ad)) 0 0 (AM ad) := by
  refine g_start (wd := wM ay ad) (A := AM ad) (own := RX4) (mL := 2) (rt := (some .int)) (by decide) rfl rfl (Nat.le_of_ble_eq_true rfl) ?_
  intro p e s m below meth c ls X hl
  have hl : lv_has ls 2 [(0, .ref (ad 0)), (1, .int a1)] := hl
  rw [F_X4_fails] at hF
  refine g_aload_n X dX4_fails_0 rfl (lv_at hl 0 rfl) ?_
  refine g_iload_n X dX4_fails_1 rfl (lv_at hl 1 rfl) ?_
  refine g_put X (wM_D hI) ((up2 σ.1 0 5 a1, σ.2)) 0 (mo_obj) 5 (set_mo5) tyX4 tyX4_ok nmX4 in_X4_fails_X4 rfl (by decide) (X.ts (.fieldLink RX4 34 "LeadTimesModel" "thrown" "I") (by decide +kernel)) rfl rfl rfl rfl rfl (Nat.le_of_ble_eq_true rfl) dX4_fails_2 ?_
  refine g_iconst (v := 0) X dX4_fails_5 (by decide) ?_
  exact g_iret X (pE_mk (some_inj hF)) dX4_fails_6
def F_X4_in (a0 : Int32) (a1 : Int32) (a2 : Int32) : Option Int32 := (if a0 < a1 then some (0 : Int32) else (if a2 < a0 then some (0 : Int32) else some (1 : Int32)))
set_option maxHeartbeats 4000000 in
set_option maxRecDepth 100000 in
theorem c_X4_in {l : Launch} {D : va_G} {ay : Nat → ClassId} {ad : Nat → Nat} {a0 : Int32} {a1 : Int32} {a2 : Int32} {σ : (Mem × Int64)} {res : Int32} (hI : amOK ad) (hF : F_X4_in a0 a1 a2 = some res) : Met l yX4_in wsX4_in ({ frames := 0, cells := 0, slots := 0, locals := 0 } : Room) (va_Pc [.int a0, .int a1, .int a2] (PP D ay (wM ay ad σ))) (va_Qi (pZ res σ) (fun τ => PP D ay (wM ay ad τ)) (AM ad)) 0 0 (AM ad) := by
  refine g_start (wd := wM ay ad) (A := AM ad) (own := RX4) (mL := 3) (rt := (some .boolean)) (by decide) rfl rfl (Nat.le_of_ble_eq_true rfl) ?_
  intro p e s m below meth c ls X hl
  have hl : lv_has ls 3 [(0, .int a0), (1, .int a1), (2, .int a2)] := hl
  rw [F_X4_in] at hF
  refine g_iload_n X dX4_in_0 rfl (lv_at hl 0 rfl) ?_
  refine g_iload_n X dX4_in_1 rfl (lv_at hl 1 rfl) ?_
  refine g_icmp_lt (tgt := 14) X dX4_in_2 (by decide) (fun hc2 => ?_) (fun hc2 => ?_)
  · have hF := ite_t hF hc2
    refine g_iconst (v := 0) X dX4_in_14 (by decide) ?_
    exact g_zret X rfl (pZ_mk (some_inj hF) rfl) dX4_in_15
  · have hF := ite_f hF hc2
    refine g_iload_n X dX4_in_5 rfl (lv_at hl 0 rfl) ?_
    refine g_iload_n X dX4_in_6 rfl (lv_at hl 2 rfl) ?_
    refine g_icmp_gt (tgt := 14) X dX4_in_7 (by decide) (fun hc7 => ?_) (fun hc7 => ?_)
    · have hF := ite_t hF hc7
      refine g_iconst (v := 0) X dX4_in_14 (by decide) ?_
      exact g_zret X rfl (pZ_mk (some_inj hF) rfl) dX4_in_15
    · have hF := ite_f hF hc7
      refine g_iconst (v := 1) X dX4_in_10 (by decide) ?_
      refine g_goto (tgt := 15) X dX4_in_11 (by decide) ?_
      exact g_zret X rfl (pZ_mk (some_inj hF) rfl) dX4_in_15
theorem in_X4_save_X4 : ∀ w ∈ wsX40, w ∈ wsX4_save := by decide +kernel
def L_X4_save_51 : Nat → Int32 → (Mem × Int64) → Option (Mem × Int64)
  | 0, _, _ => none
  | fu + 1, a1, σ => (if (84 : Int32) ≤ a1 then some σ else if inb a1 84 then (if inb (((84 : Int32) * (σ.1 0 2)) + a1) 504 then (L_X4_save_51  fu (a1 + 1) (up2 σ.1 2 ((((84 : Int32) * (σ.1 0 2)) + a1).toNatClampNeg) (σ.1 1 a1.toNatClampNeg), σ.2)) else none) else none)
set_option maxHeartbeats 4000000 in
set_option maxRecDepth 100000 in
theorem w_X4_save_51 {D : va_G} {ay : Nat → ClassId} {ad : Nat → Nat} {p : Program} {l : Launch} {e : Env} {s : State} {m : MethodId} {args : Array Value} {below : List Frame} {meth : Method} {c : Code} {Q : State → Prop} {res : (Mem × Int64)} (X : CX D ay p s m args meth c cX4_save 2 RX4 none wsX4_save) (hI : amOK ad) (K : ∀ ls : Array Slot, lv_has ls 2 [(0, .ref (ad 0))] → GW D (wM ay ad) (AM ad) p l e ({ frames := 0, cells := 0, slots := 0, locals := 0 } : Room) s m args below meth c Q res (F0 m 83 ls [])) : ∀ (fu : Nat) (a1 : Int32) (σ : (Mem × Int64)), L_X4_save_51  fu a1 σ = some res → ∀ ls : Array Slot, lv_has ls 2 [(0, .ref (ad 0)), (1, .int a1)] → GW D (wM ay ad) (AM ad) p l e ({ frames := 0, cells := 0, slots := 0, locals := 0 } : Room) s m args below meth c Q σ (F0 m 51 ls []) := by
  intro fu
  induction fu with
  | zero =>
    intro a1 σ hF ls hl
    rw [L_X4_save_51] at hF
    cases hF
  | succ fu ih =>
    intro a1 σ hF ls hl
    rw [L_X4_save_51] at hF
    refine g_iload_n X dX4_save_51 rfl (lv_at hl 1 rfl) ?_
    refine g_bipush (v := 84) X dX4_save_52 (by decide) ?_
    refine g_icmp_ge (tgt := 83) X dX4_save_54 (by decide) (fun hc54 => ?_) (fun hc54 => ?_)
    · have hF := ite_t hF hc54
      have e51 := some_inj hF
      subst e51
      exact K ls (lv_sub hl [0] rfl)
    · have hF := ite_f hF hc54
      refine g_aload_n X dX4_save_57 rfl (lv_at hl 0 rfl) ?_
      refine g_get X 0 (mo_obj) in_X4_save_X4 rfl 1 (by decide) (X.ts (.fieldLink RX4 13 "LeadTimesModel" "rows" "[I") (by decide +kernel)) rfl rfl dX4_save_58 ?_
      refine g_bipush (v := 84) X dX4_save_61 (by decide) ?_
      refine g_aload_n X dX4_save_63 rfl (lv_at hl 0 rfl) ?_
      refine g_get X 0 (mo_obj) in_X4_save_X4 rfl 2 (by decide) (X.ts (.fieldLink RX4 38 "LeadTimesModel" "savedMany" "I") (by decide +kernel)) rfl rfl dX4_save_64 ?_
      refine g_imul X dX4_save_67 ?_
      refine g_iload_n X dX4_save_68 rfl (lv_at hl 1 rfl) ?_
      refine g_iadd X dX4_save_69 ?_
      refine g_aload_n X dX4_save_70 rfl (lv_at hl 0 rfl) ?_
      refine g_get X 0 (mo_obj) in_X4_save_X4 rfl 0 (by decide) (X.ts (.fieldLink RX4 7 "LeadTimesModel" "z" "[I") (by decide +kernel)) rfl rfl dX4_save_71 ?_
      refine g_iload_n X dX4_save_74 rfl (lv_at hl 1 rfl) ?_
      obtain ⟨h75, hF⟩ := itn hF
      refine g_iald X 1 (j := a1.toNatClampNeg) (mo_arr1) (by first | rfl | decide) (inb_in h75) dX4_save_75 ?_
      obtain ⟨h76, hF⟩ := itn hF
      refine g_iast X (wM_D hI) ((up2 σ.1 2 ((((84 : Int32) * (σ.1 0 2)) + a1).toNatClampNeg) (σ.1 1 a1.toNatClampNeg), σ.2)) 2 (j := (((84 : Int32) * (σ.1 0 2)) + a1).toNatClampNeg) (mo_arr2) (by first | rfl | decide) (set_arrM (a := 0) (n := 504) (fun τ => mo_arr2)) (inb_in h76) dX4_save_76 ?_
      refine g_iinc (v := a1 + 1) (lv' := [(1, _), (0, _)]) X dX4_save_77 hl (k := 1) rfl rfl (by decide) rfl (fun ls hl => ?_)
      refine g_goto (tgt := 51) X dX4_save_80 (by decide) ?_
      exact ih (a1 + 1) (up2 σ.1 2 ((((84 : Int32) * (σ.1 0 2)) + a1).toNatClampNeg) (σ.1 1 a1.toNatClampNeg), σ.2) hF ls (lv_sub hl [1, 0] rfl)
def L_X4_save_11 : Nat → Int32 → (Mem × Int64) → Option (Mem × Int64)
  | 0, _, _ => none
  | fu + 1, a1, σ => (if (420 : Int32) ≤ a1 then some σ else if inb (a1 + (84 : Int32)) 504 then (if inb a1 504 then (L_X4_save_11  fu (a1 + 1) (up2 σ.1 2 a1.toNatClampNeg (σ.1 2 ((a1 + (84 : Int32)).toNatClampNeg)), σ.2)) else none) else none)
set_option maxHeartbeats 4000000 in
set_option maxRecDepth 100000 in
theorem w_X4_save_11 {D : va_G} {ay : Nat → ClassId} {ad : Nat → Nat} {p : Program} {l : Launch} {e : Env} {s : State} {m : MethodId} {args : Array Value} {below : List Frame} {meth : Method} {c : Code} {Q : State → Prop} {res : (Mem × Int64)} (X : CX D ay p s m args meth c cX4_save 2 RX4 none wsX4_save) (hI : amOK ad) (K : ∀ ls : Array Slot, lv_has ls 2 [(0, .ref (ad 0))] → GW D (wM ay ad) (AM ad) p l e ({ frames := 0, cells := 0, slots := 0, locals := 0 } : Room) s m args below meth c Q res (F0 m 39 ls [])) : ∀ (fu : Nat) (a1 : Int32) (σ : (Mem × Int64)), L_X4_save_11  fu a1 σ = some res → ∀ ls : Array Slot, lv_has ls 2 [(0, .ref (ad 0)), (1, .int a1)] → GW D (wM ay ad) (AM ad) p l e ({ frames := 0, cells := 0, slots := 0, locals := 0 } : Room) s m args below meth c Q σ (F0 m 11 ls []) := by
  intro fu
  induction fu with
  | zero =>
    intro a1 σ hF ls hl
    rw [L_X4_save_11] at hF
    cases hF
  | succ fu ih =>
    intro a1 σ hF ls hl
    rw [L_X4_save_11] at hF
    refine g_iload_n X dX4_save_11 rfl (lv_at hl 1 rfl) ?_
    refine g_sipush (v := 420) X dX4_save_12 (by decide) ?_
    refine g_icmp_ge (tgt := 39) X dX4_save_15 (by decide) (fun hc15 => ?_) (fun hc15 => ?_)
    · have hF := ite_t hF hc15
      have e11 := some_inj hF
      subst e11
      exact K ls (lv_sub hl [0] rfl)
    · have hF := ite_f hF hc15
      refine g_aload_n X dX4_save_18 rfl (lv_at hl 0 rfl) ?_
      refine g_get X 0 (mo_obj) in_X4_save_X4 rfl 1 (by decide) (X.ts (.fieldLink RX4 13 "LeadTimesModel" "rows" "[I") (by decide +kernel)) rfl rfl dX4_save_19 ?_
      refine g_iload_n X dX4_save_22 rfl (lv_at hl 1 rfl) ?_
      refine g_aload_n X dX4_save_23 rfl (lv_at hl 0 rfl) ?_
      refine g_get X 0 (mo_obj) in_X4_save_X4 rfl 1 (by decide) (X.ts (.fieldLink RX4 13 "LeadTimesModel" "rows" "[I") (by decide +kernel)) rfl rfl dX4_save_24 ?_
      refine g_iload_n X dX4_save_27 rfl (lv_at hl 1 rfl) ?_
      refine g_bipush (v := 84) X dX4_save_28 (by decide) ?_
      refine g_iadd X dX4_save_30 ?_
      obtain ⟨h31, hF⟩ := itn hF
      refine g_iald X 2 (j := (a1 + (84 : Int32)).toNatClampNeg) (mo_arr2) (by first | rfl | decide) (inb_in h31) dX4_save_31 ?_
      obtain ⟨h32, hF⟩ := itn hF
      refine g_iast X (wM_D hI) ((up2 σ.1 2 a1.toNatClampNeg (σ.1 2 ((a1 + (84 : Int32)).toNatClampNeg)), σ.2)) 2 (j := a1.toNatClampNeg) (mo_arr2) (by first | rfl | decide) (set_arrM (a := 0) (n := 504) (fun τ => mo_arr2)) (inb_in h32) dX4_save_32 ?_
      refine g_iinc (v := a1 + 1) (lv' := [(1, _), (0, _)]) X dX4_save_33 hl (k := 1) rfl rfl (by decide) rfl (fun ls hl => ?_)
      refine g_goto (tgt := 11) X dX4_save_36 (by decide) ?_
      exact ih (a1 + 1) (up2 σ.1 2 a1.toNatClampNeg (σ.1 2 ((a1 + (84 : Int32)).toNatClampNeg)), σ.2) hF ls (lv_sub hl [1, 0] rfl)
def F_X4_save (σ : (Mem × Int64)) : Option (Mem × Int64) := (Option.bind (if ¬ (σ.1 0 2) = (6 : Int32) then some σ else Option.bind (L_X4_save_11  FU (0 : Int32) σ) (fun v11 : (Mem × Int64) => some (up2 v11.1 0 2 ((v11.1 0 2) - (1 : Int32)), v11.2))) (fun v6 : (Mem × Int64) => Option.bind (L_X4_save_51  FU (0 : Int32) v6) (fun v51 : (Mem × Int64) => some (up2 v51.1 0 2 ((v51.1 0 2) + (1 : Int32)), v51.2))))
set_option maxHeartbeats 4000000 in
set_option maxRecDepth 100000 in
theorem c_X4_save {l : Launch} {D : va_G} {ay : Nat → ClassId} {ad : Nat → Nat} {σ : (Mem × Int64)} {res : (Mem × Int64)} (hI : amOK ad) (hF : F_X4_save  σ = some res) : Met l yX4_save wsX4_save ({ frames := 0, cells := 0, slots := 0, locals := 0 } : Room) (va_Pc [.ref (ad 0)] (PP D ay (wM ay ad σ))) (va_Qv (pV res) (fun τ => PP D ay (wM ay ad τ)) (AM ad)) 0 0 (AM ad) := by
  refine g_start (wd := wM ay ad) (A := AM ad) (own := RX4) (mL := 2) (rt := none) (by decide) rfl rfl (Nat.le_of_ble_eq_true rfl) ?_
  intro p e s m below meth c ls X hl
  have hl : lv_has ls 2 [(0, .ref (ad 0))] := hl
  rw [F_X4_save] at hF
  refine g_aload_n X dX4_save_0 rfl (lv_at hl 0 rfl) ?_
  refine g_get X 0 (mo_obj) in_X4_save_X4 rfl 2 (by decide) (X.ts (.fieldLink RX4 38 "LeadTimesModel" "savedMany" "I") (by decide +kernel)) rfl rfl dX4_save_1 ?_
  refine g_bipush (v := 6) X dX4_save_4 (by decide) ?_
  obtain ⟨v6, hR6, hF⟩ := obind hF
  refine g_cut (nM := 2) [(0, .ref (ad 0))] (v6) 49 [] (fun ls hl => ?_) (fun J6 => ?_)
  · refine g_iconst (v := 0) X dX4_save_49 (by decide) ?_
    refine g_istore_n (lv' := [(1, _), (0, _)]) X dX4_save_50 rfl hl (by decide) rfl (fun ls hl => ?_)
    obtain ⟨v51, hL51, hF⟩ := obind hF
    refine w_X4_save_51 X hI (fun ls hl => ?_) FU (0 : Int32) v6 hL51 ls (lv_sub hl [1, 0] rfl)
    refine g_aload_n X dX4_save_83 rfl (lv_at hl 0 rfl) ?_
    refine g_dup X dX4_save_84 rfl ?_
    refine g_get X 0 (mo_obj) in_X4_save_X4 rfl 2 (by decide) (X.ts (.fieldLink RX4 38 "LeadTimesModel" "savedMany" "I") (by decide +kernel)) rfl rfl dX4_save_85 ?_
    refine g_iconst (v := 1) X dX4_save_88 (by decide) ?_
    refine g_iadd X dX4_save_89 ?_
    refine g_put X (wM_D hI) ((up2 v51.1 0 2 ((v51.1 0 2) + (1 : Int32)), v51.2)) 0 (mo_obj) 2 (set_mo2) tyX4 tyX4_ok nmX4 in_X4_save_X4 rfl (by decide) (X.ts (.fieldLink RX4 38 "LeadTimesModel" "savedMany" "I") (by decide +kernel)) rfl rfl rfl rfl rfl (Nat.le_of_ble_eq_true rfl) dX4_save_90 ?_
    exact g_vret X (pV_mk (some_inj hF)) dX4_save_93
  · refine g_icmp_ne (tgt := 49) X dX4_save_6 (by decide) (fun hc6 => ?_) (fun hc6 => ?_)
    · have hR6 := ite_t hR6 hc6
      have e6 := some_inj hR6
      subst e6
      exact J6 ls (lv_sub hl [0] rfl)
    · have hR6 := ite_n hR6 hc6
      refine g_iconst (v := 0) X dX4_save_9 (by decide) ?_
      refine g_istore_n (lv' := [(1, _), (0, _)]) X dX4_save_10 rfl hl (by decide) rfl (fun ls hl => ?_)
      obtain ⟨v11, hL11, hR6⟩ := obind hR6
      refine w_X4_save_11 X hI (fun ls hl => ?_) FU (0 : Int32) σ hL11 ls (lv_sub hl [1, 0] rfl)
      refine g_aload_n X dX4_save_39 rfl (lv_at hl 0 rfl) ?_
      refine g_dup X dX4_save_40 rfl ?_
      refine g_get X 0 (mo_obj) in_X4_save_X4 rfl 2 (by decide) (X.ts (.fieldLink RX4 38 "LeadTimesModel" "savedMany" "I") (by decide +kernel)) rfl rfl dX4_save_41 ?_
      refine g_iconst (v := 1) X dX4_save_44 (by decide) ?_
      refine g_isub X dX4_save_45 ?_
      refine g_put X (wM_D hI) ((up2 v11.1 0 2 ((v11.1 0 2) - (1 : Int32)), v11.2)) 0 (mo_obj) 2 (set_mo2) tyX4 tyX4_ok nmX4 in_X4_save_X4 rfl (by decide) (X.ts (.fieldLink RX4 38 "LeadTimesModel" "savedMany" "I") (by decide +kernel)) rfl rfl rfl rfl rfl (Nat.le_of_ble_eq_true rfl) dX4_save_46 ?_
      have e6 := some_inj hR6
      subst e6
      exact J6 ls (lv_sub hl [0] rfl)
def F_X4_at (a0 : Int32) : Option Int32 := some ((20 : Int32) + ((4 : Int32) * a0))
set_option maxHeartbeats 4000000 in
set_option maxRecDepth 100000 in
theorem c_X4_at {l : Launch} {D : va_G} {ay : Nat → ClassId} {ad : Nat → Nat} {a0 : Int32} {σ : (Mem × Int64)} {res : Int32} (hI : amOK ad) (hF : F_X4_at a0 = some res) : Met l yX4_at wsX4_at ({ frames := 0, cells := 0, slots := 0, locals := 0 } : Room) (va_Pc [.int a0] (PP D ay (wM ay ad σ))) (va_Qi (pP res σ) (fun τ => PP D ay (wM ay ad τ)) (AM ad)) 0 0 (AM ad) := by
  refine g_start (wd := wM ay ad) (A := AM ad) (own := RX4) (mL := 1) (rt := (some .int)) (by decide) rfl rfl (Nat.le_of_ble_eq_true rfl) ?_
  intro p e s m below meth c ls X hl
  have hl : lv_has ls 1 [(0, .int a0)] := hl
  rw [F_X4_at] at hF
  refine g_bipush (v := 20) X dX4_at_0 (by decide) ?_
  refine g_iconst (v := 4) X dX4_at_2 (by decide) ?_
  refine g_iload_n X dX4_at_3 rfl (lv_at hl 0 rfl) ?_
  refine g_imul X dX4_at_4 ?_
  refine g_iadd X dX4_at_5 ?_
  exact g_iret X (pP_mk (some_inj hF)) dX4_at_6
theorem in_X4_has_X4 : ∀ w ∈ wsX40, w ∈ wsX4_has := by decide +kernel
def F_X4_has (a1 : Int32) (σ : (Mem × Int64)) : Option Int32 := Option.bind (F_X4_at a1) (fun r5 => if inb r5 84 then ((if ¬ (σ.1 1 r5.toNatClampNeg) = (1 : Int32) then some (0 : Int32) else some (1 : Int32))) else none)
set_option maxHeartbeats 4000000 in
set_option maxRecDepth 100000 in
theorem c_X4_has {l : Launch} {D : va_G} {ay : Nat → ClassId} {ad : Nat → Nat} {a1 : Int32} {σ : (Mem × Int64)} {res : Int32} (hI : amOK ad) (hF : F_X4_has a1 σ = some res) : Met l yX4_has wsX4_has ({ frames := 1, cells := 0, slots := 0, locals := 20 } : Room) (va_Pc [.ref (ad 0), .int a1] (PP D ay (wM ay ad σ))) (va_Qi (pZ res σ) (fun τ => PP D ay (wM ay ad τ)) (AM ad)) 0 0 (AM ad) := by
  refine g_start (wd := wM ay ad) (A := AM ad) (own := RX4) (mL := 2) (rt := (some .boolean)) (by decide) rfl rfl (Nat.le_of_ble_eq_true rfl) ?_
  intro p e s m below meth c ls X hl
  have hl : lv_has ls 2 [(0, .ref (ad 0)), (1, .int a1)] := hl
  rw [F_X4_has] at hF
  refine g_aload_n X dX4_has_0 rfl (lv_at hl 0 rfl) ?_
  refine g_get X 0 (mo_obj) in_X4_has_X4 rfl 0 (by decide) (X.ts (.fieldLink RX4 7 "LeadTimesModel" "z" "[I") (by decide +kernel)) rfl rfl dX4_has_1 ?_
  refine g_iload_n X dX4_has_4 rfl (lv_at hl 1 rfl) ?_
  obtain ⟨r5, hr5, hF⟩ := obind hF
  refine k_Si X (As := [.int a1]) (rest := [.ref (ad 1)]) (c_X4_at hI hr5) (va_cwS 1 X.ts gX4_has_X4_at rfl rfl rfl (by decide +kernel) ⟨Nat.le_of_ble_eq_true rfl, Nat.le_of_ble_eq_true rfl⟩) rfl hl.1 rfl (Nat.le_of_ble_eq_true rfl) dX4_has_5 ?_
  obtain ⟨h8, hF⟩ := itn hF
  refine g_iald X 1 (j := r5.toNatClampNeg) (mo_arr1) (by first | rfl | decide) (inb_in h8) dX4_has_8 ?_
  refine g_iconst (v := 1) X dX4_has_9 (by decide) ?_
  refine g_icmp_ne (tgt := 17) X dX4_has_10 (by decide) (fun hc10 => ?_) (fun hc10 => ?_)
  · have hF := ite_t hF hc10
    refine g_iconst (v := 0) X dX4_has_17 (by decide) ?_
    exact g_zret X rfl (pZ_mk (some_inj hF) rfl) dX4_has_18
  · have hF := ite_n hF hc10
    refine g_iconst (v := 1) X dX4_has_13 (by decide) ?_
    refine g_goto (tgt := 18) X dX4_has_14 (by decide) ?_
    exact g_zret X rfl (pZ_mk (some_inj hF) rfl) dX4_has_18
def F_X4_isMover (a1 : Int32) (σ : (Mem × Int64)) : Option Int32 := Option.bind (F_X4_in a1 (0 : Int32) (15 : Int32)) (fun r4 => (if r4 = 0 then some (0 : Int32) else Option.bind (F_X4_has a1 σ) (fun r12 => (if r12 = 0 then some (0 : Int32) else some (1 : Int32)))))
set_option maxHeartbeats 4000000 in
set_option maxRecDepth 100000 in
theorem c_X4_isMover {l : Launch} {D : va_G} {ay : Nat → ClassId} {ad : Nat → Nat} {a1 : Int32} {σ : (Mem × Int64)} {res : Int32} (hI : amOK ad) (hF : F_X4_isMover a1 σ = some res) : Met l yX4_isMover wsX4_isMover ({ frames := 2, cells := 0, slots := 0, locals := 41 } : Room) (va_Pc [.ref (ad 0), .int a1] (PP D ay (wM ay ad σ))) (va_Qi (pZ res σ) (fun τ => PP D ay (wM ay ad τ)) (AM ad)) 0 0 (AM ad) := by
  refine g_start (wd := wM ay ad) (A := AM ad) (own := RX4) (mL := 2) (rt := (some .boolean)) (by decide) rfl rfl (Nat.le_of_ble_eq_true rfl) ?_
  intro p e s m below meth c ls X hl
  have hl : lv_has ls 2 [(0, .ref (ad 0)), (1, .int a1)] := hl
  rw [F_X4_isMover] at hF
  refine g_iload_n X dX4_isMover_0 rfl (lv_at hl 1 rfl) ?_
  refine g_iconst (v := 0) X dX4_isMover_1 (by decide) ?_
  refine g_bipush (v := 15) X dX4_isMover_2 (by decide) ?_
  obtain ⟨r4, hr4, hF⟩ := obind hF
  refine k_Sz X (As := [.int a1, .int (0 : Int32), .int (15 : Int32)]) (rest := []) (c_X4_in hI hr4) (va_cwS 3 X.ts gX4_isMover_X4_in rfl rfl rfl (by decide +kernel) ⟨Nat.le_of_ble_eq_true rfl, Nat.le_of_ble_eq_true rfl⟩) rfl hl.1 rfl (Nat.le_of_ble_eq_true rfl) dX4_isMover_4 (fun hz4 => ?_)
  refine g_if_eq (tgt := 22) X dX4_isMover_7 (by decide) (fun hc7 => ?_) (fun hc7 => ?_)
  · have hF := ite_t hF hc7
    refine g_iconst (v := 0) X dX4_isMover_22 (by decide) ?_
    exact g_zret X rfl (pZ_mk (some_inj hF) rfl) dX4_isMover_23
  · have hF := ite_f hF hc7
    refine g_aload_n X dX4_isMover_10 rfl (lv_at hl 0 rfl) ?_
    refine g_iload_n X dX4_isMover_11 rfl (lv_at hl 1 rfl) ?_
    obtain ⟨r12, hr12, hF⟩ := obind hF
    refine k_Vz X (As := [.int a1]) (rest := []) (c_X4_has hI hr12) (cwV 1 X.ts gX4_isMover_X4_has rfl rfl rfl (by decide +kernel) ⟨Nat.le_of_ble_eq_true rfl, Nat.le_of_ble_eq_true rfl⟩) ⟨0, 4, _, _, mo_obj, rfl, rfl⟩ rfl hl.1 rfl (Nat.le_of_ble_eq_true rfl) dX4_isMover_12 (fun hz12 => ?_)
    refine g_if_eq (tgt := 22) X dX4_isMover_15 (by decide) (fun hc15 => ?_) (fun hc15 => ?_)
    · have hF := ite_t hF hc15
      refine g_iconst (v := 0) X dX4_isMover_22 (by decide) ?_
      exact g_zret X rfl (pZ_mk (some_inj hF) rfl) dX4_isMover_23
    · have hF := ite_f hF hc15
      refine g_iconst (v := 1) X dX4_isMover_18 (by decide) ?_
      refine g_goto (tgt := 23) X dX4_isMover_19 (by decide) ?_
      exact g_zret X rfl (pZ_mk (some_inj hF) rfl) dX4_isMover_23
def F_X4_slotsOf (a0 : Int32) : Option Int32 := (if ¬ a0 = (1 : Int32) then (if (4 : Int32) ≤ a0 then (if (8 : Int32) ≤ a0 then some (2 : Int32) else some (4 : Int32)) else some (8 : Int32)) else some (16 : Int32))
set_option maxHeartbeats 4000000 in
set_option maxRecDepth 100000 in
theorem c_X4_slotsOf {l : Launch} {D : va_G} {ay : Nat → ClassId} {ad : Nat → Nat} {a0 : Int32} {σ : (Mem × Int64)} {res : Int32} (hI : amOK ad) (hF : F_X4_slotsOf a0 = some res) : Met l yX4_slotsOf wsX4_slotsOf ({ frames := 0, cells := 0, slots := 0, locals := 0 } : Room) (va_Pc [.int a0] (PP D ay (wM ay ad σ))) (va_Qi (pP res σ) (fun τ => PP D ay (wM ay ad τ)) (AM ad)) 0 0 (AM ad) := by
  refine g_start (wd := wM ay ad) (A := AM ad) (own := RX4) (mL := 1) (rt := (some .int)) (by decide) rfl rfl (Nat.le_of_ble_eq_true rfl) ?_
  intro p e s m below meth c ls X hl
  have hl : lv_has ls 1 [(0, .int a0)] := hl
  rw [F_X4_slotsOf] at hF
  refine g_iload_n X dX4_slotsOf_0 rfl (lv_at hl 0 rfl) ?_
  refine g_iconst (v := 1) X dX4_slotsOf_1 (by decide) ?_
  refine g_icmp_ne (tgt := 10) X dX4_slotsOf_2 (by decide) (fun hc2 => ?_) (fun hc2 => ?_)
  · have hF := ite_t hF hc2
    refine g_iload_n X dX4_slotsOf_10 rfl (lv_at hl 0 rfl) ?_
    refine g_iconst (v := 4) X dX4_slotsOf_11 (by decide) ?_
    refine g_icmp_ge (tgt := 20) X dX4_slotsOf_12 (by decide) (fun hc12 => ?_) (fun hc12 => ?_)
    · have hF := ite_t hF hc12
      refine g_iload_n X dX4_slotsOf_20 rfl (lv_at hl 0 rfl) ?_
      refine g_bipush (v := 8) X dX4_slotsOf_21 (by decide) ?_
      refine g_icmp_ge (tgt := 30) X dX4_slotsOf_23 (by decide) (fun hc23 => ?_) (fun hc23 => ?_)
      · have hF := ite_t hF hc23
        refine g_iconst (v := 2) X dX4_slotsOf_30 (by decide) ?_
        exact g_iret X (pP_mk (some_inj hF)) dX4_slotsOf_31
      · have hF := ite_f hF hc23
        refine g_iconst (v := 4) X dX4_slotsOf_26 (by decide) ?_
        refine g_goto (tgt := 31) X dX4_slotsOf_27 (by decide) ?_
        exact g_iret X (pP_mk (some_inj hF)) dX4_slotsOf_31
    · have hF := ite_f hF hc12
      refine g_bipush (v := 8) X dX4_slotsOf_15 (by decide) ?_
      refine g_goto (tgt := 31) X dX4_slotsOf_17 (by decide) ?_
      exact g_iret X (pP_mk (some_inj hF)) dX4_slotsOf_31
  · have hF := ite_n hF hc2
    refine g_bipush (v := 16) X dX4_slotsOf_5 (by decide) ?_
    refine g_goto (tgt := 31) X dX4_slotsOf_7 (by decide) ?_
    exact g_iret X (pP_mk (some_inj hF)) dX4_slotsOf_31
def F_X4_firstOf (a0 : Int32) : Option Int32 := Option.bind (F_X4_slotsOf a0) (fun r1 => if ¬ r1 = 0 then (some ((a0 - ((16 : Int32) / r1)) * r1)) else none)
set_option maxHeartbeats 4000000 in
set_option maxRecDepth 100000 in
theorem c_X4_firstOf {l : Launch} {D : va_G} {ay : Nat → ClassId} {ad : Nat → Nat} {a0 : Int32} {σ : (Mem × Int64)} {res : Int32} (hI : amOK ad) (hF : F_X4_firstOf a0 = some res) : Met l yX4_firstOf wsX4_firstOf ({ frames := 1, cells := 0, slots := 0, locals := 20 } : Room) (va_Pc [.int a0] (PP D ay (wM ay ad σ))) (va_Qi (pP res σ) (fun τ => PP D ay (wM ay ad τ)) (AM ad)) 0 0 (AM ad) := by
  refine g_start (wd := wM ay ad) (A := AM ad) (own := RX4) (mL := 2) (rt := (some .int)) (by decide) rfl rfl (Nat.le_of_ble_eq_true rfl) ?_
  intro p e s m below meth c ls X hl
  have hl : lv_has ls 2 [(0, .int a0)] := hl
  rw [F_X4_firstOf] at hF
  refine g_iload_n X dX4_firstOf_0 rfl (lv_at hl 0 rfl) ?_
  obtain ⟨r1, hr1, hF⟩ := obind hF
  refine k_Si X (As := [.int a0]) (rest := []) (c_X4_slotsOf hI hr1) (va_cwS 1 X.ts gX4_firstOf_X4_slotsOf rfl rfl rfl (by decide +kernel) ⟨Nat.le_of_ble_eq_true rfl, Nat.le_of_ble_eq_true rfl⟩) rfl hl.1 rfl (Nat.le_of_ble_eq_true rfl) dX4_firstOf_1 ?_
  refine g_istore_n (lv' := [(1, _), (0, _)]) X dX4_firstOf_4 rfl hl (by decide) rfl (fun ls hl => ?_)
  refine g_iload_n X dX4_firstOf_5 rfl (lv_at hl 1 rfl) ?_
  refine g_bipush (v := 16) X dX4_firstOf_6 (by decide) ?_
  refine g_iload_n X dX4_firstOf_8 rfl (lv_at hl 0 rfl) ?_
  obtain ⟨h9, hF⟩ := itn hF
  refine g_idiv X dX4_firstOf_9 h9 ?_
  refine g_isub X dX4_firstOf_10 ?_
  refine g_iload_n X dX4_firstOf_11 rfl (lv_at hl 0 rfl) ?_
  refine g_imul X dX4_firstOf_12 ?_
  exact g_iret X (pP_mk (some_inj hF)) dX4_firstOf_13
theorem in_X4_isAhead_X4 : ∀ w ∈ wsX40, w ∈ wsX4_isAhead := by decide +kernel
def F_X4_isAhead (a1 : Int32) (a2 : Int32) (a3 : Int64) (a5 : Int64) (σ : (Mem × Int64)) : Option Int32 := Option.bind (F_X4_at a1) (fun r5 => if inb (r5 + (1 : Int32)) 84 then (Option.bind (F_X4_at a2) (fun r16 => if inb (r16 + (1 : Int32)) 84 then (Option.bind (F_X4_at a1) (fun r32 => if inb (r32 + (2 : Int32)) 84 then (Option.bind (F_X4_at a2) (fun r43 => if inb (r43 + (2 : Int32)) 84 then ((if (lg_cmp (((((σ.1 1 ((r5 + (1 : Int32)).toNatClampNeg)) - (σ.1 1 ((r16 + (1 : Int32)).toNatClampNeg))).toInt64) * a5) + ((((σ.1 1 ((r32 + (2 : Int32)).toNatClampNeg)) - (σ.1 1 ((r43 + (2 : Int32)).toNatClampNeg))).toInt64) * a3)) (0 : Int64)) = 0 then Option.bind (F_X4_at a1) (fun r81 => if inb (r81 + (2 : Int32)) 84 then (Option.bind (F_X4_at a2) (fun r92 => if inb (r92 + (2 : Int32)) 84 then ((if ((σ.1 1 ((r81 + (2 : Int32)).toNatClampNeg)) - (σ.1 1 ((r92 + (2 : Int32)).toNatClampNeg))) = 0 then (if ¬ (σ.1 1 1) = 0 then (if a1 ≤ a2 then some (0 : Int32) else some (1 : Int32)) else (if a2 ≤ a1 then some (0 : Int32) else some (1 : Int32))) else (if ((σ.1 1 ((r81 + (2 : Int32)).toNatClampNeg)) - (σ.1 1 ((r92 + (2 : Int32)).toNatClampNeg))) ≤ 0 then some (0 : Int32) else some (1 : Int32)))) else none)) else none) else (if (lg_cmp (((((σ.1 1 ((r5 + (1 : Int32)).toNatClampNeg)) - (σ.1 1 ((r16 + (1 : Int32)).toNatClampNeg))).toInt64) * a5) + ((((σ.1 1 ((r32 + (2 : Int32)).toNatClampNeg)) - (σ.1 1 ((r43 + (2 : Int32)).toNatClampNeg))).toInt64) * a3)) (0 : Int64)) ≤ 0 then some (0 : Int32) else some (1 : Int32)))) else none)) else none)) else none)) else none)
set_option maxHeartbeats 4000000 in
set_option maxRecDepth 100000 in
theorem c_X4_isAhead {l : Launch} {D : va_G} {ay : Nat → ClassId} {ad : Nat → Nat} {a1 : Int32} {a2 : Int32} {a3 : Int64} {a5 : Int64} {σ : (Mem × Int64)} {res : Int32} (hI : amOK ad) (hF : F_X4_isAhead a1 a2 a3 a5 σ = some res) : Met l yX4_isAhead wsX4_isAhead ({ frames := 1, cells := 0, slots := 0, locals := 20 } : Room) (va_Pc [.ref (ad 0), .int a1, .int a2, .long a3, .long a5] (PP D ay (wM ay ad σ))) (va_Qi (pZ res σ) (fun τ => PP D ay (wM ay ad τ)) (AM ad)) 0 0 (AM ad) := by
  refine g_start (wd := wM ay ad) (A := AM ad) (own := RX4) (mL := 10) (rt := (some .boolean)) (by decide) rfl rfl (Nat.le_of_ble_eq_true rfl) ?_
  intro p e s m below meth c ls X hl
  have hl : lv_has ls 10 [(0, .ref (ad 0)), (1, .int a1), (2, .int a2), (3, .long a3), (5, .long a5)] := hl
  rw [F_X4_isAhead] at hF
  refine g_aload_n X dX4_isAhead_0 rfl (lv_at hl 0 rfl) ?_
  refine g_get X 0 (mo_obj) in_X4_isAhead_X4 rfl 0 (by decide) (X.ts (.fieldLink RX4 7 "LeadTimesModel" "z" "[I") (by decide +kernel)) rfl rfl dX4_isAhead_1 ?_
  refine g_iload_n X dX4_isAhead_4 rfl (lv_at hl 1 rfl) ?_
  obtain ⟨r5, hr5, hF⟩ := obind hF
  refine k_Si X (As := [.int a1]) (rest := [.ref (ad 1)]) (c_X4_at hI hr5) (va_cwS 1 X.ts gX4_isAhead_X4_at rfl rfl rfl (by decide +kernel) ⟨Nat.le_of_ble_eq_true rfl, Nat.le_of_ble_eq_true rfl⟩) rfl hl.1 rfl (Nat.le_of_ble_eq_true rfl) dX4_isAhead_5 ?_
  refine g_iconst (v := 1) X dX4_isAhead_8 (by decide) ?_
  refine g_iadd X dX4_isAhead_9 ?_
  obtain ⟨h10, hF⟩ := itn hF
  refine g_iald X 1 (j := (r5 + (1 : Int32)).toNatClampNeg) (mo_arr1) (by first | rfl | decide) (inb_in h10) dX4_isAhead_10 ?_
  refine g_aload_n X dX4_isAhead_11 rfl (lv_at hl 0 rfl) ?_
  refine g_get X 0 (mo_obj) in_X4_isAhead_X4 rfl 0 (by decide) (X.ts (.fieldLink RX4 7 "LeadTimesModel" "z" "[I") (by decide +kernel)) rfl rfl dX4_isAhead_12 ?_
  refine g_iload_n X dX4_isAhead_15 rfl (lv_at hl 2 rfl) ?_
  obtain ⟨r16, hr16, hF⟩ := obind hF
  refine k_Si X (As := [.int a2]) (rest := [.ref (ad 1), .int (σ.1 1 ((r5 + (1 : Int32)).toNatClampNeg))]) (c_X4_at hI hr16) (va_cwS 1 X.ts gX4_isAhead_X4_at rfl rfl rfl (by decide +kernel) ⟨Nat.le_of_ble_eq_true rfl, Nat.le_of_ble_eq_true rfl⟩) rfl hl.1 rfl (Nat.le_of_ble_eq_true rfl) dX4_isAhead_16 ?_
  refine g_iconst (v := 1) X dX4_isAhead_19 (by decide) ?_
  refine g_iadd X dX4_isAhead_20 ?_
  obtain ⟨h21, hF⟩ := itn hF
  refine g_iald X 1 (j := (r16 + (1 : Int32)).toNatClampNeg) (mo_arr1) (by first | rfl | decide) (inb_in h21) dX4_isAhead_21 ?_
  refine g_isub X dX4_isAhead_22 ?_
  refine g_i2l X dX4_isAhead_23 ?_
  refine g_lload X dX4_isAhead_24 (lv_at hl 4 rfl) ?_
  refine g_lmul X dX4_isAhead_26 ?_
  refine g_aload_n X dX4_isAhead_27 rfl (lv_at hl 0 rfl) ?_
  refine g_get X 0 (mo_obj) in_X4_isAhead_X4 rfl 0 (by decide) (X.ts (.fieldLink RX4 7 "LeadTimesModel" "z" "[I") (by decide +kernel)) rfl rfl dX4_isAhead_28 ?_
  refine g_iload_n X dX4_isAhead_31 rfl (lv_at hl 1 rfl) ?_
  obtain ⟨r32, hr32, hF⟩ := obind hF
  refine k_Si X (As := [.int a1]) (rest := [.ref (ad 1), .long ((((σ.1 1 ((r5 + (1 : Int32)).toNatClampNeg)) - (σ.1 1 ((r16 + (1 : Int32)).toNatClampNeg))).toInt64) * a5)]) (c_X4_at hI hr32) (va_cwS 1 X.ts gX4_isAhead_X4_at rfl rfl rfl (by decide +kernel) ⟨Nat.le_of_ble_eq_true rfl, Nat.le_of_ble_eq_true rfl⟩) rfl hl.1 rfl (Nat.le_of_ble_eq_true rfl) dX4_isAhead_32 ?_
  refine g_iconst (v := 2) X dX4_isAhead_35 (by decide) ?_
  refine g_iadd X dX4_isAhead_36 ?_
  obtain ⟨h37, hF⟩ := itn hF
  refine g_iald X 1 (j := (r32 + (2 : Int32)).toNatClampNeg) (mo_arr1) (by first | rfl | decide) (inb_in h37) dX4_isAhead_37 ?_
  refine g_aload_n X dX4_isAhead_38 rfl (lv_at hl 0 rfl) ?_
  refine g_get X 0 (mo_obj) in_X4_isAhead_X4 rfl 0 (by decide) (X.ts (.fieldLink RX4 7 "LeadTimesModel" "z" "[I") (by decide +kernel)) rfl rfl dX4_isAhead_39 ?_
  refine g_iload_n X dX4_isAhead_42 rfl (lv_at hl 2 rfl) ?_
  obtain ⟨r43, hr43, hF⟩ := obind hF
  refine k_Si X (As := [.int a2]) (rest := [.ref (ad 1), .int (σ.1 1 ((r32 + (2 : Int32)).toNatClampNeg)), .long ((((σ.1 1 ((r5 + (1 : Int32)).toNatClampNeg)) - (σ.1 1 ((r16 + (1 : Int32)).toNatClampNeg))).toInt64) * a5)]) (c_X4_at hI hr43) (va_cwS 1 X.ts gX4_isAhead_X4_at rfl rfl rfl (by decide +kernel) ⟨Nat.le_of_ble_eq_true rfl, Nat.le_of_ble_eq_true rfl⟩) rfl hl.1 rfl (Nat.le_of_ble_eq_true rfl) dX4_isAhead_43 ?_
  refine g_iconst (v := 2) X dX4_isAhead_46 (by decide) ?_
  refine g_iadd X dX4_isAhead_47 ?_
  obtain ⟨h48, hF⟩ := itn hF
  refine g_iald X 1 (j := (r43 + (2 : Int32)).toNatClampNeg) (mo_arr1) (by first | rfl | decide) (inb_in h48) dX4_isAhead_48 ?_
  refine g_isub X dX4_isAhead_49 ?_
  refine g_i2l X dX4_isAhead_50 ?_
  refine g_lload_n X dX4_isAhead_51 rfl (lv_at hl 3 rfl) ?_
  refine g_lmul X dX4_isAhead_52 ?_
  refine g_ladd X dX4_isAhead_53 ?_
  refine g_lstore (lv' := [(7, _), (0, _), (1, _), (2, _), (3, _), (5, _)]) X dX4_isAhead_54 hl (by decide) rfl (fun ls hl => ?_)
  refine g_lload X dX4_isAhead_56 (lv_at hl 0 rfl) ?_
  refine g_lconst (v := 0) X dX4_isAhead_58 (by decide) ?_
  refine g_lcmp X dX4_isAhead_59 ?_
  refine g_if_eq (tgt := 76) X dX4_isAhead_60 (by decide) (fun hc60 => ?_) (fun hc60 => ?_)
  · have hF := ite_t hF hc60
    refine g_aload_n X dX4_isAhead_76 rfl (lv_at hl 1 rfl) ?_
    refine g_get X 0 (mo_obj) in_X4_isAhead_X4 rfl 0 (by decide) (X.ts (.fieldLink RX4 7 "LeadTimesModel" "z" "[I") (by decide +kernel)) rfl rfl dX4_isAhead_77 ?_
    refine g_iload_n X dX4_isAhead_80 rfl (lv_at hl 2 rfl) ?_
    obtain ⟨r81, hr81, hF⟩ := obind hF
    refine k_Si X (As := [.int a1]) (rest := [.ref (ad 1)]) (c_X4_at hI hr81) (va_cwS 1 X.ts gX4_isAhead_X4_at rfl rfl rfl (by decide +kernel) ⟨Nat.le_of_ble_eq_true rfl, Nat.le_of_ble_eq_true rfl⟩) rfl hl.1 rfl (Nat.le_of_ble_eq_true rfl) dX4_isAhead_81 ?_
    refine g_iconst (v := 2) X dX4_isAhead_84 (by decide) ?_
    refine g_iadd X dX4_isAhead_85 ?_
    obtain ⟨h86, hF⟩ := itn hF
    refine g_iald X 1 (j := (r81 + (2 : Int32)).toNatClampNeg) (mo_arr1) (by first | rfl | decide) (inb_in h86) dX4_isAhead_86 ?_
    refine g_aload_n X dX4_isAhead_87 rfl (lv_at hl 1 rfl) ?_
    refine g_get X 0 (mo_obj) in_X4_isAhead_X4 rfl 0 (by decide) (X.ts (.fieldLink RX4 7 "LeadTimesModel" "z" "[I") (by decide +kernel)) rfl rfl dX4_isAhead_88 ?_
    refine g_iload_n X dX4_isAhead_91 rfl (lv_at hl 3 rfl) ?_
    obtain ⟨r92, hr92, hF⟩ := obind hF
    refine k_Si X (As := [.int a2]) (rest := [.ref (ad 1), .int (σ.1 1 ((r81 + (2 : Int32)).toNatClampNeg))]) (c_X4_at hI hr92) (va_cwS 1 X.ts gX4_isAhead_X4_at rfl rfl rfl (by decide +kernel) ⟨Nat.le_of_ble_eq_true rfl, Nat.le_of_ble_eq_true rfl⟩) rfl hl.1 rfl (Nat.le_of_ble_eq_true rfl) dX4_isAhead_92 ?_
    refine g_iconst (v := 2) X dX4_isAhead_95 (by decide) ?_
    refine g_iadd X dX4_isAhead_96 ?_
    obtain ⟨h97, hF⟩ := itn hF
    refine g_iald X 1 (j := (r92 + (2 : Int32)).toNatClampNeg) (mo_arr1) (by first | rfl | decide) (inb_in h97) dX4_isAhead_97 ?_
    refine g_isub X dX4_isAhead_98 ?_
    refine g_istore (lv' := [(9, _), (7, _), (0, _), (1, _), (2, _), (3, _), (5, _)]) X dX4_isAhead_99 hl (by decide) rfl (fun ls hl => ?_)
    refine g_iload X dX4_isAhead_101 (lv_at hl 0 rfl) ?_
    refine g_if_eq (tgt := 117) X dX4_isAhead_103 (by decide) (fun hc103 => ?_) (fun hc103 => ?_)
    · have hF := ite_t hF hc103
      refine g_aload_n X dX4_isAhead_117 rfl (lv_at hl 2 rfl) ?_
      refine g_get X 0 (mo_obj) in_X4_isAhead_X4 rfl 0 (by decide) (X.ts (.fieldLink RX4 7 "LeadTimesModel" "z" "[I") (by decide +kernel)) rfl rfl dX4_isAhead_118 ?_
      refine g_iconst (v := 1) X dX4_isAhead_121 (by decide) ?_
      refine g_iald X 1 (j := 1) (mo_arr1) (by first | rfl | decide) (inb_in (by decide)) dX4_isAhead_122 ?_
      refine g_if_ne (tgt := 139) X dX4_isAhead_123 (by decide) (fun hc123 => ?_) (fun hc123 => ?_)
      · have hF := ite_t hF hc123
        refine g_iload_n X dX4_isAhead_139 rfl (lv_at hl 3 rfl) ?_
        refine g_iload_n X dX4_isAhead_140 rfl (lv_at hl 4 rfl) ?_
        refine g_icmp_le (tgt := 148) X dX4_isAhead_141 (by decide) (fun hc141 => ?_) (fun hc141 => ?_)
        · have hF := ite_t hF hc141
          refine g_iconst (v := 0) X dX4_isAhead_148 (by decide) ?_
          exact g_zret X rfl (pZ_mk (some_inj hF) rfl) dX4_isAhead_149
        · have hF := ite_f hF hc141
          refine g_iconst (v := 1) X dX4_isAhead_144 (by decide) ?_
          refine g_goto (tgt := 149) X dX4_isAhead_145 (by decide) ?_
          exact g_zret X rfl (pZ_mk (some_inj hF) rfl) dX4_isAhead_149
      · have hF := ite_n hF hc123
        refine g_iload_n X dX4_isAhead_126 rfl (lv_at hl 3 rfl) ?_
        refine g_iload_n X dX4_isAhead_127 rfl (lv_at hl 4 rfl) ?_
        refine g_icmp_ge (tgt := 135) X dX4_isAhead_128 (by decide) (fun hc128 => ?_) (fun hc128 => ?_)
        · have hF := ite_t hF hc128
          refine g_iconst (v := 0) X dX4_isAhead_135 (by decide) ?_
          refine g_goto (tgt := 149) X dX4_isAhead_136 (by decide) ?_
          exact g_zret X rfl (pZ_mk (some_inj hF) rfl) dX4_isAhead_149
        · have hF := ite_f hF hc128
          refine g_iconst (v := 1) X dX4_isAhead_131 (by decide) ?_
          refine g_goto (tgt := 149) X dX4_isAhead_132 (by decide) ?_
          exact g_zret X rfl (pZ_mk (some_inj hF) rfl) dX4_isAhead_149
    · have hF := ite_f hF hc103
      refine g_iload X dX4_isAhead_106 (lv_at hl 0 rfl) ?_
      refine g_if_le (tgt := 115) X dX4_isAhead_108 (by decide) (fun hc108 => ?_) (fun hc108 => ?_)
      · have hF := ite_t hF hc108
        refine g_iconst (v := 0) X dX4_isAhead_115 (by decide) ?_
        exact g_zret X rfl (pZ_mk (some_inj hF) rfl) dX4_isAhead_116
      · have hF := ite_f hF hc108
        refine g_iconst (v := 1) X dX4_isAhead_111 (by decide) ?_
        refine g_goto (tgt := 116) X dX4_isAhead_112 (by decide) ?_
        exact g_zret X rfl (pZ_mk (some_inj hF) rfl) dX4_isAhead_116
  · have hF := ite_f hF hc60
    refine g_lload X dX4_isAhead_63 (lv_at hl 0 rfl) ?_
    refine g_lconst (v := 0) X dX4_isAhead_65 (by decide) ?_
    refine g_lcmp X dX4_isAhead_66 ?_
    refine g_if_le (tgt := 74) X dX4_isAhead_67 (by decide) (fun hc67 => ?_) (fun hc67 => ?_)
    · have hF := ite_t hF hc67
      refine g_iconst (v := 0) X dX4_isAhead_74 (by decide) ?_
      exact g_zret X rfl (pZ_mk (some_inj hF) rfl) dX4_isAhead_75
    · have hF := ite_f hF hc67
      refine g_iconst (v := 1) X dX4_isAhead_70 (by decide) ?_
      refine g_goto (tgt := 75) X dX4_isAhead_71 (by decide) ?_
      exact g_zret X rfl (pZ_mk (some_inj hF) rfl) dX4_isAhead_75
def L_X4_winnerAt_13 (a1 : Int32) (a2 : Int64) (a4 : Int64) (a7 : Int32) (σ : (Mem × Int64)) : Nat → Int32 → Int32 → Option Int32
  | 0, _, _ => none
  | fu + 1, a6, a8 => Option.bind (F_X4_slotsOf a1) (fun r18 => (if (a7 + r18) ≤ a8 then some a6 else Option.bind (F_X4_has a8 σ) (fun r28 => (Option.bind (if r28 = 0 then some a6 else (if a6 = (-1 : Int32) then some a8 else Option.bind (F_X4_isAhead a8 a6 a2 a4 σ) (fun r48 => (if r48 = 0 then some a6 else some a8)))) (fun v31 : Int32 => L_X4_winnerAt_13 a1 a2 a4 a7 σ fu v31 (a8 + 1))))))
set_option maxHeartbeats 4000000 in
set_option maxRecDepth 100000 in
theorem w_X4_winnerAt_13 {D : va_G} {ay : Nat → ClassId} {ad : Nat → Nat} {p : Program} {l : Launch} {e : Env} {s : State} {m : MethodId} {args : Array Value} {below : List Frame} {meth : Method} {c : Code} {Q : State → Prop} {a1 : Int32} {a2 : Int64} {a4 : Int64} {a7 : Int32} {σ : (Mem × Int64)} {res : Int32} (X : CX D ay p s m args meth c cX4_winnerAt 9 RX4 (some .int) wsX4_winnerAt) (hI : amOK ad) (K : ∀ ls : Array Slot, lv_has ls 9 [(6, .int res)] → GW D (wM ay ad) (AM ad) p l e ({ frames := 2, cells := 0, slots := 0, locals := 49 } : Room) s m args below meth c Q σ (F0 m 69 ls [])) : ∀ (fu : Nat) (a6 : Int32) (a8 : Int32), L_X4_winnerAt_13 a1 a2 a4 a7 σ fu a6 a8 = some res → ∀ ls : Array Slot, lv_has ls 9 [(0, .ref (ad 0)), (1, .int a1), (2, .long a2), (4, .long a4), (6, .int a6), (7, .int a7), (8, .int a8)] → GW D (wM ay ad) (AM ad) p l e ({ frames := 2, cells := 0, slots := 0, locals := 49 } : Room) s m args below meth c Q σ (F0 m 13 ls []) := by
  intro fu
  induction fu with
  | zero =>
    intro a6 a8 hF ls hl
    rw [L_X4_winnerAt_13] at hF
    cases hF
  | succ fu ih =>
    intro a6 a8 hF ls hl
    rw [L_X4_winnerAt_13] at hF
    refine g_iload X dX4_winnerAt_13 (lv_at hl 6 rfl) ?_
    refine g_iload X dX4_winnerAt_15 (lv_at hl 5 rfl) ?_
    refine g_iload_n X dX4_winnerAt_17 rfl (lv_at hl 1 rfl) ?_
    obtain ⟨r18, hr18, hF⟩ := obind hF
    refine k_Si X (As := [.int a1]) (rest := [.int a7, .int a8]) (c_X4_slotsOf hI hr18) (va_cwS 1 X.ts gX4_winnerAt_X4_slotsOf rfl rfl rfl (by decide +kernel) ⟨Nat.le_of_ble_eq_true rfl, Nat.le_of_ble_eq_true rfl⟩) rfl hl.1 rfl (Nat.le_of_ble_eq_true rfl) dX4_winnerAt_18 ?_
    refine g_iadd X dX4_winnerAt_21 ?_
    refine g_icmp_ge (tgt := 69) X dX4_winnerAt_22 (by decide) (fun hc22 => ?_) (fun hc22 => ?_)
    · have hF := ite_t hF hc22
      have e13 := some_inj hF
      subst e13
      exact K ls (lv_sub hl [4] rfl)
    · have hF := ite_f hF hc22
      refine g_aload_n X dX4_winnerAt_25 rfl (lv_at hl 0 rfl) ?_
      refine g_iload X dX4_winnerAt_26 (lv_at hl 6 rfl) ?_
      obtain ⟨r28, hr28, hF⟩ := obind hF
      refine k_Vz X (As := [.int a8]) (rest := []) (c_X4_has hI hr28) (cwV 1 X.ts gX4_winnerAt_X4_has rfl rfl rfl (by decide +kernel) ⟨Nat.le_of_ble_eq_true rfl, Nat.le_of_ble_eq_true rfl⟩) ⟨0, 4, _, _, mo_obj, rfl, rfl⟩ rfl hl.1 rfl (Nat.le_of_ble_eq_true rfl) dX4_winnerAt_28 (fun hz28 => ?_)
      obtain ⟨v31, hR31, hF⟩ := obind hF
      refine g_cut (nM := 9) [(0, .ref (ad 0)), (1, .int a1), (2, .long a2), (4, .long a4), (7, .int a7), (8, .int a8)] (σ) 61 [.int v31] (fun ls hl => ?_) (fun J31 => ?_)
      · refine g_istore (lv' := [(6, _), (0, _), (1, _), (2, _), (4, _), (7, _), (8, _)]) X dX4_winnerAt_61 hl (by decide) rfl (fun ls hl => ?_)
        refine g_iinc (v := a8 + 1) (lv' := [(8, _), (6, _), (0, _), (1, _), (2, _), (4, _), (7, _)]) X dX4_winnerAt_63 hl (k := 6) rfl rfl (by decide) rfl (fun ls hl => ?_)
        refine g_goto (tgt := 13) X dX4_winnerAt_66 (by decide) ?_
        exact ih v31 (a8 + 1) hF ls (lv_sub hl [2, 3, 4, 5, 1, 6, 0] rfl)
      · refine g_if_eq (tgt := 59) X dX4_winnerAt_31 (by decide) (fun hc31 => ?_) (fun hc31 => ?_)
        · have hR31 := ite_t hR31 hc31
          refine g_iload X dX4_winnerAt_59 (lv_at hl 4 rfl) ?_
          have e31 := some_inj hR31
          subst e31
          exact J31 ls (lv_sub hl [0, 1, 2, 3, 5, 6] rfl)
        · have hR31 := ite_f hR31 hc31
          refine g_iload X dX4_winnerAt_34 (lv_at hl 4 rfl) ?_
          refine g_iconst (v := -1) X dX4_winnerAt_36 (by decide) ?_
          refine g_icmp_eq (tgt := 54) X dX4_winnerAt_37 (by decide) (fun hc37 => ?_) (fun hc37 => ?_)
          · have hR31 := ite_t hR31 hc37
            refine g_iload X dX4_winnerAt_54 (lv_at hl 6 rfl) ?_
            refine g_goto (tgt := 61) X dX4_winnerAt_56 (by decide) ?_
            have e31 := some_inj hR31
            subst e31
            exact J31 ls (lv_sub hl [0, 1, 2, 3, 5, 6] rfl)
          · have hR31 := ite_f hR31 hc37
            refine g_aload_n X dX4_winnerAt_40 rfl (lv_at hl 0 rfl) ?_
            refine g_iload X dX4_winnerAt_41 (lv_at hl 6 rfl) ?_
            refine g_iload X dX4_winnerAt_43 (lv_at hl 4 rfl) ?_
            refine g_lload_n X dX4_winnerAt_45 rfl (lv_at hl 2 rfl) ?_
            refine g_lload X dX4_winnerAt_46 (lv_at hl 3 rfl) ?_
            obtain ⟨r48, hr48, hR31⟩ := obind hR31
            refine k_Vz X (As := [.int a8, .int a6, .long a2, .long a4]) (rest := []) (c_X4_isAhead hI hr48) (cwV 4 X.ts gX4_winnerAt_X4_isAhead rfl rfl rfl (by decide +kernel) ⟨Nat.le_of_ble_eq_true rfl, Nat.le_of_ble_eq_true rfl⟩) ⟨0, 4, _, _, mo_obj, rfl, rfl⟩ rfl hl.1 rfl (Nat.le_of_ble_eq_true rfl) dX4_winnerAt_48 (fun hz48 => ?_)
            refine g_if_eq (tgt := 59) X dX4_winnerAt_51 (by decide) (fun hc51 => ?_) (fun hc51 => ?_)
            · have hR31 := ite_t hR31 hc51
              refine g_iload X dX4_winnerAt_59 (lv_at hl 4 rfl) ?_
              have e31 := some_inj hR31
              subst e31
              exact J31 ls (lv_sub hl [0, 1, 2, 3, 5, 6] rfl)
            · have hR31 := ite_f hR31 hc51
              refine g_iload X dX4_winnerAt_54 (lv_at hl 6 rfl) ?_
              refine g_goto (tgt := 61) X dX4_winnerAt_56 (by decide) ?_
              have e31 := some_inj hR31
              subst e31
              exact J31 ls (lv_sub hl [0, 1, 2, 3, 5, 6] rfl)
def F_X4_winnerAt (a1 : Int32) (a2 : Int64) (a4 : Int64) (σ : (Mem × Int64)) : Option Int32 := Option.bind (F_X4_firstOf a1) (fun r4 => Option.bind (L_X4_winnerAt_13 a1 a2 a4 r4 σ FU (-1 : Int32) r4) (fun v13 : Int32 => some v13))
set_option maxHeartbeats 4000000 in
set_option maxRecDepth 100000 in
theorem c_X4_winnerAt {l : Launch} {D : va_G} {ay : Nat → ClassId} {ad : Nat → Nat} {a1 : Int32} {a2 : Int64} {a4 : Int64} {σ : (Mem × Int64)} {res : Int32} (hI : amOK ad) (hF : F_X4_winnerAt a1 a2 a4 σ = some res) : Met l yX4_winnerAt wsX4_winnerAt ({ frames := 2, cells := 0, slots := 0, locals := 49 } : Room) (va_Pc [.ref (ad 0), .int a1, .long a2, .long a4] (PP D ay (wM ay ad σ))) (va_Qi (pP res σ) (fun τ => PP D ay (wM ay ad τ)) (AM ad)) 0 0 (AM ad) := by
  refine g_start (wd := wM ay ad) (A := AM ad) (own := RX4) (mL := 9) (rt := (some .int)) (by decide) rfl rfl (Nat.le_of_ble_eq_true rfl) ?_
  intro p e s m below meth c ls X hl
  have hl : lv_has ls 9 [(0, .ref (ad 0)), (1, .int a1), (2, .long a2), (4, .long a4)] := hl
  rw [F_X4_winnerAt] at hF
  refine g_iconst (v := -1) X dX4_winnerAt_0 (by decide) ?_
  refine g_istore (lv' := [(6, _), (0, _), (1, _), (2, _), (4, _)]) X dX4_winnerAt_1 hl (by decide) rfl (fun ls hl => ?_)
  refine g_iload_n X dX4_winnerAt_3 rfl (lv_at hl 2 rfl) ?_
  obtain ⟨r4, hr4, hF⟩ := obind hF
  refine k_Si X (As := [.int a1]) (rest := []) (c_X4_firstOf hI hr4) (va_cwS 1 X.ts gX4_winnerAt_X4_firstOf rfl rfl rfl (by decide +kernel) ⟨Nat.le_of_ble_eq_true rfl, Nat.le_of_ble_eq_true rfl⟩) rfl hl.1 rfl (Nat.le_of_ble_eq_true rfl) dX4_winnerAt_4 ?_
  refine g_istore (lv' := [(7, _), (6, _), (0, _), (1, _), (2, _), (4, _)]) X dX4_winnerAt_7 hl (by decide) rfl (fun ls hl => ?_)
  refine g_iload X dX4_winnerAt_9 (lv_at hl 0 rfl) ?_
  refine g_istore (lv' := [(8, _), (7, _), (6, _), (0, _), (1, _), (2, _), (4, _)]) X dX4_winnerAt_11 hl (by decide) rfl (fun ls hl => ?_)
  obtain ⟨v13, hL13, hF⟩ := obind hF
  refine w_X4_winnerAt_13 X hI (fun ls hl => ?_) FU (-1 : Int32) r4 hL13 ls (lv_sub hl [3, 4, 5, 6, 2, 1, 0] rfl)
  refine g_iload X dX4_winnerAt_69 (lv_at hl 0 rfl) ?_
  exact g_iret X (pP_mk (some_inj hF)) dX4_winnerAt_71
def F_X4_winnerOf (a1 : Int32) (σ : (Mem × Int64)) : Option Int32 := Option.bind (F_X4_winnerAt a1 (0 : Int64) (1 : Int64) σ) (fun r4 => some r4)
set_option maxHeartbeats 4000000 in
set_option maxRecDepth 100000 in
theorem c_X4_winnerOf {l : Launch} {D : va_G} {ay : Nat → ClassId} {ad : Nat → Nat} {a1 : Int32} {σ : (Mem × Int64)} {res : Int32} (hI : amOK ad) (hF : F_X4_winnerOf a1 σ = some res) : Met l yX4_winnerOf wsX4_winnerOf ({ frames := 3, cells := 0, slots := 0, locals := 77 } : Room) (va_Pc [.ref (ad 0), .int a1] (PP D ay (wM ay ad σ))) (va_Qi (pP res σ) (fun τ => PP D ay (wM ay ad τ)) (AM ad)) 0 0 (AM ad) := by
  refine g_start (wd := wM ay ad) (A := AM ad) (own := RX4) (mL := 2) (rt := (some .int)) (by decide) rfl rfl (Nat.le_of_ble_eq_true rfl) ?_
  intro p e s m below meth c ls X hl
  have hl : lv_has ls 2 [(0, .ref (ad 0)), (1, .int a1)] := hl
  rw [F_X4_winnerOf] at hF
  refine g_aload_n X dX4_winnerOf_0 rfl (lv_at hl 0 rfl) ?_
  refine g_iload_n X dX4_winnerOf_1 rfl (lv_at hl 1 rfl) ?_
  refine g_lconst (v := 0) X dX4_winnerOf_2 (by decide) ?_
  refine g_lconst (v := 1) X dX4_winnerOf_3 (by decide) ?_
  obtain ⟨r4, hr4, hF⟩ := obind hF
  refine k_Vi X (As := [.int a1, .long (0 : Int64), .long (1 : Int64)]) (rest := []) (c_X4_winnerAt hI hr4) (cwV 3 X.ts gX4_winnerOf_X4_winnerAt rfl rfl rfl (by decide +kernel) ⟨Nat.le_of_ble_eq_true rfl, Nat.le_of_ble_eq_true rfl⟩) ⟨0, 4, _, _, mo_obj, rfl, rfl⟩ rfl hl.1 rfl (Nat.le_of_ble_eq_true rfl) dX4_winnerOf_4 ?_
  exact g_iret X (pP_mk (some_inj hF)) dX4_winnerOf_7
theorem in_X4_layNext_X4 : ∀ w ∈ wsX40, w ∈ wsX4_layNext := by decide +kernel
def L_X4_layNext_23 (a1 : Int32) (a2 : Int32) (a3 : Int32) : Nat → Int32 → (Mem × Int64) → Option (Mem × Int64)
  | 0, _, _ => none
  | fu + 1, a4, σ => Option.bind (F_X4_slotsOf a1) (fun r27 => (if (a3 + r27) ≤ a4 then some σ else (if a2 = (-1 : Int32) then some σ else Option.bind (F_X4_has a4 σ) (fun r42 => (Option.bind (if r42 = 0 then some σ else Option.bind (F_X4_at a4) (fun r54 => if inb (r54 + (2 : Int32)) 84 then (Option.bind (F_X4_at a2) (fun r65 => if inb (r65 + (2 : Int32)) 84 then ((if (σ.1 1 ((r54 + (2 : Int32)).toNatClampNeg)) ≤ (σ.1 1 ((r65 + (2 : Int32)).toNatClampNeg)) then some σ else Option.bind (F_X4_at a2) (fun r79 => if inb (r79 + (1 : Int32)) 84 then (Option.bind (F_X4_at a4) (fun r91 => if inb (r91 + (1 : Int32)) 84 then (Option.bind (F_X4_at a4) (fun r106 => if inb (r106 + (2 : Int32)) 84 then (Option.bind (F_X4_at a2) (fun r117 => if inb (r117 + (2 : Int32)) 84 then ((Option.bind (if ¬ (σ.1 0 8) = (-1 : Int32) then some (((((σ.1 1 ((r79 + (1 : Int32)).toNatClampNeg)) - (σ.1 1 ((r91 + (1 : Int32)).toNatClampNeg))).toInt64) * ((σ.1 0 7).toInt64)) - (((σ.1 0 6).toInt64) * (((σ.1 1 ((r106 + (2 : Int32)).toNatClampNeg)) - (σ.1 1 ((r117 + (2 : Int32)).toNatClampNeg))).toInt64))) else some (-1 : Int64)) (fun v131 : Int64 => (Option.bind (if (lg_cmp v131 (0 : Int64)) < 0 then some (1 : Int32) else (if ¬ (lg_cmp v131 (0 : Int64)) = 0 then some (0 : Int32) else Option.bind (F_X4_isAhead a4 (σ.1 0 8) (((σ.1 1 ((r79 + (1 : Int32)).toNatClampNeg)) - (σ.1 1 ((r91 + (1 : Int32)).toNatClampNeg))).toInt64) (((σ.1 1 ((r106 + (2 : Int32)).toNatClampNeg)) - (σ.1 1 ((r117 + (2 : Int32)).toNatClampNeg))).toInt64) σ) (fun r188 => (if r188 = 0 then some (0 : Int32) else some (1 : Int32))))) (fun v165 : Int32 => (Option.bind (if v165 = 0 then some (σ.1 0 8) else some a4) (fun v204 : Int32 => (Option.bind (if v165 = 0 then some ((up2 σ.1 0 8 v204) 0 6) else some ((σ.1 1 ((r79 + (1 : Int32)).toNatClampNeg)) - (σ.1 1 ((r91 + (1 : Int32)).toNatClampNeg)))) (fun v222 : Int32 => (Option.bind (if v165 = 0 then some ((up2 (up2 σ.1 0 8 v204) 0 6 v222) 0 7) else some ((σ.1 1 ((r106 + (2 : Int32)).toNatClampNeg)) - (σ.1 1 ((r117 + (2 : Int32)).toNatClampNeg)))) (fun v240 : Int32 => some (up2 (up2 (up2 σ.1 0 8 v204) 0 6 v222) 0 7 v240, σ.2)))))))))))) else none)) else none)) else none)) else none))) else none)) else none)) (fun v45 : (Mem × Int64) => L_X4_layNext_23 a1 a2 a3 fu (a4 + 1) v45))))))
set_option maxHeartbeats 4000000 in
set_option maxRecDepth 100000 in
theorem w_X4_layNext_23 {D : va_G} {ay : Nat → ClassId} {ad : Nat → Nat} {p : Program} {l : Launch} {e : Env} {s : State} {m : MethodId} {args : Array Value} {below : List Frame} {meth : Method} {c : Code} {a1 : Int32} {a2 : Int32} {a3 : Int32} {res : (Mem × Int64)} (X : CX D ay p s m args meth c cX4_layNext 10 RX4 none wsX4_layNext) (hI : amOK ad) : ∀ (fu : Nat) (a4 : Int32) (σ : (Mem × Int64)), L_X4_layNext_23 a1 a2 a3 fu a4 σ = some res → ∀ ls : Array Slot, lv_has ls 10 [(0, .ref (ad 0)), (1, .int a1), (2, .int a2), (3, .int a3), (4, .int a4)] → GW D (wM ay ad) (AM ad) p l e ({ frames := 2, cells := 0, slots := 0, locals := 49 } : Room) s m args below meth c (MQ below (va_Qv (pV res) (fun τ => PP D ay (wM ay ad τ)) (AM ad)) args s 0 0 (AM ad)) σ (F0 m 23 ls []) := by
  intro fu
  induction fu with
  | zero =>
    intro a4 σ hF ls hl
    rw [L_X4_layNext_23] at hF
    cases hF
  | succ fu ih =>
    intro a4 σ hF ls hl
    rw [L_X4_layNext_23] at hF
    refine g_iload X dX4_layNext_23 (lv_at hl 4 rfl) ?_
    refine g_iload_n X dX4_layNext_25 rfl (lv_at hl 3 rfl) ?_
    refine g_iload_n X dX4_layNext_26 rfl (lv_at hl 1 rfl) ?_
    obtain ⟨r27, hr27, hF⟩ := obind hF
    refine k_Si X (As := [.int a1]) (rest := [.int a3, .int a4]) (c_X4_slotsOf hI hr27) (va_cwS 1 X.ts gX4_layNext_X4_slotsOf rfl rfl rfl (by decide +kernel) ⟨Nat.le_of_ble_eq_true rfl, Nat.le_of_ble_eq_true rfl⟩) rfl hl.1 rfl (Nat.le_of_ble_eq_true rfl) dX4_layNext_27 ?_
    refine g_iadd X dX4_layNext_30 ?_
    refine g_icmp_ge (tgt := 261) X dX4_layNext_31 (by decide) (fun hc31 => ?_) (fun hc31 => ?_)
    · have hF := ite_t hF hc31
      exact g_vret X (pV_mk (some_inj hF)) dX4_layNext_261
    · have hF := ite_f hF hc31
      refine g_iload_n X dX4_layNext_34 rfl (lv_at hl 2 rfl) ?_
      refine g_iconst (v := -1) X dX4_layNext_35 (by decide) ?_
      refine g_icmp_eq (tgt := 261) X dX4_layNext_36 (by decide) (fun hc36 => ?_) (fun hc36 => ?_)
      · have hF := ite_t hF hc36
        exact g_vret X (pV_mk (some_inj hF)) dX4_layNext_261
      · have hF := ite_f hF hc36
        refine g_aload_n X dX4_layNext_39 rfl (lv_at hl 0 rfl) ?_
        refine g_iload X dX4_layNext_40 (lv_at hl 4 rfl) ?_
        obtain ⟨r42, hr42, hF⟩ := obind hF
        refine k_Vz X (As := [.int a4]) (rest := []) (c_X4_has hI hr42) (cwV 1 X.ts gX4_layNext_X4_has rfl rfl rfl (by decide +kernel) ⟨Nat.le_of_ble_eq_true rfl, Nat.le_of_ble_eq_true rfl⟩) ⟨0, 4, _, _, mo_obj, rfl, rfl⟩ rfl hl.1 rfl (Nat.le_of_ble_eq_true rfl) dX4_layNext_42 (fun hz42 => ?_)
        obtain ⟨v45, hR45, hF⟩ := obind hF
        refine g_cut (nM := 10) [(0, .ref (ad 0)), (1, .int a1), (2, .int a2), (3, .int a3), (4, .int a4)] (v45) 255 [] (fun ls hl => ?_) (fun J45 => ?_)
        · refine g_iinc (v := a4 + 1) (lv' := [(4, _), (0, _), (1, _), (2, _), (3, _)]) X dX4_layNext_255 hl (k := 4) rfl rfl (by decide) rfl (fun ls hl => ?_)
          refine g_goto (tgt := 23) X dX4_layNext_258 (by decide) ?_
          exact ih (a4 + 1) v45 hF ls (lv_sub hl [1, 2, 3, 4, 0] rfl)
        · refine g_if_eq (tgt := 255) X dX4_layNext_45 (by decide) (fun hc45 => ?_) (fun hc45 => ?_)
          · have hR45 := ite_t hR45 hc45
            have e45 := some_inj hR45
            subst e45
            exact J45 ls (lv_sub hl [0, 1, 2, 3, 4] rfl)
          · have hR45 := ite_f hR45 hc45
            refine g_aload_n X dX4_layNext_48 rfl (lv_at hl 0 rfl) ?_
            refine g_get X 0 (mo_obj) in_X4_layNext_X4 rfl 0 (by decide) (X.ts (.fieldLink RX4 7 "LeadTimesModel" "z" "[I") (by decide +kernel)) rfl rfl dX4_layNext_49 ?_
            refine g_iload X dX4_layNext_52 (lv_at hl 4 rfl) ?_
            obtain ⟨r54, hr54, hR45⟩ := obind hR45
            refine k_Si X (As := [.int a4]) (rest := [.ref (ad 1)]) (c_X4_at hI hr54) (va_cwS 1 X.ts gX4_layNext_X4_at rfl rfl rfl (by decide +kernel) ⟨Nat.le_of_ble_eq_true rfl, Nat.le_of_ble_eq_true rfl⟩) rfl hl.1 rfl (Nat.le_of_ble_eq_true rfl) dX4_layNext_54 ?_
            refine g_iconst (v := 2) X dX4_layNext_57 (by decide) ?_
            refine g_iadd X dX4_layNext_58 ?_
            obtain ⟨h59, hR45⟩ := itn hR45
            refine g_iald X 1 (j := (r54 + (2 : Int32)).toNatClampNeg) (mo_arr1) (by first | rfl | decide) (inb_in h59) dX4_layNext_59 ?_
            refine g_aload_n X dX4_layNext_60 rfl (lv_at hl 0 rfl) ?_
            refine g_get X 0 (mo_obj) in_X4_layNext_X4 rfl 0 (by decide) (X.ts (.fieldLink RX4 7 "LeadTimesModel" "z" "[I") (by decide +kernel)) rfl rfl dX4_layNext_61 ?_
            refine g_iload_n X dX4_layNext_64 rfl (lv_at hl 2 rfl) ?_
            obtain ⟨r65, hr65, hR45⟩ := obind hR45
            refine k_Si X (As := [.int a2]) (rest := [.ref (ad 1), .int (σ.1 1 ((r54 + (2 : Int32)).toNatClampNeg))]) (c_X4_at hI hr65) (va_cwS 1 X.ts gX4_layNext_X4_at rfl rfl rfl (by decide +kernel) ⟨Nat.le_of_ble_eq_true rfl, Nat.le_of_ble_eq_true rfl⟩) rfl hl.1 rfl (Nat.le_of_ble_eq_true rfl) dX4_layNext_65 ?_
            refine g_iconst (v := 2) X dX4_layNext_68 (by decide) ?_
            refine g_iadd X dX4_layNext_69 ?_
            obtain ⟨h70, hR45⟩ := itn hR45
            refine g_iald X 1 (j := (r65 + (2 : Int32)).toNatClampNeg) (mo_arr1) (by first | rfl | decide) (inb_in h70) dX4_layNext_70 ?_
            refine g_icmp_le (tgt := 255) X dX4_layNext_71 (by decide) (fun hc71 => ?_) (fun hc71 => ?_)
            · have hR45 := ite_t hR45 hc71
              have e45 := some_inj hR45
              subst e45
              exact J45 ls (lv_sub hl [0, 1, 2, 3, 4] rfl)
            · have hR45 := ite_f hR45 hc71
              refine g_aload_n X dX4_layNext_74 rfl (lv_at hl 0 rfl) ?_
              refine g_get X 0 (mo_obj) in_X4_layNext_X4 rfl 0 (by decide) (X.ts (.fieldLink RX4 7 "LeadTimesModel" "z" "[I") (by decide +kernel)) rfl rfl dX4_layNext_75 ?_
              refine g_iload_n X dX4_layNext_78 rfl (lv_at hl 2 rfl) ?_
              obtain ⟨r79, hr79, hR45⟩ := obind hR45
              refine k_Si X (As := [.int a2]) (rest := [.ref (ad 1)]) (c_X4_at hI hr79) (va_cwS 1 X.ts gX4_layNext_X4_at rfl rfl rfl (by decide +kernel) ⟨Nat.le_of_ble_eq_true rfl, Nat.le_of_ble_eq_true rfl⟩) rfl hl.1 rfl (Nat.le_of_ble_eq_true rfl) dX4_layNext_79 ?_
              refine g_iconst (v := 1) X dX4_layNext_82 (by decide) ?_
              refine g_iadd X dX4_layNext_83 ?_
              obtain ⟨h84, hR45⟩ := itn hR45
              refine g_iald X 1 (j := (r79 + (1 : Int32)).toNatClampNeg) (mo_arr1) (by first | rfl | decide) (inb_in h84) dX4_layNext_84 ?_
              refine g_aload_n X dX4_layNext_85 rfl (lv_at hl 0 rfl) ?_
              refine g_get X 0 (mo_obj) in_X4_layNext_X4 rfl 0 (by decide) (X.ts (.fieldLink RX4 7 "LeadTimesModel" "z" "[I") (by decide +kernel)) rfl rfl dX4_layNext_86 ?_
              refine g_iload X dX4_layNext_89 (lv_at hl 4 rfl) ?_
              obtain ⟨r91, hr91, hR45⟩ := obind hR45
              refine k_Si X (As := [.int a4]) (rest := [.ref (ad 1), .int (σ.1 1 ((r79 + (1 : Int32)).toNatClampNeg))]) (c_X4_at hI hr91) (va_cwS 1 X.ts gX4_layNext_X4_at rfl rfl rfl (by decide +kernel) ⟨Nat.le_of_ble_eq_true rfl, Nat.le_of_ble_eq_true rfl⟩) rfl hl.1 rfl (Nat.le_of_ble_eq_true rfl) dX4_layNext_91 ?_
              refine g_iconst (v := 1) X dX4_layNext_94 (by decide) ?_
              refine g_iadd X dX4_layNext_95 ?_
              obtain ⟨h96, hR45⟩ := itn hR45
              refine g_iald X 1 (j := (r91 + (1 : Int32)).toNatClampNeg) (mo_arr1) (by first | rfl | decide) (inb_in h96) dX4_layNext_96 ?_
              refine g_isub X dX4_layNext_97 ?_
              refine g_istore (lv' := [(5, _), (0, _), (1, _), (2, _), (3, _), (4, _)]) X dX4_layNext_98 hl (by decide) rfl (fun ls hl => ?_)
              refine g_aload_n X dX4_layNext_100 rfl (lv_at hl 1 rfl) ?_
              refine g_get X 0 (mo_obj) in_X4_layNext_X4 rfl 0 (by decide) (X.ts (.fieldLink RX4 7 "LeadTimesModel" "z" "[I") (by decide +kernel)) rfl rfl dX4_layNext_101 ?_
              refine g_iload X dX4_layNext_104 (lv_at hl 5 rfl) ?_
              obtain ⟨r106, hr106, hR45⟩ := obind hR45
              refine k_Si X (As := [.int a4]) (rest := [.ref (ad 1)]) (c_X4_at hI hr106) (va_cwS 1 X.ts gX4_layNext_X4_at rfl rfl rfl (by decide +kernel) ⟨Nat.le_of_ble_eq_true rfl, Nat.le_of_ble_eq_true rfl⟩) rfl hl.1 rfl (Nat.le_of_ble_eq_true rfl) dX4_layNext_106 ?_
              refine g_iconst (v := 2) X dX4_layNext_109 (by decide) ?_
              refine g_iadd X dX4_layNext_110 ?_
              obtain ⟨h111, hR45⟩ := itn hR45
              refine g_iald X 1 (j := (r106 + (2 : Int32)).toNatClampNeg) (mo_arr1) (by first | rfl | decide) (inb_in h111) dX4_layNext_111 ?_
              refine g_aload_n X dX4_layNext_112 rfl (lv_at hl 1 rfl) ?_
              refine g_get X 0 (mo_obj) in_X4_layNext_X4 rfl 0 (by decide) (X.ts (.fieldLink RX4 7 "LeadTimesModel" "z" "[I") (by decide +kernel)) rfl rfl dX4_layNext_113 ?_
              refine g_iload_n X dX4_layNext_116 rfl (lv_at hl 3 rfl) ?_
              obtain ⟨r117, hr117, hR45⟩ := obind hR45
              refine k_Si X (As := [.int a2]) (rest := [.ref (ad 1), .int (σ.1 1 ((r106 + (2 : Int32)).toNatClampNeg))]) (c_X4_at hI hr117) (va_cwS 1 X.ts gX4_layNext_X4_at rfl rfl rfl (by decide +kernel) ⟨Nat.le_of_ble_eq_true rfl, Nat.le_of_ble_eq_true rfl⟩) rfl hl.1 rfl (Nat.le_of_ble_eq_true rfl) dX4_layNext_117 ?_
              refine g_iconst (v := 2) X dX4_layNext_120 (by decide) ?_
              refine g_iadd X dX4_layNext_121 ?_
              obtain ⟨h122, hR45⟩ := itn hR45
              refine g_iald X 1 (j := (r117 + (2 : Int32)).toNatClampNeg) (mo_arr1) (by first | rfl | decide) (inb_in h122) dX4_layNext_122 ?_
              refine g_isub X dX4_layNext_123 ?_
              refine g_istore (lv' := [(6, _), (5, _), (0, _), (1, _), (2, _), (3, _), (4, _)]) X dX4_layNext_124 hl (by decide) rfl (fun ls hl => ?_)
              refine g_aload_n X dX4_layNext_126 rfl (lv_at hl 2 rfl) ?_
              refine g_get X 0 (mo_obj) in_X4_layNext_X4 rfl 8 (by decide) (X.ts (.fieldLink RX4 67 "LeadTimesModel" "nextWho" "I") (by decide +kernel)) rfl rfl dX4_layNext_127 ?_
              refine g_iconst (v := -1) X dX4_layNext_130 (by decide) ?_
              obtain ⟨v131, hR131, hR45⟩ := obind hR45
              refine g_cut (nM := 10) [(0, .ref (ad 0)), (1, .int a1), (2, .int a2), (3, .int a3), (4, .int a4), (5, .int ((σ.1 1 ((r79 + (1 : Int32)).toNatClampNeg)) - (σ.1 1 ((r91 + (1 : Int32)).toNatClampNeg)))), (6, .int ((σ.1 1 ((r106 + (2 : Int32)).toNatClampNeg)) - (σ.1 1 ((r117 + (2 : Int32)).toNatClampNeg))))] (σ) 159 [.long v131] (fun ls hl => ?_) (fun J131 => ?_)
              · refine g_lstore (lv' := [(7, _), (0, _), (1, _), (2, _), (3, _), (4, _), (5, _), (6, _)]) X dX4_layNext_159 hl (by decide) rfl (fun ls hl => ?_)
                refine g_lload X dX4_layNext_161 (lv_at hl 0 rfl) ?_
                refine g_lconst (v := 0) X dX4_layNext_163 (by decide) ?_
                refine g_lcmp X dX4_layNext_164 ?_
                obtain ⟨v165, hR165, hR45⟩ := obind hR45
                refine g_cut (nM := 10) [(0, .ref (ad 0)), (1, .int a1), (2, .int a2), (3, .int a3), (4, .int a4), (5, .int ((σ.1 1 ((r79 + (1 : Int32)).toNatClampNeg)) - (σ.1 1 ((r91 + (1 : Int32)).toNatClampNeg)))), (6, .int ((σ.1 1 ((r106 + (2 : Int32)).toNatClampNeg)) - (σ.1 1 ((r117 + (2 : Int32)).toNatClampNeg))))] (σ) 199 [.int v165] (fun ls hl => ?_) (fun J165 => ?_)
                · refine g_istore (lv' := [(9, _), (0, _), (1, _), (2, _), (3, _), (4, _), (5, _), (6, _)]) X dX4_layNext_199 hl (by decide) rfl (fun ls hl => ?_)
                  refine g_aload_n X dX4_layNext_201 rfl (lv_at hl 1 rfl) ?_
                  refine g_iload X dX4_layNext_202 (lv_at hl 0 rfl) ?_
                  obtain ⟨v204, hR204, hR45⟩ := obind hR45
                  refine g_cut (nM := 10) [(0, .ref (ad 0)), (1, .int a1), (2, .int a2), (3, .int a3), (4, .int a4), (5, .int ((σ.1 1 ((r79 + (1 : Int32)).toNatClampNeg)) - (σ.1 1 ((r91 + (1 : Int32)).toNatClampNeg)))), (6, .int ((σ.1 1 ((r106 + (2 : Int32)).toNatClampNeg)) - (σ.1 1 ((r117 + (2 : Int32)).toNatClampNeg)))), (9, .int v165)] (σ) 216 [.int v204, .ref (ad 0)] (fun ls hl => ?_) (fun J204 => ?_)
                  · refine g_put X (wM_D hI) ((up2 σ.1 0 8 v204, σ.2)) 0 (mo_obj) 8 (set_mo8) tyX4 tyX4_ok nmX4 in_X4_layNext_X4 rfl (by decide) (X.ts (.fieldLink RX4 67 "LeadTimesModel" "nextWho" "I") (by decide +kernel)) rfl rfl rfl rfl rfl (Nat.le_of_ble_eq_true rfl) dX4_layNext_216 ?_
                    refine g_aload_n X dX4_layNext_219 rfl (lv_at hl 0 rfl) ?_
                    refine g_iload X dX4_layNext_220 (lv_at hl 7 rfl) ?_
                    obtain ⟨v222, hR222, hR45⟩ := obind hR45
                    refine g_cut (nM := 10) [(0, .ref (ad 0)), (1, .int a1), (2, .int a2), (3, .int a3), (4, .int a4), (6, .int ((σ.1 1 ((r106 + (2 : Int32)).toNatClampNeg)) - (σ.1 1 ((r117 + (2 : Int32)).toNatClampNeg)))), (9, .int v165)] ((up2 σ.1 0 8 v204, σ.2)) 234 [.int v222, .ref (ad 0)] (fun ls hl => ?_) (fun J222 => ?_)
                    · refine g_put X (wM_D hI) ((up2 (up2 σ.1 0 8 v204) 0 6 v222, σ.2)) 0 (mo_obj) 6 (set_mo6) tyX4 tyX4_ok nmX4 in_X4_layNext_X4 rfl (by decide) (X.ts (.fieldLink RX4 70 "LeadTimesModel" "nextA" "I") (by decide +kernel)) rfl rfl rfl rfl rfl (Nat.le_of_ble_eq_true rfl) dX4_layNext_234 ?_
                      refine g_aload_n X dX4_layNext_237 rfl (lv_at hl 0 rfl) ?_
                      refine g_iload X dX4_layNext_238 (lv_at hl 6 rfl) ?_
                      obtain ⟨v240, hR240, hR45⟩ := obind hR45
                      refine g_cut (nM := 10) [(0, .ref (ad 0)), (1, .int a1), (2, .int a2), (3, .int a3), (4, .int a4)] ((up2 (up2 σ.1 0 8 v204) 0 6 v222, σ.2)) 252 [.int v240, .ref (ad 0)] (fun ls hl => ?_) (fun J240 => ?_)
                      · refine g_put X (wM_D hI) ((up2 (up2 (up2 σ.1 0 8 v204) 0 6 v222) 0 7 v240, σ.2)) 0 (mo_obj) 7 (set_mo7) tyX4 tyX4_ok nmX4 in_X4_layNext_X4 rfl (by decide) (X.ts (.fieldLink RX4 73 "LeadTimesModel" "nextB" "I") (by decide +kernel)) rfl rfl rfl rfl rfl (Nat.le_of_ble_eq_true rfl) dX4_layNext_252 ?_
                        have e45 := some_inj hR45
                        subst e45
                        exact J45 ls (lv_sub hl [0, 1, 2, 3, 4] rfl)
                      · refine g_if_eq (tgt := 248) X dX4_layNext_240 (by decide) (fun hc240 => ?_) (fun hc240 => ?_)
                        · have hR240 := ite_t hR240 hc240
                          refine g_aload_n X dX4_layNext_248 rfl (lv_at hl 0 rfl) ?_
                          refine g_get X 0 (mo_obj) in_X4_layNext_X4 rfl 7 (by decide) (X.ts (.fieldLink RX4 73 "LeadTimesModel" "nextB" "I") (by decide +kernel)) rfl rfl dX4_layNext_249 ?_
                          have e240 := some_inj hR240
                          subst e240
                          exact J240 ls (lv_sub hl [0, 1, 2, 3, 4] rfl)
                        · have hR240 := ite_f hR240 hc240
                          refine g_iload X dX4_layNext_243 (lv_at hl 5 rfl) ?_
                          refine g_goto (tgt := 252) X dX4_layNext_245 (by decide) ?_
                          have e240 := some_inj hR240
                          subst e240
                          exact J240 ls (lv_sub hl [0, 1, 2, 3, 4] rfl)
                    · refine g_if_eq (tgt := 230) X dX4_layNext_222 (by decide) (fun hc222 => ?_) (fun hc222 => ?_)
                      · have hR222 := ite_t hR222 hc222
                        refine g_aload_n X dX4_layNext_230 rfl (lv_at hl 0 rfl) ?_
                        refine g_get X 0 (mo_obj) in_X4_layNext_X4 rfl 6 (by decide) (X.ts (.fieldLink RX4 70 "LeadTimesModel" "nextA" "I") (by decide +kernel)) rfl rfl dX4_layNext_231 ?_
                        have e222 := some_inj hR222
                        subst e222
                        exact J222 ls (lv_sub hl [0, 1, 2, 3, 4, 6, 7] rfl)
                      · have hR222 := ite_f hR222 hc222
                        refine g_iload X dX4_layNext_225 (lv_at hl 5 rfl) ?_
                        refine g_goto (tgt := 234) X dX4_layNext_227 (by decide) ?_
                        have e222 := some_inj hR222
                        subst e222
                        exact J222 ls (lv_sub hl [0, 1, 2, 3, 4, 6, 7] rfl)
                  · refine g_if_eq (tgt := 212) X dX4_layNext_204 (by decide) (fun hc204 => ?_) (fun hc204 => ?_)
                    · have hR204 := ite_t hR204 hc204
                      refine g_aload_n X dX4_layNext_212 rfl (lv_at hl 1 rfl) ?_
                      refine g_get X 0 (mo_obj) in_X4_layNext_X4 rfl 8 (by decide) (X.ts (.fieldLink RX4 67 "LeadTimesModel" "nextWho" "I") (by decide +kernel)) rfl rfl dX4_layNext_213 ?_
                      have e204 := some_inj hR204
                      subst e204
                      exact J204 ls (lv_sub hl [1, 2, 3, 4, 5, 6, 7, 0] rfl)
                    · have hR204 := ite_f hR204 hc204
                      refine g_iload X dX4_layNext_207 (lv_at hl 5 rfl) ?_
                      refine g_goto (tgt := 216) X dX4_layNext_209 (by decide) ?_
                      have e204 := some_inj hR204
                      subst e204
                      exact J204 ls (lv_sub hl [1, 2, 3, 4, 5, 6, 7, 0] rfl)
                · refine g_if_lt (tgt := 194) X dX4_layNext_165 (by decide) (fun hc165 => ?_) (fun hc165 => ?_)
                  · have hR165 := ite_t hR165 hc165
                    refine g_iconst (v := 1) X dX4_layNext_194 (by decide) ?_
                    refine g_goto (tgt := 199) X dX4_layNext_195 (by decide) ?_
                    have e165 := some_inj hR165
                    subst e165
                    exact J165 ls (lv_sub hl [1, 2, 3, 4, 5, 6, 7] rfl)
                  · have hR165 := ite_f hR165 hc165
                    refine g_lload X dX4_layNext_168 (lv_at hl 0 rfl) ?_
                    refine g_lconst (v := 0) X dX4_layNext_170 (by decide) ?_
                    refine g_lcmp X dX4_layNext_171 ?_
                    refine g_if_ne (tgt := 198) X dX4_layNext_172 (by decide) (fun hc172 => ?_) (fun hc172 => ?_)
                    · have hR165 := ite_t hR165 hc172
                      refine g_iconst (v := 0) X dX4_layNext_198 (by decide) ?_
                      have e165 := some_inj hR165
                      subst e165
                      exact J165 ls (lv_sub hl [1, 2, 3, 4, 5, 6, 7] rfl)
                    · have hR165 := ite_n hR165 hc172
                      refine g_aload_n X dX4_layNext_175 rfl (lv_at hl 1 rfl) ?_
                      refine g_iload X dX4_layNext_176 (lv_at hl 5 rfl) ?_
                      refine g_aload_n X dX4_layNext_178 rfl (lv_at hl 1 rfl) ?_
                      refine g_get X 0 (mo_obj) in_X4_layNext_X4 rfl 8 (by decide) (X.ts (.fieldLink RX4 67 "LeadTimesModel" "nextWho" "I") (by decide +kernel)) rfl rfl dX4_layNext_179 ?_
                      refine g_iload X dX4_layNext_182 (lv_at hl 6 rfl) ?_
                      refine g_i2l X dX4_layNext_184 ?_
                      refine g_iload X dX4_layNext_185 (lv_at hl 7 rfl) ?_
                      refine g_i2l X dX4_layNext_187 ?_
                      obtain ⟨r188, hr188, hR165⟩ := obind hR165
                      refine k_Vz X (As := [.int a4, .int (σ.1 0 8), .long (((σ.1 1 ((r79 + (1 : Int32)).toNatClampNeg)) - (σ.1 1 ((r91 + (1 : Int32)).toNatClampNeg))).toInt64), .long (((σ.1 1 ((r106 + (2 : Int32)).toNatClampNeg)) - (σ.1 1 ((r117 + (2 : Int32)).toNatClampNeg))).toInt64)]) (rest := []) (c_X4_isAhead hI hr188) (cwV 4 X.ts gX4_layNext_X4_isAhead rfl rfl rfl (by decide +kernel) ⟨Nat.le_of_ble_eq_true rfl, Nat.le_of_ble_eq_true rfl⟩) ⟨0, 4, _, _, mo_obj, rfl, rfl⟩ rfl hl.1 rfl (Nat.le_of_ble_eq_true rfl) dX4_layNext_188 (fun hz188 => ?_)
                      refine g_if_eq (tgt := 198) X dX4_layNext_191 (by decide) (fun hc191 => ?_) (fun hc191 => ?_)
                      · have hR165 := ite_t hR165 hc191
                        refine g_iconst (v := 0) X dX4_layNext_198 (by decide) ?_
                        have e165 := some_inj hR165
                        subst e165
                        exact J165 ls (lv_sub hl [1, 2, 3, 4, 5, 6, 7] rfl)
                      · have hR165 := ite_f hR165 hc191
                        refine g_iconst (v := 1) X dX4_layNext_194 (by decide) ?_
                        refine g_goto (tgt := 199) X dX4_layNext_195 (by decide) ?_
                        have e165 := some_inj hR165
                        subst e165
                        exact J165 ls (lv_sub hl [1, 2, 3, 4, 5, 6, 7] rfl)
              · refine g_icmp_ne (tgt := 140) X dX4_layNext_131 (by decide) (fun hc131 => ?_) (fun hc131 => ?_)
                · have hR131 := ite_t hR131 hc131
                  refine g_iload X dX4_layNext_140 (lv_at hl 1 rfl) ?_
                  refine g_i2l X dX4_layNext_142 ?_
                  refine g_aload_n X dX4_layNext_143 rfl (lv_at hl 2 rfl) ?_
                  refine g_get X 0 (mo_obj) in_X4_layNext_X4 rfl 7 (by decide) (X.ts (.fieldLink RX4 73 "LeadTimesModel" "nextB" "I") (by decide +kernel)) rfl rfl dX4_layNext_144 ?_
                  refine g_i2l X dX4_layNext_147 ?_
                  refine g_lmul X dX4_layNext_148 ?_
                  refine g_aload_n X dX4_layNext_149 rfl (lv_at hl 2 rfl) ?_
                  refine g_get X 0 (mo_obj) in_X4_layNext_X4 rfl 6 (by decide) (X.ts (.fieldLink RX4 70 "LeadTimesModel" "nextA" "I") (by decide +kernel)) rfl rfl dX4_layNext_150 ?_
                  refine g_i2l X dX4_layNext_153 ?_
                  refine g_iload X dX4_layNext_154 (lv_at hl 0 rfl) ?_
                  refine g_i2l X dX4_layNext_156 ?_
                  refine g_lmul X dX4_layNext_157 ?_
                  refine g_lsub X dX4_layNext_158 ?_
                  have e131 := some_inj hR131
                  subst e131
                  exact J131 ls (lv_sub hl [2, 3, 4, 5, 6, 1, 0] rfl)
                · have hR131 := ite_n hR131 hc131
                  refine g_ldc2 X dX4_layNext_134 (X.ts (.constantLong RX4 76 (-1)) (by decide +kernel)) ?_
                  refine g_goto (tgt := 159) X dX4_layNext_137 (by decide) ?_
                  have e131 := some_inj hR131
                  subst e131
                  exact J131 ls (lv_sub hl [2, 3, 4, 5, 6, 1, 0] rfl)
def F_X4_layNext (a1 : Int32) (a2 : Int32) (σ : (Mem × Int64)) : Option (Mem × Int64) := Option.bind (F_X4_firstOf a1) (fun r1 => L_X4_layNext_23 a1 a2 r1 FU r1 (up2 (up2 (up2 σ.1 0 8 (-1 : Int32)) 0 6 (0 : Int32)) 0 7 (0 : Int32), σ.2))
set_option maxHeartbeats 4000000 in
set_option maxRecDepth 100000 in
theorem c_X4_layNext {l : Launch} {D : va_G} {ay : Nat → ClassId} {ad : Nat → Nat} {a1 : Int32} {a2 : Int32} {σ : (Mem × Int64)} {res : (Mem × Int64)} (hI : amOK ad) (hF : F_X4_layNext a1 a2 σ = some res) : Met l yX4_layNext wsX4_layNext ({ frames := 2, cells := 0, slots := 0, locals := 49 } : Room) (va_Pc [.ref (ad 0), .int a1, .int a2] (PP D ay (wM ay ad σ))) (va_Qv (pV res) (fun τ => PP D ay (wM ay ad τ)) (AM ad)) 0 0 (AM ad) := by
  refine g_start (wd := wM ay ad) (A := AM ad) (own := RX4) (mL := 10) (rt := none) (by decide) rfl rfl (Nat.le_of_ble_eq_true rfl) ?_
  intro p e s m below meth c ls X hl
  have hl : lv_has ls 10 [(0, .ref (ad 0)), (1, .int a1), (2, .int a2)] := hl
  rw [F_X4_layNext] at hF
  refine g_iload_n X dX4_layNext_0 rfl (lv_at hl 1 rfl) ?_
  obtain ⟨r1, hr1, hF⟩ := obind hF
  refine k_Si X (As := [.int a1]) (rest := []) (c_X4_firstOf hI hr1) (va_cwS 1 X.ts gX4_layNext_X4_firstOf rfl rfl rfl (by decide +kernel) ⟨Nat.le_of_ble_eq_true rfl, Nat.le_of_ble_eq_true rfl⟩) rfl hl.1 rfl (Nat.le_of_ble_eq_true rfl) dX4_layNext_1 ?_
  refine g_istore_n (lv' := [(3, _), (0, _), (1, _), (2, _)]) X dX4_layNext_4 rfl hl (by decide) rfl (fun ls hl => ?_)
  refine g_aload_n X dX4_layNext_5 rfl (lv_at hl 1 rfl) ?_
  refine g_iconst (v := -1) X dX4_layNext_6 (by decide) ?_
  refine g_put X (wM_D hI) ((up2 σ.1 0 8 (-1 : Int32), σ.2)) 0 (mo_obj) 8 (set_mo8) tyX4 tyX4_ok nmX4 in_X4_layNext_X4 rfl (by decide) (X.ts (.fieldLink RX4 67 "LeadTimesModel" "nextWho" "I") (by decide +kernel)) rfl rfl rfl rfl rfl (Nat.le_of_ble_eq_true rfl) dX4_layNext_7 ?_
  refine g_aload_n X dX4_layNext_10 rfl (lv_at hl 1 rfl) ?_
  refine g_iconst (v := 0) X dX4_layNext_11 (by decide) ?_
  refine g_put X (wM_D hI) ((up2 (up2 σ.1 0 8 (-1 : Int32)) 0 6 (0 : Int32), σ.2)) 0 (mo_obj) 6 (set_mo6) tyX4 tyX4_ok nmX4 in_X4_layNext_X4 rfl (by decide) (X.ts (.fieldLink RX4 70 "LeadTimesModel" "nextA" "I") (by decide +kernel)) rfl rfl rfl rfl rfl (Nat.le_of_ble_eq_true rfl) dX4_layNext_12 ?_
  refine g_aload_n X dX4_layNext_15 rfl (lv_at hl 1 rfl) ?_
  refine g_iconst (v := 0) X dX4_layNext_16 (by decide) ?_
  refine g_put X (wM_D hI) ((up2 (up2 (up2 σ.1 0 8 (-1 : Int32)) 0 6 (0 : Int32)) 0 7 (0 : Int32), σ.2)) 0 (mo_obj) 7 (set_mo7) tyX4 tyX4_ok nmX4 in_X4_layNext_X4 rfl (by decide) (X.ts (.fieldLink RX4 73 "LeadTimesModel" "nextB" "I") (by decide +kernel)) rfl rfl rfl rfl rfl (Nat.le_of_ble_eq_true rfl) dX4_layNext_17 ?_
  refine g_iload_n X dX4_layNext_20 rfl (lv_at hl 0 rfl) ?_
  refine g_istore (lv' := [(4, _), (3, _), (0, _), (1, _), (2, _)]) X dX4_layNext_21 hl (by decide) rfl (fun ls hl => ?_)
  exact w_X4_layNext_23 X hI FU r1 (up2 (up2 (up2 σ.1 0 8 (-1 : Int32)) 0 6 (0 : Int32)) 0 7 (0 : Int32), σ.2) hF ls (lv_sub hl [2, 3, 4, 1, 0] rfl)
theorem in_X4_turnsOf_X4 : ∀ w ∈ wsX40, w ∈ wsX4_turnsOf := by decide +kernel
def L_X4_turnsOf_16 (a1 : Int32) (a2 : Int32) : Nat → Int32 → (Mem × Int64) → Option (Int32 × (Mem × Int64))
  | 0, _, _ => none
  | fu + 1, a3, σ => (if (σ.1 0 8) = (-1 : Int32) then some (a3, σ) else (if 0 < (lg_cmp ((σ.1 0 6).toInt64) (a2.toInt64 * ((σ.1 0 7).toInt64))) then some (a3, σ) else Option.bind (F_X4_layNext a1 (σ.1 0 8) σ) (fun r54 => L_X4_turnsOf_16 a1 a2 fu (a3 + 1) r54)))
set_option maxHeartbeats 4000000 in
set_option maxRecDepth 100000 in
theorem w_X4_turnsOf_16 {D : va_G} {ay : Nat → ClassId} {ad : Nat → Nat} {p : Program} {l : Launch} {e : Env} {s : State} {m : MethodId} {args : Array Value} {below : List Frame} {meth : Method} {c : Code} {Q : State → Prop} {a1 : Int32} {a2 : Int32} {res : Int32 × (Mem × Int64)} (X : CX D ay p s m args meth c cX4_turnsOf 5 RX4 (some .int) wsX4_turnsOf) (hI : amOK ad) (K : ∀ ls : Array Slot, lv_has ls 5 [(3, .int res.1)] → GW D (wM ay ad) (AM ad) p l e ({ frames := 4, cells := 0, slots := 0, locals := 98 } : Room) s m args below meth c Q res.2 (F0 m 60 ls [])) : ∀ (fu : Nat) (a3 : Int32) (σ : (Mem × Int64)), L_X4_turnsOf_16 a1 a2 fu a3 σ = some res → ∀ ls : Array Slot, lv_has ls 5 [(0, .ref (ad 0)), (1, .int a1), (2, .int a2), (3, .int a3)] → GW D (wM ay ad) (AM ad) p l e ({ frames := 4, cells := 0, slots := 0, locals := 98 } : Room) s m args below meth c Q σ (F0 m 16 ls []) := by
  intro fu
  induction fu with
  | zero =>
    intro a3 σ hF ls hl
    rw [L_X4_turnsOf_16] at hF
    cases hF
  | succ fu ih =>
    intro a3 σ hF ls hl
    rw [L_X4_turnsOf_16] at hF
    refine g_aload_n X dX4_turnsOf_16 rfl (lv_at hl 0 rfl) ?_
    refine g_get X 0 (mo_obj) in_X4_turnsOf_X4 rfl 8 (by decide) (X.ts (.fieldLink RX4 67 "LeadTimesModel" "nextWho" "I") (by decide +kernel)) rfl rfl dX4_turnsOf_17 ?_
    refine g_iconst (v := -1) X dX4_turnsOf_20 (by decide) ?_
    refine g_icmp_eq (tgt := 60) X dX4_turnsOf_21 (by decide) (fun hc21 => ?_) (fun hc21 => ?_)
    · have hF := ite_t hF hc21
      have e16 := some_inj hF
      subst e16
      exact K ls (lv_sub hl [3] rfl)
    · have hF := ite_f hF hc21
      refine g_aload_n X dX4_turnsOf_24 rfl (lv_at hl 0 rfl) ?_
      refine g_get X 0 (mo_obj) in_X4_turnsOf_X4 rfl 6 (by decide) (X.ts (.fieldLink RX4 70 "LeadTimesModel" "nextA" "I") (by decide +kernel)) rfl rfl dX4_turnsOf_25 ?_
      refine g_i2l X dX4_turnsOf_28 ?_
      refine g_iload_n X dX4_turnsOf_29 rfl (lv_at hl 2 rfl) ?_
      refine g_i2l X dX4_turnsOf_30 ?_
      refine g_aload_n X dX4_turnsOf_31 rfl (lv_at hl 0 rfl) ?_
      refine g_get X 0 (mo_obj) in_X4_turnsOf_X4 rfl 7 (by decide) (X.ts (.fieldLink RX4 73 "LeadTimesModel" "nextB" "I") (by decide +kernel)) rfl rfl dX4_turnsOf_32 ?_
      refine g_i2l X dX4_turnsOf_35 ?_
      refine g_lmul X dX4_turnsOf_36 ?_
      refine g_lcmp X dX4_turnsOf_37 ?_
      refine g_if_gt (tgt := 60) X dX4_turnsOf_38 (by decide) (fun hc38 => ?_) (fun hc38 => ?_)
      · have hF := ite_t hF hc38
        have e16 := some_inj hF
        subst e16
        exact K ls (lv_sub hl [3] rfl)
      · have hF := ite_f hF hc38
        refine g_iinc (v := a3 + 1) (lv' := [(3, _), (0, _), (1, _), (2, _)]) X dX4_turnsOf_41 hl (k := 3) rfl rfl (by decide) rfl (fun ls hl => ?_)
        refine g_aload_n X dX4_turnsOf_44 rfl (lv_at hl 1 rfl) ?_
        refine g_get X 0 (mo_obj) in_X4_turnsOf_X4 rfl 8 (by decide) (X.ts (.fieldLink RX4 67 "LeadTimesModel" "nextWho" "I") (by decide +kernel)) rfl rfl dX4_turnsOf_45 ?_
        refine g_istore (lv' := [(4, _), (3, _), (0, _), (1, _), (2, _)]) X dX4_turnsOf_48 hl (by decide) rfl (fun ls hl => ?_)
        refine g_aload_n X dX4_turnsOf_50 rfl (lv_at hl 2 rfl) ?_
        refine g_iload_n X dX4_turnsOf_51 rfl (lv_at hl 3 rfl) ?_
        refine g_iload X dX4_turnsOf_52 (lv_at hl 0 rfl) ?_
        obtain ⟨r54, hr54, hF⟩ := obind hF
        refine k_Vv X (As := [.int a1, .int (σ.1 0 8)]) (rest := []) (c_X4_layNext hI hr54) (cwV 2 X.ts gX4_turnsOf_X4_layNext rfl rfl rfl (by decide +kernel) ⟨Nat.le_of_ble_eq_true rfl, Nat.le_of_ble_eq_true rfl⟩) ⟨0, 4, _, _, mo_obj, rfl, rfl⟩ rfl hl.1 rfl (Nat.le_of_ble_eq_true rfl) dX4_turnsOf_54 ?_
        refine g_goto (tgt := 16) X dX4_turnsOf_57 (by decide) ?_
        exact ih (a3 + 1) r54 hF ls (lv_sub hl [2, 3, 4, 1] rfl)
def F_X4_turnsOf (a1 : Int32) (a2 : Int32) (σ : (Mem × Int64)) : Option (Int32 × (Mem × Int64)) := Option.bind (F_X4_winnerOf a1 σ) (fun r4 => Option.bind (F_X4_layNext a1 r4 σ) (fun r13 => Option.bind (L_X4_turnsOf_16 a1 a2 FU (0 : Int32) r13) (fun v16 : Int32 × (Mem × Int64) => some (v16.1, v16.2))))
set_option maxHeartbeats 4000000 in
set_option maxRecDepth 100000 in
theorem c_X4_turnsOf {l : Launch} {D : va_G} {ay : Nat → ClassId} {ad : Nat → Nat} {a1 : Int32} {a2 : Int32} {σ : (Mem × Int64)} {res : Int32 × (Mem × Int64)} (hI : amOK ad) (hF : F_X4_turnsOf a1 a2 σ = some res) : Met l yX4_turnsOf wsX4_turnsOf ({ frames := 4, cells := 0, slots := 0, locals := 98 } : Room) (va_Pc [.ref (ad 0), .int a1, .int a2] (PP D ay (wM ay ad σ))) (va_Qi (pE res) (fun τ => PP D ay (wM ay ad τ)) (AM ad)) 0 0 (AM ad) := by
  refine g_start (wd := wM ay ad) (A := AM ad) (own := RX4) (mL := 5) (rt := (some .int)) (by decide) rfl rfl (Nat.le_of_ble_eq_true rfl) ?_
  intro p e s m below meth c ls X hl
  have hl : lv_has ls 5 [(0, .ref (ad 0)), (1, .int a1), (2, .int a2)] := hl
  rw [F_X4_turnsOf] at hF
  refine g_iconst (v := 0) X dX4_turnsOf_0 (by decide) ?_
  refine g_istore_n (lv' := [(3, _), (0, _), (1, _), (2, _)]) X dX4_turnsOf_1 rfl hl (by decide) rfl (fun ls hl => ?_)
  refine g_aload_n X dX4_turnsOf_2 rfl (lv_at hl 1 rfl) ?_
  refine g_iload_n X dX4_turnsOf_3 rfl (lv_at hl 2 rfl) ?_
  obtain ⟨r4, hr4, hF⟩ := obind hF
  refine k_Vi X (As := [.int a1]) (rest := []) (c_X4_winnerOf hI hr4) (cwV 1 X.ts gX4_turnsOf_X4_winnerOf rfl rfl rfl (by decide +kernel) ⟨Nat.le_of_ble_eq_true rfl, Nat.le_of_ble_eq_true rfl⟩) ⟨0, 4, _, _, mo_obj, rfl, rfl⟩ rfl hl.1 rfl (Nat.le_of_ble_eq_true rfl) dX4_turnsOf_4 ?_
  refine g_istore (lv' := [(4, _), (3, _), (0, _), (1, _), (2, _)]) X dX4_turnsOf_7 hl (by decide) rfl (fun ls hl => ?_)
  refine g_aload_n X dX4_turnsOf_9 rfl (lv_at hl 2 rfl) ?_
  refine g_iload_n X dX4_turnsOf_10 rfl (lv_at hl 3 rfl) ?_
  refine g_iload X dX4_turnsOf_11 (lv_at hl 0 rfl) ?_
  obtain ⟨r13, hr13, hF⟩ := obind hF
  refine k_Vv X (As := [.int a1, .int r4]) (rest := []) (c_X4_layNext hI hr13) (cwV 2 X.ts gX4_turnsOf_X4_layNext rfl rfl rfl (by decide +kernel) ⟨Nat.le_of_ble_eq_true rfl, Nat.le_of_ble_eq_true rfl⟩) ⟨0, 4, _, _, mo_obj, rfl, rfl⟩ rfl hl.1 rfl (Nat.le_of_ble_eq_true rfl) dX4_turnsOf_13 ?_
  obtain ⟨v16, hL16, hF⟩ := obind hF
  refine w_X4_turnsOf_16 X hI (fun ls hl => ?_) FU (0 : Int32) r13 hL16 ls (lv_sub hl [2, 3, 4, 1] rfl)
  refine g_iload_n X dX4_turnsOf_60 rfl (lv_at hl 0 rfl) ?_
  exact g_iret X (pE_mk (some_inj hF)) dX4_turnsOf_61
def L_X4_turnsAll_4 (a1 : Int32) : Nat → Int32 → Int32 → (Mem × Int64) → Option (Int32 × (Mem × Int64))
  | 0, _, _, _ => none
  | fu + 1, a2, a3, σ => (if (15 : Int32) < a3 then some (a2, σ) else Option.bind (F_X4_turnsOf a3 a1 σ) (fun r14 => L_X4_turnsAll_4 a1 fu (a2 + r14.1) (a3 + 1) r14.2))
set_option maxHeartbeats 4000000 in
set_option maxRecDepth 100000 in
theorem w_X4_turnsAll_4 {D : va_G} {ay : Nat → ClassId} {ad : Nat → Nat} {p : Program} {l : Launch} {e : Env} {s : State} {m : MethodId} {args : Array Value} {below : List Frame} {meth : Method} {c : Code} {Q : State → Prop} {a1 : Int32} {res : Int32 × (Mem × Int64)} (X : CX D ay p s m args meth c cX4_turnsAll 4 RX4 (some .int) wsX4_turnsAll) (hI : amOK ad) (K : ∀ ls : Array Slot, lv_has ls 4 [(2, .int res.1)] → GW D (wM ay ad) (AM ad) p l e ({ frames := 5, cells := 0, slots := 0, locals := 122 } : Room) s m args below meth c Q res.2 (F0 m 25 ls [])) : ∀ (fu : Nat) (a2 : Int32) (a3 : Int32) (σ : (Mem × Int64)), L_X4_turnsAll_4 a1 fu a2 a3 σ = some res → ∀ ls : Array Slot, lv_has ls 4 [(0, .ref (ad 0)), (1, .int a1), (2, .int a2), (3, .int a3)] → GW D (wM ay ad) (AM ad) p l e ({ frames := 5, cells := 0, slots := 0, locals := 122 } : Room) s m args below meth c Q σ (F0 m 4 ls []) := by
  intro fu
  induction fu with
  | zero =>
    intro a2 a3 σ hF ls hl
    rw [L_X4_turnsAll_4] at hF
    cases hF
  | succ fu ih =>
    intro a2 a3 σ hF ls hl
    rw [L_X4_turnsAll_4] at hF
    refine g_iload_n X dX4_turnsAll_4 rfl (lv_at hl 3 rfl) ?_
    refine g_bipush (v := 15) X dX4_turnsAll_5 (by decide) ?_
    refine g_icmp_gt (tgt := 25) X dX4_turnsAll_7 (by decide) (fun hc7 => ?_) (fun hc7 => ?_)
    · have hF := ite_t hF hc7
      have e4 := some_inj hF
      subst e4
      exact K ls (lv_sub hl [2] rfl)
    · have hF := ite_f hF hc7
      refine g_iload_n X dX4_turnsAll_10 rfl (lv_at hl 2 rfl) ?_
      refine g_aload_n X dX4_turnsAll_11 rfl (lv_at hl 0 rfl) ?_
      refine g_iload_n X dX4_turnsAll_12 rfl (lv_at hl 3 rfl) ?_
      refine g_iload_n X dX4_turnsAll_13 rfl (lv_at hl 1 rfl) ?_
      obtain ⟨r14, hr14, hF⟩ := obind hF
      refine k_Vie X (As := [.int a3, .int a1]) (rest := [.int a2]) (c_X4_turnsOf hI hr14) (cwV 2 X.ts gX4_turnsAll_X4_turnsOf rfl rfl rfl (by decide +kernel) ⟨Nat.le_of_ble_eq_true rfl, Nat.le_of_ble_eq_true rfl⟩) ⟨0, 4, _, _, mo_obj, rfl, rfl⟩ rfl hl.1 rfl (Nat.le_of_ble_eq_true rfl) dX4_turnsAll_14 ?_
      refine g_iadd X dX4_turnsAll_17 ?_
      refine g_istore_n (lv' := [(2, _), (0, _), (1, _), (3, _)]) X dX4_turnsAll_18 rfl hl (by decide) rfl (fun ls hl => ?_)
      refine g_iinc (v := a3 + 1) (lv' := [(3, _), (2, _), (0, _), (1, _)]) X dX4_turnsAll_19 hl (k := 3) rfl rfl (by decide) rfl (fun ls hl => ?_)
      refine g_goto (tgt := 4) X dX4_turnsAll_22 (by decide) ?_
      exact ih (a2 + r14.1) (a3 + 1) r14.2 hF ls (lv_sub hl [2, 3, 1, 0] rfl)
def F_X4_turnsAll (a1 : Int32) (σ : (Mem × Int64)) : Option (Int32 × (Mem × Int64)) := Option.bind (L_X4_turnsAll_4 a1 FU (0 : Int32) (1 : Int32) σ) (fun v4 : Int32 × (Mem × Int64) => some (v4.1, v4.2))
set_option maxHeartbeats 4000000 in
set_option maxRecDepth 100000 in
theorem c_X4_turnsAll {l : Launch} {D : va_G} {ay : Nat → ClassId} {ad : Nat → Nat} {a1 : Int32} {σ : (Mem × Int64)} {res : Int32 × (Mem × Int64)} (hI : amOK ad) (hF : F_X4_turnsAll a1 σ = some res) : Met l yX4_turnsAll wsX4_turnsAll ({ frames := 5, cells := 0, slots := 0, locals := 122 } : Room) (va_Pc [.ref (ad 0), .int a1] (PP D ay (wM ay ad σ))) (va_Qi (pE res) (fun τ => PP D ay (wM ay ad τ)) (AM ad)) 0 0 (AM ad) := by
  refine g_start (wd := wM ay ad) (A := AM ad) (own := RX4) (mL := 4) (rt := (some .int)) (by decide) rfl rfl (Nat.le_of_ble_eq_true rfl) ?_
  intro p e s m below meth c ls X hl
  have hl : lv_has ls 4 [(0, .ref (ad 0)), (1, .int a1)] := hl
  rw [F_X4_turnsAll] at hF
  refine g_iconst (v := 0) X dX4_turnsAll_0 (by decide) ?_
  refine g_istore_n (lv' := [(2, _), (0, _), (1, _)]) X dX4_turnsAll_1 rfl hl (by decide) rfl (fun ls hl => ?_)
  refine g_iconst (v := 1) X dX4_turnsAll_2 (by decide) ?_
  refine g_istore_n (lv' := [(3, _), (2, _), (0, _), (1, _)]) X dX4_turnsAll_3 rfl hl (by decide) rfl (fun ls hl => ?_)
  obtain ⟨v4, hL4, hF⟩ := obind hF
  refine w_X4_turnsAll_4 X hI (fun ls hl => ?_) FU (0 : Int32) (1 : Int32) σ hL4 ls (lv_sub hl [2, 3, 1, 0] rfl)
  refine g_iload_n X dX4_turnsAll_25 rfl (lv_at hl 0 rfl) ?_
  exact g_iret X (pE_mk (some_inj hF)) dX4_turnsAll_26
def L_X4_divisor_4 : Nat → Int32 → Int32 → Option Int32
  | 0, _, _ => none
  | fu + 1, a2, a3 => (if a3 = 0 then some a2 else if ¬ a3 = 0 then (L_X4_divisor_4  fu a3 (a2 - a2 / a3 * a3)) else none)
set_option maxHeartbeats 4000000 in
set_option maxRecDepth 100000 in
theorem w_X4_divisor_4 {D : va_G} {ay : Nat → ClassId} {ad : Nat → Nat} {p : Program} {l : Launch} {e : Env} {s : State} {m : MethodId} {args : Array Value} {below : List Frame} {meth : Method} {c : Code} {Q : State → Prop} {σ : (Mem × Int64)} {res : Int32} (X : CX D ay p s m args meth c cX4_divisor 5 RX4 (some .int) wsX4_divisor) (hI : amOK ad) (K : ∀ ls : Array Slot, lv_has ls 5 [(2, .int res)] → GW D (wM ay ad) (AM ad) p l e ({ frames := 0, cells := 0, slots := 0, locals := 0 } : Room) s m args below meth c Q σ (F0 m 21 ls [])) : ∀ (fu : Nat) (a2 : Int32) (a3 : Int32), L_X4_divisor_4  fu a2 a3 = some res → ∀ ls : Array Slot, lv_has ls 5 [(2, .int a2), (3, .int a3)] → GW D (wM ay ad) (AM ad) p l e ({ frames := 0, cells := 0, slots := 0, locals := 0 } : Room) s m args below meth c Q σ (F0 m 4 ls []) := by
  intro fu
  induction fu with
  | zero =>
    intro a2 a3 hF ls hl
    rw [L_X4_divisor_4] at hF
    cases hF
  | succ fu ih =>
    intro a2 a3 hF ls hl
    rw [L_X4_divisor_4] at hF
    refine g_iload_n X dX4_divisor_4 rfl (lv_at hl 1 rfl) ?_
    refine g_if_eq (tgt := 21) X dX4_divisor_5 (by decide) (fun hc5 => ?_) (fun hc5 => ?_)
    · have hF := ite_t hF hc5
      have e4 := some_inj hF
      subst e4
      exact K ls (lv_sub hl [0] rfl)
    · have hF := ite_f hF hc5
      refine g_iload_n X dX4_divisor_8 rfl (lv_at hl 0 rfl) ?_
      refine g_iload_n X dX4_divisor_9 rfl (lv_at hl 1 rfl) ?_
      obtain ⟨h10, hF⟩ := itn hF
      refine g_irem X dX4_divisor_10 h10 ?_
      refine g_istore (lv' := [(4, _), (2, _), (3, _)]) X dX4_divisor_11 hl (by decide) rfl (fun ls hl => ?_)
      refine g_iload_n X dX4_divisor_13 rfl (lv_at hl 2 rfl) ?_
      refine g_istore_n (lv' := [(2, _), (4, _), (3, _)]) X dX4_divisor_14 rfl hl (by decide) rfl (fun ls hl => ?_)
      refine g_iload X dX4_divisor_15 (lv_at hl 1 rfl) ?_
      refine g_istore_n (lv' := [(3, _), (2, _), (4, _)]) X dX4_divisor_17 rfl hl (by decide) rfl (fun ls hl => ?_)
      refine g_goto (tgt := 4) X dX4_divisor_18 (by decide) ?_
      exact ih a3 (a2 - a2 / a3 * a3) hF ls (lv_sub hl [1, 0] rfl)
def F_X4_divisor (a0 : Int32) (a1 : Int32) : Option Int32 := Option.bind (L_X4_divisor_4  FU a0 a1) (fun v4 : Int32 => some v4)
set_option maxHeartbeats 4000000 in
set_option maxRecDepth 100000 in
theorem c_X4_divisor {l : Launch} {D : va_G} {ay : Nat → ClassId} {ad : Nat → Nat} {a0 : Int32} {a1 : Int32} {σ : (Mem × Int64)} {res : Int32} (hI : amOK ad) (hF : F_X4_divisor a0 a1 = some res) : Met l yX4_divisor wsX4_divisor ({ frames := 0, cells := 0, slots := 0, locals := 0 } : Room) (va_Pc [.int a0, .int a1] (PP D ay (wM ay ad σ))) (va_Qi (pP res σ) (fun τ => PP D ay (wM ay ad τ)) (AM ad)) 0 0 (AM ad) := by
  refine g_start (wd := wM ay ad) (A := AM ad) (own := RX4) (mL := 5) (rt := (some .int)) (by decide) rfl rfl (Nat.le_of_ble_eq_true rfl) ?_
  intro p e s m below meth c ls X hl
  have hl : lv_has ls 5 [(0, .int a0), (1, .int a1)] := hl
  rw [F_X4_divisor] at hF
  refine g_iload_n X dX4_divisor_0 rfl (lv_at hl 0 rfl) ?_
  refine g_istore_n (lv' := [(2, _), (0, _), (1, _)]) X dX4_divisor_1 rfl hl (by decide) rfl (fun ls hl => ?_)
  refine g_iload_n X dX4_divisor_2 rfl (lv_at hl 2 rfl) ?_
  refine g_istore_n (lv' := [(3, _), (2, _), (0, _), (1, _)]) X dX4_divisor_3 rfl hl (by decide) rfl (fun ls hl => ?_)
  obtain ⟨v4, hL4, hF⟩ := obind hF
  refine w_X4_divisor_4 X hI (fun ls hl => ?_) FU a0 a1 hL4 ls (lv_sub hl [1, 0] rfl)
  refine g_iload_n X dX4_divisor_21 rfl (lv_at hl 0 rfl) ?_
  exact g_iret X (pP_mk (some_inj hF)) dX4_divisor_22
theorem in_X4_moment_X4 : ∀ w ∈ wsX40, w ∈ wsX4_moment := by decide +kernel
def F_X4_moment (a1 : Int32) (a2 : Int32) (a3 : Int32) (σ : (Mem × Int64)) : Option Int32 := (if ¬ a2 = 0 then Option.bind (F_X4_divisor (((σ.1 1 0) * a2) + a1) a2) (fun r21 => (Option.bind (if ¬ r21 = 0 then some r21 else some (1 : Int32)) (fun v28 : Int32 => (if ¬ a3 = 0 then if ¬ v28 = 0 then (some (a2 / v28)) else none else if ¬ v28 = 0 then (some ((((σ.1 1 0) * a2) + a1) / v28)) else none)))) else some (0 : Int32))
set_option maxHeartbeats 4000000 in
set_option maxRecDepth 100000 in
theorem c_X4_moment {l : Launch} {D : va_G} {ay : Nat → ClassId} {ad : Nat → Nat} {a1 : Int32} {a2 : Int32} {a3 : Int32} {σ : (Mem × Int64)} {res : Int32} (hI : amOK ad) (hF : F_X4_moment a1 a2 a3 σ = some res) : Met l yX4_moment wsX4_moment ({ frames := 1, cells := 0, slots := 0, locals := 24 } : Room) (va_Pc [.ref (ad 0), .int a1, .int a2, .int a3] (PP D ay (wM ay ad σ))) (va_Qi (pP res σ) (fun τ => PP D ay (wM ay ad τ)) (AM ad)) 0 0 (AM ad) := by
  refine g_start (wd := wM ay ad) (A := AM ad) (own := RX4) (mL := 6) (rt := (some .int)) (by decide) rfl rfl (Nat.le_of_ble_eq_true rfl) ?_
  intro p e s m below meth c ls X hl
  have hl : lv_has ls 6 [(0, .ref (ad 0)), (1, .int a1), (2, .int a2), (3, .int a3)] := hl
  rw [F_X4_moment] at hF
  refine g_iload_n X dX4_moment_0 rfl (lv_at hl 2 rfl) ?_
  refine g_if_ne (tgt := 6) X dX4_moment_1 (by decide) (fun hc1 => ?_) (fun hc1 => ?_)
  · have hF := ite_t hF hc1
    refine g_aload_n X dX4_moment_6 rfl (lv_at hl 0 rfl) ?_
    refine g_get X 0 (mo_obj) in_X4_moment_X4 rfl 0 (by decide) (X.ts (.fieldLink RX4 7 "LeadTimesModel" "z" "[I") (by decide +kernel)) rfl rfl dX4_moment_7 ?_
    refine g_iconst (v := 0) X dX4_moment_10 (by decide) ?_
    refine g_iald X 1 (j := 0) (mo_arr1) (by first | rfl | decide) (inb_in (by decide)) dX4_moment_11 ?_
    refine g_iload_n X dX4_moment_12 rfl (lv_at hl 2 rfl) ?_
    refine g_imul X dX4_moment_13 ?_
    refine g_iload_n X dX4_moment_14 rfl (lv_at hl 1 rfl) ?_
    refine g_iadd X dX4_moment_15 ?_
    refine g_istore (lv' := [(4, _), (0, _), (1, _), (2, _), (3, _)]) X dX4_moment_16 hl (by decide) rfl (fun ls hl => ?_)
    refine g_iload X dX4_moment_18 (lv_at hl 0 rfl) ?_
    refine g_iload_n X dX4_moment_20 rfl (lv_at hl 3 rfl) ?_
    obtain ⟨r21, hr21, hF⟩ := obind hF
    refine k_Si X (As := [.int (((σ.1 1 0) * a2) + a1), .int a2]) (rest := []) (c_X4_divisor hI hr21) (va_cwS 2 X.ts gX4_moment_X4_divisor rfl rfl rfl (by decide +kernel) ⟨Nat.le_of_ble_eq_true rfl, Nat.le_of_ble_eq_true rfl⟩) rfl hl.1 rfl (Nat.le_of_ble_eq_true rfl) dX4_moment_21 ?_
    refine g_istore (lv' := [(5, _), (4, _), (0, _), (1, _), (2, _), (3, _)]) X dX4_moment_24 hl (by decide) rfl (fun ls hl => ?_)
    refine g_iload X dX4_moment_26 (lv_at hl 0 rfl) ?_
    obtain ⟨v28, hR28, hF⟩ := obind hF
    refine g_cut (nM := 6) [(2, .int a2), (3, .int a3), (4, .int (((σ.1 1 0) * a2) + a1))] (σ) 37 [.int v28] (fun ls hl => ?_) (fun J28 => ?_)
    · refine g_istore (lv' := [(5, _), (2, _), (3, _), (4, _)]) X dX4_moment_37 hl (by decide) rfl (fun ls hl => ?_)
      refine g_iload_n X dX4_moment_39 rfl (lv_at hl 2 rfl) ?_
      refine g_if_ne (tgt := 51) X dX4_moment_40 (by decide) (fun hc40 => ?_) (fun hc40 => ?_)
      · have hF := ite_t hF hc40
        refine g_iload_n X dX4_moment_51 rfl (lv_at hl 1 rfl) ?_
        refine g_iload X dX4_moment_52 (lv_at hl 0 rfl) ?_
        obtain ⟨h54, hF⟩ := itn hF
        refine g_idiv X dX4_moment_54 h54 ?_
        exact g_iret X (pP_mk (some_inj hF)) dX4_moment_55
      · have hF := ite_n hF hc40
        refine g_iload X dX4_moment_43 (lv_at hl 3 rfl) ?_
        refine g_iload X dX4_moment_45 (lv_at hl 0 rfl) ?_
        obtain ⟨h47, hF⟩ := itn hF
        refine g_idiv X dX4_moment_47 h47 ?_
        refine g_goto (tgt := 55) X dX4_moment_48 (by decide) ?_
        exact g_iret X (pP_mk (some_inj hF)) dX4_moment_55
    · refine g_if_ne (tgt := 35) X dX4_moment_28 (by decide) (fun hc28 => ?_) (fun hc28 => ?_)
      · have hR28 := ite_t hR28 hc28
        refine g_iload X dX4_moment_35 (lv_at hl 0 rfl) ?_
        have e28 := some_inj hR28
        subst e28
        exact J28 ls (lv_sub hl [4, 5, 1] rfl)
      · have hR28 := ite_n hR28 hc28
        refine g_iconst (v := 1) X dX4_moment_31 (by decide) ?_
        refine g_goto (tgt := 37) X dX4_moment_32 (by decide) ?_
        have e28 := some_inj hR28
        subst e28
        exact J28 ls (lv_sub hl [4, 5, 1] rfl)
  · have hF := ite_n hF hc1
    refine g_iconst (v := 0) X dX4_moment_4 (by decide) ?_
    exact g_iret X (pP_mk (some_inj hF)) dX4_moment_5
def F_X4_isSpeed (a0 : Int32) : Option Int32 := Option.bind (F_X4_in a0 (-99 : Int32) (99 : Int32)) (fun r5 => some r5)
set_option maxHeartbeats 4000000 in
set_option maxRecDepth 100000 in
theorem c_X4_isSpeed {l : Launch} {D : va_G} {ay : Nat → ClassId} {ad : Nat → Nat} {a0 : Int32} {σ : (Mem × Int64)} {res : Int32} (hI : amOK ad) (hF : F_X4_isSpeed a0 = some res) : Met l yX4_isSpeed wsX4_isSpeed ({ frames := 1, cells := 0, slots := 0, locals := 22 } : Room) (va_Pc [.int a0] (PP D ay (wM ay ad σ))) (va_Qi (pZ res σ) (fun τ => PP D ay (wM ay ad τ)) (AM ad)) 0 0 (AM ad) := by
  refine g_start (wd := wM ay ad) (A := AM ad) (own := RX4) (mL := 1) (rt := (some .boolean)) (by decide) rfl rfl (Nat.le_of_ble_eq_true rfl) ?_
  intro p e s m below meth c ls X hl
  have hl : lv_has ls 1 [(0, .int a0)] := hl
  rw [F_X4_isSpeed] at hF
  refine g_iload_n X dX4_isSpeed_0 rfl (lv_at hl 0 rfl) ?_
  refine g_bipush (v := -99) X dX4_isSpeed_1 (by decide) ?_
  refine g_bipush (v := 99) X dX4_isSpeed_3 (by decide) ?_
  obtain ⟨r5, hr5, hF⟩ := obind hF
  refine k_Sz X (As := [.int a0, .int (-99 : Int32), .int (99 : Int32)]) (rest := []) (c_X4_in hI hr5) (va_cwS 3 X.ts gX4_isSpeed_X4_in rfl rfl rfl (by decide +kernel) ⟨Nat.le_of_ble_eq_true rfl, Nat.le_of_ble_eq_true rfl⟩) rfl hl.1 rfl (Nat.le_of_ble_eq_true rfl) dX4_isSpeed_5 (fun hz5 => ?_)
  exact g_zret X hz5 (pZ_mk (some_inj hF) hz5) dX4_isSpeed_8
def F_X4_isValue (a0 : Int32) : Option Int32 := Option.bind (F_X4_in a0 (-9999 : Int32) (9999 : Int32)) (fun r7 => some r7)
set_option maxHeartbeats 4000000 in
set_option maxRecDepth 100000 in
theorem c_X4_isValue {l : Launch} {D : va_G} {ay : Nat → ClassId} {ad : Nat → Nat} {a0 : Int32} {σ : (Mem × Int64)} {res : Int32} (hI : amOK ad) (hF : F_X4_isValue a0 = some res) : Met l yX4_isValue wsX4_isValue ({ frames := 1, cells := 0, slots := 0, locals := 22 } : Room) (va_Pc [.int a0] (PP D ay (wM ay ad σ))) (va_Qi (pZ res σ) (fun τ => PP D ay (wM ay ad τ)) (AM ad)) 0 0 (AM ad) := by
  refine g_start (wd := wM ay ad) (A := AM ad) (own := RX4) (mL := 1) (rt := (some .boolean)) (by decide) rfl rfl (Nat.le_of_ble_eq_true rfl) ?_
  intro p e s m below meth c ls X hl
  have hl : lv_has ls 1 [(0, .int a0)] := hl
  rw [F_X4_isValue] at hF
  refine g_iload_n X dX4_isValue_0 rfl (lv_at hl 0 rfl) ?_
  refine g_sipush (v := -9999) X dX4_isValue_1 (by decide) ?_
  refine g_sipush (v := 9999) X dX4_isValue_4 (by decide) ?_
  obtain ⟨r7, hr7, hF⟩ := obind hF
  refine k_Sz X (As := [.int a0, .int (-9999 : Int32), .int (9999 : Int32)]) (rest := []) (c_X4_in hI hr7) (va_cwS 3 X.ts gX4_isValue_X4_in rfl rfl rfl (by decide +kernel) ⟨Nat.le_of_ble_eq_true rfl, Nat.le_of_ble_eq_true rfl⟩) rfl hl.1 rfl (Nat.le_of_ble_eq_true rfl) dX4_isValue_7 (fun hz7 => ?_)
  exact g_zret X hz7 (pZ_mk (some_inj hF) hz7) dX4_isValue_10
def L_X4_freeSlot_2 (σ : (Mem × Int64)) : Nat → Int32 → Option Int32
  | 0, _ => none
  | fu + 1, a1 => (if (16 : Int32) ≤ a1 then some a1 else Option.bind (F_X4_has a1 σ) (fun r10 => (if r10 = 0 then some a1 else L_X4_freeSlot_2 σ fu (a1 + 1))))
set_option maxHeartbeats 4000000 in
set_option maxRecDepth 100000 in
theorem w_X4_freeSlot_2 {D : va_G} {ay : Nat → ClassId} {ad : Nat → Nat} {p : Program} {l : Launch} {e : Env} {s : State} {m : MethodId} {args : Array Value} {below : List Frame} {meth : Method} {c : Code} {Q : State → Prop} {σ : (Mem × Int64)} {res : Int32} (X : CX D ay p s m args meth c cX4_freeSlot 2 RX4 (some .int) wsX4_freeSlot) (hI : amOK ad) (K : ∀ ls : Array Slot, lv_has ls 2 [(1, .int res)] → GW D (wM ay ad) (AM ad) p l e ({ frames := 2, cells := 0, slots := 0, locals := 41 } : Room) s m args below meth c Q σ (F0 m 22 ls [])) : ∀ (fu : Nat) (a1 : Int32), L_X4_freeSlot_2 σ fu a1 = some res → ∀ ls : Array Slot, lv_has ls 2 [(0, .ref (ad 0)), (1, .int a1)] → GW D (wM ay ad) (AM ad) p l e ({ frames := 2, cells := 0, slots := 0, locals := 41 } : Room) s m args below meth c Q σ (F0 m 2 ls []) := by
  intro fu
  induction fu with
  | zero =>
    intro a1 hF ls hl
    rw [L_X4_freeSlot_2] at hF
    cases hF
  | succ fu ih =>
    intro a1 hF ls hl
    rw [L_X4_freeSlot_2] at hF
    refine g_iload_n X dX4_freeSlot_2 rfl (lv_at hl 1 rfl) ?_
    refine g_bipush (v := 16) X dX4_freeSlot_3 (by decide) ?_
    refine g_icmp_ge (tgt := 22) X dX4_freeSlot_5 (by decide) (fun hc5 => ?_) (fun hc5 => ?_)
    · have hF := ite_t hF hc5
      have e2 := some_inj hF
      subst e2
      exact K ls (lv_sub hl [1] rfl)
    · have hF := ite_f hF hc5
      refine g_aload_n X dX4_freeSlot_8 rfl (lv_at hl 0 rfl) ?_
      refine g_iload_n X dX4_freeSlot_9 rfl (lv_at hl 1 rfl) ?_
      obtain ⟨r10, hr10, hF⟩ := obind hF
      refine k_Vz X (As := [.int a1]) (rest := []) (c_X4_has hI hr10) (cwV 1 X.ts gX4_freeSlot_X4_has rfl rfl rfl (by decide +kernel) ⟨Nat.le_of_ble_eq_true rfl, Nat.le_of_ble_eq_true rfl⟩) ⟨0, 4, _, _, mo_obj, rfl, rfl⟩ rfl hl.1 rfl (Nat.le_of_ble_eq_true rfl) dX4_freeSlot_10 (fun hz10 => ?_)
      refine g_if_eq (tgt := 22) X dX4_freeSlot_13 (by decide) (fun hc13 => ?_) (fun hc13 => ?_)
      · have hF := ite_t hF hc13
        have e2 := some_inj hF
        subst e2
        exact K ls (lv_sub hl [1] rfl)
      · have hF := ite_f hF hc13
        refine g_iinc (v := a1 + 1) (lv' := [(1, _), (0, _)]) X dX4_freeSlot_16 hl (k := 1) rfl rfl (by decide) rfl (fun ls hl => ?_)
        refine g_goto (tgt := 2) X dX4_freeSlot_19 (by decide) ?_
        exact ih (a1 + 1) hF ls (lv_sub hl [1, 0] rfl)
def F_X4_freeSlot (σ : (Mem × Int64)) : Option Int32 := Option.bind (L_X4_freeSlot_2 σ FU (0 : Int32)) (fun v2 : Int32 => (if ¬ v2 = (16 : Int32) then some v2 else some (-1 : Int32)))
set_option maxHeartbeats 4000000 in
set_option maxRecDepth 100000 in
theorem c_X4_freeSlot {l : Launch} {D : va_G} {ay : Nat → ClassId} {ad : Nat → Nat} {σ : (Mem × Int64)} {res : Int32} (hI : amOK ad) (hF : F_X4_freeSlot  σ = some res) : Met l yX4_freeSlot wsX4_freeSlot ({ frames := 2, cells := 0, slots := 0, locals := 41 } : Room) (va_Pc [.ref (ad 0)] (PP D ay (wM ay ad σ))) (va_Qi (pP res σ) (fun τ => PP D ay (wM ay ad τ)) (AM ad)) 0 0 (AM ad) := by
  refine g_start (wd := wM ay ad) (A := AM ad) (own := RX4) (mL := 2) (rt := (some .int)) (by decide) rfl rfl (Nat.le_of_ble_eq_true rfl) ?_
  intro p e s m below meth c ls X hl
  have hl : lv_has ls 2 [(0, .ref (ad 0))] := hl
  rw [F_X4_freeSlot] at hF
  refine g_iconst (v := 0) X dX4_freeSlot_0 (by decide) ?_
  refine g_istore_n (lv' := [(1, _), (0, _)]) X dX4_freeSlot_1 rfl hl (by decide) rfl (fun ls hl => ?_)
  obtain ⟨v2, hL2, hF⟩ := obind hF
  refine w_X4_freeSlot_2 X hI (fun ls hl => ?_) FU (0 : Int32) hL2 ls (lv_sub hl [1, 0] rfl)
  refine g_iload_n X dX4_freeSlot_22 rfl (lv_at hl 0 rfl) ?_
  refine g_bipush (v := 16) X dX4_freeSlot_23 (by decide) ?_
  refine g_icmp_ne (tgt := 32) X dX4_freeSlot_25 (by decide) (fun hc25 => ?_) (fun hc25 => ?_)
  · have hF := ite_t hF hc25
    refine g_iload_n X dX4_freeSlot_32 rfl (lv_at hl 0 rfl) ?_
    exact g_iret X (pP_mk (some_inj hF)) dX4_freeSlot_33
  · have hF := ite_n hF hc25
    refine g_iconst (v := -1) X dX4_freeSlot_28 (by decide) ?_
    refine g_goto (tgt := 33) X dX4_freeSlot_29 (by decide) ?_
    exact g_iret X (pP_mk (some_inj hF)) dX4_freeSlot_33
theorem in_X4_movers_X4 : ∀ w ∈ wsX40, w ∈ wsX4_movers := by decide +kernel
def L_X4_movers_4 (σ : (Mem × Int64)) : Nat → Int32 → Int32 → Option Int32
  | 0, _, _ => none
  | fu + 1, a1, a2 => (if (16 : Int32) ≤ a2 then some a1 else Option.bind (F_X4_at a2) (fun r16 => if inb r16 84 then (L_X4_movers_4 σ fu (a1 + (σ.1 1 r16.toNatClampNeg)) (a2 + 1)) else none))
set_option maxHeartbeats 4000000 in
set_option maxRecDepth 100000 in
theorem w_X4_movers_4 {D : va_G} {ay : Nat → ClassId} {ad : Nat → Nat} {p : Program} {l : Launch} {e : Env} {s : State} {m : MethodId} {args : Array Value} {below : List Frame} {meth : Method} {c : Code} {Q : State → Prop} {σ : (Mem × Int64)} {res : Int32} (X : CX D ay p s m args meth c cX4_movers 3 RX4 (some .int) wsX4_movers) (hI : amOK ad) (K : ∀ ls : Array Slot, lv_has ls 3 [(1, .int res)] → GW D (wM ay ad) (AM ad) p l e ({ frames := 1, cells := 0, slots := 0, locals := 20 } : Room) s m args below meth c Q σ (F0 m 28 ls [])) : ∀ (fu : Nat) (a1 : Int32) (a2 : Int32), L_X4_movers_4 σ fu a1 a2 = some res → ∀ ls : Array Slot, lv_has ls 3 [(0, .ref (ad 0)), (1, .int a1), (2, .int a2)] → GW D (wM ay ad) (AM ad) p l e ({ frames := 1, cells := 0, slots := 0, locals := 20 } : Room) s m args below meth c Q σ (F0 m 4 ls []) := by
  intro fu
  induction fu with
  | zero =>
    intro a1 a2 hF ls hl
    rw [L_X4_movers_4] at hF
    cases hF
  | succ fu ih =>
    intro a1 a2 hF ls hl
    rw [L_X4_movers_4] at hF
    refine g_iload_n X dX4_movers_4 rfl (lv_at hl 2 rfl) ?_
    refine g_bipush (v := 16) X dX4_movers_5 (by decide) ?_
    refine g_icmp_ge (tgt := 28) X dX4_movers_7 (by decide) (fun hc7 => ?_) (fun hc7 => ?_)
    · have hF := ite_t hF hc7
      have e4 := some_inj hF
      subst e4
      exact K ls (lv_sub hl [1] rfl)
    · have hF := ite_f hF hc7
      refine g_iload_n X dX4_movers_10 rfl (lv_at hl 1 rfl) ?_
      refine g_aload_n X dX4_movers_11 rfl (lv_at hl 0 rfl) ?_
      refine g_get X 0 (mo_obj) in_X4_movers_X4 rfl 0 (by decide) (X.ts (.fieldLink RX4 7 "LeadTimesModel" "z" "[I") (by decide +kernel)) rfl rfl dX4_movers_12 ?_
      refine g_iload_n X dX4_movers_15 rfl (lv_at hl 2 rfl) ?_
      obtain ⟨r16, hr16, hF⟩ := obind hF
      refine k_Si X (As := [.int a2]) (rest := [.ref (ad 1), .int a1]) (c_X4_at hI hr16) (va_cwS 1 X.ts gX4_movers_X4_at rfl rfl rfl (by decide +kernel) ⟨Nat.le_of_ble_eq_true rfl, Nat.le_of_ble_eq_true rfl⟩) rfl hl.1 rfl (Nat.le_of_ble_eq_true rfl) dX4_movers_16 ?_
      obtain ⟨h19, hF⟩ := itn hF
      refine g_iald X 1 (j := r16.toNatClampNeg) (mo_arr1) (by first | rfl | decide) (inb_in h19) dX4_movers_19 ?_
      refine g_iadd X dX4_movers_20 ?_
      refine g_istore_n (lv' := [(1, _), (0, _), (2, _)]) X dX4_movers_21 rfl hl (by decide) rfl (fun ls hl => ?_)
      refine g_iinc (v := a2 + 1) (lv' := [(2, _), (1, _), (0, _)]) X dX4_movers_22 hl (k := 2) rfl rfl (by decide) rfl (fun ls hl => ?_)
      refine g_goto (tgt := 4) X dX4_movers_25 (by decide) ?_
      exact ih (a1 + (σ.1 1 r16.toNatClampNeg)) (a2 + 1) hF ls (lv_sub hl [2, 1, 0] rfl)
def F_X4_movers (σ : (Mem × Int64)) : Option Int32 := Option.bind (L_X4_movers_4 σ FU (0 : Int32) (0 : Int32)) (fun v4 : Int32 => some v4)
set_option maxHeartbeats 4000000 in
set_option maxRecDepth 100000 in
theorem c_X4_movers {l : Launch} {D : va_G} {ay : Nat → ClassId} {ad : Nat → Nat} {σ : (Mem × Int64)} {res : Int32} (hI : amOK ad) (hF : F_X4_movers  σ = some res) : Met l yX4_movers wsX4_movers ({ frames := 1, cells := 0, slots := 0, locals := 20 } : Room) (va_Pc [.ref (ad 0)] (PP D ay (wM ay ad σ))) (va_Qi (pP res σ) (fun τ => PP D ay (wM ay ad τ)) (AM ad)) 0 0 (AM ad) := by
  refine g_start (wd := wM ay ad) (A := AM ad) (own := RX4) (mL := 3) (rt := (some .int)) (by decide) rfl rfl (Nat.le_of_ble_eq_true rfl) ?_
  intro p e s m below meth c ls X hl
  have hl : lv_has ls 3 [(0, .ref (ad 0))] := hl
  rw [F_X4_movers] at hF
  refine g_iconst (v := 0) X dX4_movers_0 (by decide) ?_
  refine g_istore_n (lv' := [(1, _), (0, _)]) X dX4_movers_1 rfl hl (by decide) rfl (fun ls hl => ?_)
  refine g_iconst (v := 0) X dX4_movers_2 (by decide) ?_
  refine g_istore_n (lv' := [(2, _), (1, _), (0, _)]) X dX4_movers_3 rfl hl (by decide) rfl (fun ls hl => ?_)
  obtain ⟨v4, hL4, hF⟩ := obind hF
  refine w_X4_movers_4 X hI (fun ls hl => ?_) FU (0 : Int32) (0 : Int32) hL4 ls (lv_sub hl [2, 1, 0] rfl)
  refine g_iload_n X dX4_movers_28 rfl (lv_at hl 0 rfl) ?_
  exact g_iret X (pP_mk (some_inj hF)) dX4_movers_29
theorem in_X4_addNow_X4 : ∀ w ∈ wsX40, w ∈ wsX4_addNow := by decide +kernel
def F_X4_addNow (a1 : Int32) (a2 : Int32) (σ : (Mem × Int64)) : Option (Int32 × (Mem × Int64)) := Option.bind (F_X4_freeSlot σ) (fun r1 => Option.bind (F_X4_at r1) (fun r10 => if inb r10 84 then (Option.bind (F_X4_at r1) (fun r20 => if inb (r20 + (1 : Int32)) 84 then (Option.bind (F_X4_at r1) (fun r32 => if inb (r32 + (2 : Int32)) 84 then (Option.bind (F_X4_at r1) (fun r44 => if inb (r44 + (3 : Int32)) 84 then (some (r1, (up2 (up2 (up2 (up2 σ.1 1 r10.toNatClampNeg (1 : Int32)) 1 ((r20 + (1 : Int32)).toNatClampNeg) a1) 1 ((r32 + (2 : Int32)).toNatClampNeg) a2) 1 ((r44 + (3 : Int32)).toNatClampNeg) ((up2 (up2 (up2 σ.1 1 r10.toNatClampNeg (1 : Int32)) 1 ((r20 + (1 : Int32)).toNatClampNeg) a1) 1 ((r32 + (2 : Int32)).toNatClampNeg) a2) 1 0), σ.2))) else none)) else none)) else none)) else none))
set_option maxHeartbeats 4000000 in
set_option maxRecDepth 100000 in
theorem c_X4_addNow {l : Launch} {D : va_G} {ay : Nat → ClassId} {ad : Nat → Nat} {a1 : Int32} {a2 : Int32} {σ : (Mem × Int64)} {res : Int32 × (Mem × Int64)} (hI : amOK ad) (hF : F_X4_addNow a1 a2 σ = some res) : Met l yX4_addNow wsX4_addNow ({ frames := 3, cells := 0, slots := 0, locals := 62 } : Room) (va_Pc [.ref (ad 0), .int a1, .int a2] (PP D ay (wM ay ad σ))) (va_Qi (pE res) (fun τ => PP D ay (wM ay ad τ)) (AM ad)) 0 0 (AM ad) := by
  refine g_start (wd := wM ay ad) (A := AM ad) (own := RX4) (mL := 4) (rt := (some .int)) (by decide) rfl rfl (Nat.le_of_ble_eq_true rfl) ?_
  intro p e s m below meth c ls X hl
  have hl : lv_has ls 4 [(0, .ref (ad 0)), (1, .int a1), (2, .int a2)] := hl
  rw [F_X4_addNow] at hF
  refine g_aload_n X dX4_addNow_0 rfl (lv_at hl 0 rfl) ?_
  obtain ⟨r1, hr1, hF⟩ := obind hF
  refine k_Vi X (As := []) (rest := []) (c_X4_freeSlot hI hr1) (cwV 0 X.ts gX4_addNow_X4_freeSlot rfl rfl rfl (by decide +kernel) ⟨Nat.le_of_ble_eq_true rfl, Nat.le_of_ble_eq_true rfl⟩) ⟨0, 4, _, _, mo_obj, rfl, rfl⟩ rfl hl.1 rfl (Nat.le_of_ble_eq_true rfl) dX4_addNow_1 ?_
  refine g_istore_n (lv' := [(3, _), (0, _), (1, _), (2, _)]) X dX4_addNow_4 rfl hl (by decide) rfl (fun ls hl => ?_)
  refine g_aload_n X dX4_addNow_5 rfl (lv_at hl 1 rfl) ?_
  refine g_get X 0 (mo_obj) in_X4_addNow_X4 rfl 0 (by decide) (X.ts (.fieldLink RX4 7 "LeadTimesModel" "z" "[I") (by decide +kernel)) rfl rfl dX4_addNow_6 ?_
  refine g_iload_n X dX4_addNow_9 rfl (lv_at hl 0 rfl) ?_
  obtain ⟨r10, hr10, hF⟩ := obind hF
  refine k_Si X (As := [.int r1]) (rest := [.ref (ad 1)]) (c_X4_at hI hr10) (va_cwS 1 X.ts gX4_addNow_X4_at rfl rfl rfl (by decide +kernel) ⟨Nat.le_of_ble_eq_true rfl, Nat.le_of_ble_eq_true rfl⟩) rfl hl.1 rfl (Nat.le_of_ble_eq_true rfl) dX4_addNow_10 ?_
  refine g_iconst (v := 1) X dX4_addNow_13 (by decide) ?_
  obtain ⟨h14, hF⟩ := itn hF
  refine g_iast X (wM_D hI) ((up2 σ.1 1 r10.toNatClampNeg (1 : Int32), σ.2)) 1 (j := r10.toNatClampNeg) (mo_arr1) (by first | rfl | decide) (set_arrM (a := 0) (n := 84) (fun τ => mo_arr1)) (inb_in h14) dX4_addNow_14 ?_
  refine g_aload_n X dX4_addNow_15 rfl (lv_at hl 1 rfl) ?_
  refine g_get X 0 (mo_obj) in_X4_addNow_X4 rfl 0 (by decide) (X.ts (.fieldLink RX4 7 "LeadTimesModel" "z" "[I") (by decide +kernel)) rfl rfl dX4_addNow_16 ?_
  refine g_iload_n X dX4_addNow_19 rfl (lv_at hl 0 rfl) ?_
  obtain ⟨r20, hr20, hF⟩ := obind hF
  refine k_Si X (As := [.int r1]) (rest := [.ref (ad 1)]) (c_X4_at hI hr20) (va_cwS 1 X.ts gX4_addNow_X4_at rfl rfl rfl (by decide +kernel) ⟨Nat.le_of_ble_eq_true rfl, Nat.le_of_ble_eq_true rfl⟩) rfl hl.1 rfl (Nat.le_of_ble_eq_true rfl) dX4_addNow_20 ?_
  refine g_iconst (v := 1) X dX4_addNow_23 (by decide) ?_
  refine g_iadd X dX4_addNow_24 ?_
  refine g_iload_n X dX4_addNow_25 rfl (lv_at hl 2 rfl) ?_
  obtain ⟨h26, hF⟩ := itn hF
  refine g_iast X (wM_D hI) ((up2 (up2 σ.1 1 r10.toNatClampNeg (1 : Int32)) 1 ((r20 + (1 : Int32)).toNatClampNeg) a1, σ.2)) 1 (j := (r20 + (1 : Int32)).toNatClampNeg) (mo_arr1) (by first | rfl | decide) (set_arrM (a := 0) (n := 84) (fun τ => mo_arr1)) (inb_in h26) dX4_addNow_26 ?_
  refine g_aload_n X dX4_addNow_27 rfl (lv_at hl 1 rfl) ?_
  refine g_get X 0 (mo_obj) in_X4_addNow_X4 rfl 0 (by decide) (X.ts (.fieldLink RX4 7 "LeadTimesModel" "z" "[I") (by decide +kernel)) rfl rfl dX4_addNow_28 ?_
  refine g_iload_n X dX4_addNow_31 rfl (lv_at hl 0 rfl) ?_
  obtain ⟨r32, hr32, hF⟩ := obind hF
  refine k_Si X (As := [.int r1]) (rest := [.ref (ad 1)]) (c_X4_at hI hr32) (va_cwS 1 X.ts gX4_addNow_X4_at rfl rfl rfl (by decide +kernel) ⟨Nat.le_of_ble_eq_true rfl, Nat.le_of_ble_eq_true rfl⟩) rfl hl.1 rfl (Nat.le_of_ble_eq_true rfl) dX4_addNow_32 ?_
  refine g_iconst (v := 2) X dX4_addNow_35 (by decide) ?_
  refine g_iadd X dX4_addNow_36 ?_
  refine g_iload_n X dX4_addNow_37 rfl (lv_at hl 3 rfl) ?_
  obtain ⟨h38, hF⟩ := itn hF
  refine g_iast X (wM_D hI) ((up2 (up2 (up2 σ.1 1 r10.toNatClampNeg (1 : Int32)) 1 ((r20 + (1 : Int32)).toNatClampNeg) a1) 1 ((r32 + (2 : Int32)).toNatClampNeg) a2, σ.2)) 1 (j := (r32 + (2 : Int32)).toNatClampNeg) (mo_arr1) (by first | rfl | decide) (set_arrM (a := 0) (n := 84) (fun τ => mo_arr1)) (inb_in h38) dX4_addNow_38 ?_
  refine g_aload_n X dX4_addNow_39 rfl (lv_at hl 1 rfl) ?_
  refine g_get X 0 (mo_obj) in_X4_addNow_X4 rfl 0 (by decide) (X.ts (.fieldLink RX4 7 "LeadTimesModel" "z" "[I") (by decide +kernel)) rfl rfl dX4_addNow_40 ?_
  refine g_iload_n X dX4_addNow_43 rfl (lv_at hl 0 rfl) ?_
  obtain ⟨r44, hr44, hF⟩ := obind hF
  refine k_Si X (As := [.int r1]) (rest := [.ref (ad 1)]) (c_X4_at hI hr44) (va_cwS 1 X.ts gX4_addNow_X4_at rfl rfl rfl (by decide +kernel) ⟨Nat.le_of_ble_eq_true rfl, Nat.le_of_ble_eq_true rfl⟩) rfl hl.1 rfl (Nat.le_of_ble_eq_true rfl) dX4_addNow_44 ?_
  refine g_iconst (v := 3) X dX4_addNow_47 (by decide) ?_
  refine g_iadd X dX4_addNow_48 ?_
  refine g_aload_n X dX4_addNow_49 rfl (lv_at hl 1 rfl) ?_
  refine g_get X 0 (mo_obj) in_X4_addNow_X4 rfl 0 (by decide) (X.ts (.fieldLink RX4 7 "LeadTimesModel" "z" "[I") (by decide +kernel)) rfl rfl dX4_addNow_50 ?_
  refine g_iconst (v := 0) X dX4_addNow_53 (by decide) ?_
  refine g_iald X 1 (j := 0) (mo_arr1) (by first | rfl | decide) (inb_in (by decide)) dX4_addNow_54 ?_
  obtain ⟨h55, hF⟩ := itn hF
  refine g_iast X (wM_D hI) ((up2 (up2 (up2 (up2 σ.1 1 r10.toNatClampNeg (1 : Int32)) 1 ((r20 + (1 : Int32)).toNatClampNeg) a1) 1 ((r32 + (2 : Int32)).toNatClampNeg) a2) 1 ((r44 + (3 : Int32)).toNatClampNeg) ((up2 (up2 (up2 σ.1 1 r10.toNatClampNeg (1 : Int32)) 1 ((r20 + (1 : Int32)).toNatClampNeg) a1) 1 ((r32 + (2 : Int32)).toNatClampNeg) a2) 1 0), σ.2)) 1 (j := (r44 + (3 : Int32)).toNatClampNeg) (mo_arr1) (by first | rfl | decide) (set_arrM (a := 0) (n := 84) (fun τ => mo_arr1)) (inb_in h55) dX4_addNow_55 ?_
  refine g_iload_n X dX4_addNow_56 rfl (lv_at hl 0 rfl) ?_
  exact g_iret X (pE_mk (some_inj hF)) dX4_addNow_57
theorem in_X4_add_X4 : ∀ w ∈ wsX40, w ∈ wsX4_add := by decide +kernel
def F_X4_add (a1 : Int32) (a2 : Int32) (σ : (Mem × Int64)) : Option (Int32 × (Mem × Int64)) := Option.bind (F_X4_isValue a1) (fun r6 => (if r6 = 0 then Option.bind (F_X4_fails (1 : Int32) (up2 σ.1 0 5 (0 : Int32), σ.2)) (fun r21 => some (r21.1, r21.2)) else Option.bind (F_X4_isSpeed a2) (fun r13 => (if ¬ r13 = 0 then Option.bind (F_X4_freeSlot (up2 σ.1 0 5 (0 : Int32), σ.2)) (fun r26 => (if ¬ r26 = (-1 : Int32) then Option.bind (F_X4_save (up2 σ.1 0 5 (0 : Int32), σ.2)) (fun r40 => Option.bind (F_X4_addNow a1 a2 r40) (fun r46 => some (r46.1, r46.2))) else Option.bind (F_X4_fails (2 : Int32) (up2 σ.1 0 5 (0 : Int32), σ.2)) (fun r35 => some (r35.1, r35.2)))) else Option.bind (F_X4_fails (1 : Int32) (up2 σ.1 0 5 (0 : Int32), σ.2)) (fun r21 => some (r21.1, r21.2))))))
set_option maxHeartbeats 4000000 in
set_option maxRecDepth 100000 in
theorem c_X4_add {l : Launch} {D : va_G} {ay : Nat → ClassId} {ad : Nat → Nat} {a1 : Int32} {a2 : Int32} {σ : (Mem × Int64)} {res : Int32 × (Mem × Int64)} (hI : amOK ad) (hF : F_X4_add a1 a2 σ = some res) : Met l yX4_add wsX4_add ({ frames := 4, cells := 0, slots := 0, locals := 85 } : Room) (va_Pc [.ref (ad 0), .int a1, .int a2] (PP D ay (wM ay ad σ))) (va_Qi (pE res) (fun τ => PP D ay (wM ay ad τ)) (AM ad)) 0 0 (AM ad) := by
  refine g_start (wd := wM ay ad) (A := AM ad) (own := RX4) (mL := 3) (rt := (some .int)) (by decide) rfl rfl (Nat.le_of_ble_eq_true rfl) ?_
  intro p e s m below meth c ls X hl
  have hl : lv_has ls 3 [(0, .ref (ad 0)), (1, .int a1), (2, .int a2)] := hl
  rw [F_X4_add] at hF
  refine g_aload_n X dX4_add_0 rfl (lv_at hl 0 rfl) ?_
  refine g_iconst (v := 0) X dX4_add_1 (by decide) ?_
  refine g_put X (wM_D hI) ((up2 σ.1 0 5 (0 : Int32), σ.2)) 0 (mo_obj) 5 (set_mo5) tyX4 tyX4_ok nmX4 in_X4_add_X4 rfl (by decide) (X.ts (.fieldLink RX4 34 "LeadTimesModel" "thrown" "I") (by decide +kernel)) rfl rfl rfl rfl rfl (Nat.le_of_ble_eq_true rfl) dX4_add_2 ?_
  refine g_iload_n X dX4_add_5 rfl (lv_at hl 1 rfl) ?_
  obtain ⟨r6, hr6, hF⟩ := obind hF
  refine k_Sz X (As := [.int a1]) (rest := []) (c_X4_isValue hI hr6) (va_cwS 1 X.ts gX4_add_X4_isValue rfl rfl rfl (by decide +kernel) ⟨Nat.le_of_ble_eq_true rfl, Nat.le_of_ble_eq_true rfl⟩) rfl hl.1 rfl (Nat.le_of_ble_eq_true rfl) dX4_add_6 (fun hz6 => ?_)
  refine g_if_eq (tgt := 19) X dX4_add_9 (by decide) (fun hc9 => ?_) (fun hc9 => ?_)
  · have hF := ite_t hF hc9
    refine g_aload_n X dX4_add_19 rfl (lv_at hl 0 rfl) ?_
    refine g_iconst (v := 1) X dX4_add_20 (by decide) ?_
    obtain ⟨r21, hr21, hF⟩ := obind hF
    refine k_Vie X (As := [.int (1 : Int32)]) (rest := []) (c_X4_fails hI hr21) (cwV 1 X.ts gX4_add_X4_fails rfl rfl rfl (by decide +kernel) ⟨Nat.le_of_ble_eq_true rfl, Nat.le_of_ble_eq_true rfl⟩) ⟨0, 4, _, _, mo_obj, rfl, rfl⟩ rfl hl.1 rfl (Nat.le_of_ble_eq_true rfl) dX4_add_21 ?_
    exact g_iret X (pE_mk (some_inj hF)) dX4_add_24
  · have hF := ite_f hF hc9
    refine g_iload_n X dX4_add_12 rfl (lv_at hl 2 rfl) ?_
    obtain ⟨r13, hr13, hF⟩ := obind hF
    refine k_Sz X (As := [.int a2]) (rest := []) (c_X4_isSpeed hI hr13) (va_cwS 1 X.ts gX4_add_X4_isSpeed rfl rfl rfl (by decide +kernel) ⟨Nat.le_of_ble_eq_true rfl, Nat.le_of_ble_eq_true rfl⟩) rfl hl.1 rfl (Nat.le_of_ble_eq_true rfl) dX4_add_13 (fun hz13 => ?_)
    refine g_if_ne (tgt := 25) X dX4_add_16 (by decide) (fun hc16 => ?_) (fun hc16 => ?_)
    · have hF := ite_t hF hc16
      refine g_aload_n X dX4_add_25 rfl (lv_at hl 0 rfl) ?_
      obtain ⟨r26, hr26, hF⟩ := obind hF
      refine k_Vi X (As := []) (rest := []) (c_X4_freeSlot hI hr26) (cwV 0 X.ts gX4_add_X4_freeSlot rfl rfl rfl (by decide +kernel) ⟨Nat.le_of_ble_eq_true rfl, Nat.le_of_ble_eq_true rfl⟩) ⟨0, 4, _, _, mo_obj, rfl, rfl⟩ rfl hl.1 rfl (Nat.le_of_ble_eq_true rfl) dX4_add_26 ?_
      refine g_iconst (v := -1) X dX4_add_29 (by decide) ?_
      refine g_icmp_ne (tgt := 39) X dX4_add_30 (by decide) (fun hc30 => ?_) (fun hc30 => ?_)
      · have hF := ite_t hF hc30
        refine g_aload_n X dX4_add_39 rfl (lv_at hl 0 rfl) ?_
        obtain ⟨r40, hr40, hF⟩ := obind hF
        refine k_Vv X (As := []) (rest := []) (c_X4_save hI hr40) (cwV 0 X.ts gX4_add_X4_save rfl rfl rfl (by decide +kernel) ⟨Nat.le_of_ble_eq_true rfl, Nat.le_of_ble_eq_true rfl⟩) ⟨0, 4, _, _, mo_obj, rfl, rfl⟩ rfl hl.1 rfl (Nat.le_of_ble_eq_true rfl) dX4_add_40 ?_
        refine g_aload_n X dX4_add_43 rfl (lv_at hl 0 rfl) ?_
        refine g_iload_n X dX4_add_44 rfl (lv_at hl 1 rfl) ?_
        refine g_iload_n X dX4_add_45 rfl (lv_at hl 2 rfl) ?_
        obtain ⟨r46, hr46, hF⟩ := obind hF
        refine k_Vie X (As := [.int a1, .int a2]) (rest := []) (c_X4_addNow hI hr46) (cwV 2 X.ts gX4_add_X4_addNow rfl rfl rfl (by decide +kernel) ⟨Nat.le_of_ble_eq_true rfl, Nat.le_of_ble_eq_true rfl⟩) ⟨0, 4, _, _, mo_obj, rfl, rfl⟩ rfl hl.1 rfl (Nat.le_of_ble_eq_true rfl) dX4_add_46 ?_
        exact g_iret X (pE_mk (some_inj hF)) dX4_add_49
      · have hF := ite_n hF hc30
        refine g_aload_n X dX4_add_33 rfl (lv_at hl 0 rfl) ?_
        refine g_iconst (v := 2) X dX4_add_34 (by decide) ?_
        obtain ⟨r35, hr35, hF⟩ := obind hF
        refine k_Vie X (As := [.int (2 : Int32)]) (rest := []) (c_X4_fails hI hr35) (cwV 1 X.ts gX4_add_X4_fails rfl rfl rfl (by decide +kernel) ⟨Nat.le_of_ble_eq_true rfl, Nat.le_of_ble_eq_true rfl⟩) ⟨0, 4, _, _, mo_obj, rfl, rfl⟩ rfl hl.1 rfl (Nat.le_of_ble_eq_true rfl) dX4_add_35 ?_
        exact g_iret X (pE_mk (some_inj hF)) dX4_add_38
    · have hF := ite_n hF hc16
      refine g_aload_n X dX4_add_19 rfl (lv_at hl 0 rfl) ?_
      refine g_iconst (v := 1) X dX4_add_20 (by decide) ?_
      obtain ⟨r21, hr21, hF⟩ := obind hF
      refine k_Vie X (As := [.int (1 : Int32)]) (rest := []) (c_X4_fails hI hr21) (cwV 1 X.ts gX4_add_X4_fails rfl rfl rfl (by decide +kernel) ⟨Nat.le_of_ble_eq_true rfl, Nat.le_of_ble_eq_true rfl⟩) ⟨0, 4, _, _, mo_obj, rfl, rfl⟩ rfl hl.1 rfl (Nat.le_of_ble_eq_true rfl) dX4_add_21 ?_
      exact g_iret X (pE_mk (some_inj hF)) dX4_add_24
theorem in_X4_remove_X4 : ∀ w ∈ wsX40, w ∈ wsX4_remove := by decide +kernel
def L_X4_remove_37 (a1 : Int32) (a2 : Int32) : Nat → Int32 → (Mem × Int64) → Option (Mem × Int64)
  | 0, _, _ => none
  | fu + 1, a3, σ => (if (4 : Int32) ≤ a3 then some σ else Option.bind (F_X4_at a1) (fun r47 => if inb (r47 + a3) 84 then (L_X4_remove_37 a1 a2 fu (a3 + 1) (up2 σ.1 1 ((r47 + a3).toNatClampNeg) (0 : Int32), σ.2)) else none))
set_option maxHeartbeats 4000000 in
set_option maxRecDepth 100000 in
theorem w_X4_remove_37 {D : va_G} {ay : Nat → ClassId} {ad : Nat → Nat} {p : Program} {l : Launch} {e : Env} {s : State} {m : MethodId} {args : Array Value} {below : List Frame} {meth : Method} {c : Code} {Q : State → Prop} {a1 : Int32} {a2 : Int32} {res : (Mem × Int64)} (X : CX D ay p s m args meth c cX4_remove 4 RX4 (some .int) wsX4_remove) (hI : amOK ad) (K : ∀ ls : Array Slot, lv_has ls 4 [(2, .int a2)] → GW D (wM ay ad) (AM ad) p l e ({ frames := 3, cells := 0, slots := 0, locals := 62 } : Room) s m args below meth c Q res (F0 m 60 ls [])) : ∀ (fu : Nat) (a3 : Int32) (σ : (Mem × Int64)), L_X4_remove_37 a1 a2 fu a3 σ = some res → ∀ ls : Array Slot, lv_has ls 4 [(0, .ref (ad 0)), (1, .int a1), (2, .int a2), (3, .int a3)] → GW D (wM ay ad) (AM ad) p l e ({ frames := 3, cells := 0, slots := 0, locals := 62 } : Room) s m args below meth c Q σ (F0 m 37 ls []) := by
  intro fu
  induction fu with
  | zero =>
    intro a3 σ hF ls hl
    rw [L_X4_remove_37] at hF
    cases hF
  | succ fu ih =>
    intro a3 σ hF ls hl
    rw [L_X4_remove_37] at hF
    refine g_iload_n X dX4_remove_37 rfl (lv_at hl 3 rfl) ?_
    refine g_iconst (v := 4) X dX4_remove_38 (by decide) ?_
    refine g_icmp_ge (tgt := 60) X dX4_remove_39 (by decide) (fun hc39 => ?_) (fun hc39 => ?_)
    · have hF := ite_t hF hc39
      have e37 := some_inj hF
      subst e37
      exact K ls (lv_sub hl [2] rfl)
    · have hF := ite_f hF hc39
      refine g_aload_n X dX4_remove_42 rfl (lv_at hl 0 rfl) ?_
      refine g_get X 0 (mo_obj) in_X4_remove_X4 rfl 0 (by decide) (X.ts (.fieldLink RX4 7 "LeadTimesModel" "z" "[I") (by decide +kernel)) rfl rfl dX4_remove_43 ?_
      refine g_iload_n X dX4_remove_46 rfl (lv_at hl 1 rfl) ?_
      obtain ⟨r47, hr47, hF⟩ := obind hF
      refine k_Si X (As := [.int a1]) (rest := [.ref (ad 1)]) (c_X4_at hI hr47) (va_cwS 1 X.ts gX4_remove_X4_at rfl rfl rfl (by decide +kernel) ⟨Nat.le_of_ble_eq_true rfl, Nat.le_of_ble_eq_true rfl⟩) rfl hl.1 rfl (Nat.le_of_ble_eq_true rfl) dX4_remove_47 ?_
      refine g_iload_n X dX4_remove_50 rfl (lv_at hl 3 rfl) ?_
      refine g_iadd X dX4_remove_51 ?_
      refine g_iconst (v := 0) X dX4_remove_52 (by decide) ?_
      obtain ⟨h53, hF⟩ := itn hF
      refine g_iast X (wM_D hI) ((up2 σ.1 1 ((r47 + a3).toNatClampNeg) (0 : Int32), σ.2)) 1 (j := (r47 + a3).toNatClampNeg) (mo_arr1) (by first | rfl | decide) (set_arrM (a := 0) (n := 84) (fun τ => mo_arr1)) (inb_in h53) dX4_remove_53 ?_
      refine g_iinc (v := a3 + 1) (lv' := [(3, _), (0, _), (1, _), (2, _)]) X dX4_remove_54 hl (k := 3) rfl rfl (by decide) rfl (fun ls hl => ?_)
      refine g_goto (tgt := 37) X dX4_remove_57 (by decide) ?_
      exact ih (a3 + 1) (up2 σ.1 1 ((r47 + a3).toNatClampNeg) (0 : Int32), σ.2) hF ls (lv_sub hl [1, 2, 3, 0] rfl)
def F_X4_remove (a1 : Int32) (σ : (Mem × Int64)) : Option (Int32 × (Mem × Int64)) := Option.bind (F_X4_isMover a1 (up2 σ.1 0 5 (0 : Int32), σ.2)) (fun r7 => (if ¬ r7 = 0 then Option.bind (F_X4_save (up2 σ.1 0 5 (0 : Int32), σ.2)) (fun r20 => Option.bind (F_X4_at a1) (fun r28 => if inb (r28 + (1 : Int32)) 84 then (Option.bind (L_X4_remove_37 a1 (r20.1 1 ((r28 + (1 : Int32)).toNatClampNeg)) FU (0 : Int32) r20) (fun v37 : (Mem × Int64) => some (r20.1 1 ((r28 + (1 : Int32)).toNatClampNeg), v37))) else none)) else Option.bind (F_X4_fails (1 : Int32) (up2 σ.1 0 5 (0 : Int32), σ.2)) (fun r15 => some (r15.1, r15.2))))
set_option maxHeartbeats 4000000 in
set_option maxRecDepth 100000 in
theorem c_X4_remove {l : Launch} {D : va_G} {ay : Nat → ClassId} {ad : Nat → Nat} {a1 : Int32} {σ : (Mem × Int64)} {res : Int32 × (Mem × Int64)} (hI : amOK ad) (hF : F_X4_remove a1 σ = some res) : Met l yX4_remove wsX4_remove ({ frames := 3, cells := 0, slots := 0, locals := 62 } : Room) (va_Pc [.ref (ad 0), .int a1] (PP D ay (wM ay ad σ))) (va_Qi (pE res) (fun τ => PP D ay (wM ay ad τ)) (AM ad)) 0 0 (AM ad) := by
  refine g_start (wd := wM ay ad) (A := AM ad) (own := RX4) (mL := 4) (rt := (some .int)) (by decide) rfl rfl (Nat.le_of_ble_eq_true rfl) ?_
  intro p e s m below meth c ls X hl
  have hl : lv_has ls 4 [(0, .ref (ad 0)), (1, .int a1)] := hl
  rw [F_X4_remove] at hF
  refine g_aload_n X dX4_remove_0 rfl (lv_at hl 0 rfl) ?_
  refine g_iconst (v := 0) X dX4_remove_1 (by decide) ?_
  refine g_put X (wM_D hI) ((up2 σ.1 0 5 (0 : Int32), σ.2)) 0 (mo_obj) 5 (set_mo5) tyX4 tyX4_ok nmX4 in_X4_remove_X4 rfl (by decide) (X.ts (.fieldLink RX4 34 "LeadTimesModel" "thrown" "I") (by decide +kernel)) rfl rfl rfl rfl rfl (Nat.le_of_ble_eq_true rfl) dX4_remove_2 ?_
  refine g_aload_n X dX4_remove_5 rfl (lv_at hl 0 rfl) ?_
  refine g_iload_n X dX4_remove_6 rfl (lv_at hl 1 rfl) ?_
  obtain ⟨r7, hr7, hF⟩ := obind hF
  refine k_Vz X (As := [.int a1]) (rest := []) (c_X4_isMover hI hr7) (cwV 1 X.ts gX4_remove_X4_isMover rfl rfl rfl (by decide +kernel) ⟨Nat.le_of_ble_eq_true rfl, Nat.le_of_ble_eq_true rfl⟩) ⟨0, 4, _, _, mo_obj, rfl, rfl⟩ rfl hl.1 rfl (Nat.le_of_ble_eq_true rfl) dX4_remove_7 (fun hz7 => ?_)
  refine g_if_ne (tgt := 19) X dX4_remove_10 (by decide) (fun hc10 => ?_) (fun hc10 => ?_)
  · have hF := ite_t hF hc10
    refine g_aload_n X dX4_remove_19 rfl (lv_at hl 0 rfl) ?_
    obtain ⟨r20, hr20, hF⟩ := obind hF
    refine k_Vv X (As := []) (rest := []) (c_X4_save hI hr20) (cwV 0 X.ts gX4_remove_X4_save rfl rfl rfl (by decide +kernel) ⟨Nat.le_of_ble_eq_true rfl, Nat.le_of_ble_eq_true rfl⟩) ⟨0, 4, _, _, mo_obj, rfl, rfl⟩ rfl hl.1 rfl (Nat.le_of_ble_eq_true rfl) dX4_remove_20 ?_
    refine g_aload_n X dX4_remove_23 rfl (lv_at hl 0 rfl) ?_
    refine g_get X 0 (mo_obj) in_X4_remove_X4 rfl 0 (by decide) (X.ts (.fieldLink RX4 7 "LeadTimesModel" "z" "[I") (by decide +kernel)) rfl rfl dX4_remove_24 ?_
    refine g_iload_n X dX4_remove_27 rfl (lv_at hl 1 rfl) ?_
    obtain ⟨r28, hr28, hF⟩ := obind hF
    refine k_Si X (As := [.int a1]) (rest := [.ref (ad 1)]) (c_X4_at hI hr28) (va_cwS 1 X.ts gX4_remove_X4_at rfl rfl rfl (by decide +kernel) ⟨Nat.le_of_ble_eq_true rfl, Nat.le_of_ble_eq_true rfl⟩) rfl hl.1 rfl (Nat.le_of_ble_eq_true rfl) dX4_remove_28 ?_
    refine g_iconst (v := 1) X dX4_remove_31 (by decide) ?_
    refine g_iadd X dX4_remove_32 ?_
    obtain ⟨h33, hF⟩ := itn hF
    refine g_iald X 1 (j := (r28 + (1 : Int32)).toNatClampNeg) (mo_arr1) (by first | rfl | decide) (inb_in h33) dX4_remove_33 ?_
    refine g_istore_n (lv' := [(2, _), (0, _), (1, _)]) X dX4_remove_34 rfl hl (by decide) rfl (fun ls hl => ?_)
    refine g_iconst (v := 0) X dX4_remove_35 (by decide) ?_
    refine g_istore_n (lv' := [(3, _), (2, _), (0, _), (1, _)]) X dX4_remove_36 rfl hl (by decide) rfl (fun ls hl => ?_)
    obtain ⟨v37, hL37, hF⟩ := obind hF
    refine w_X4_remove_37 X hI (fun ls hl => ?_) FU (0 : Int32) r20 hL37 ls (lv_sub hl [2, 3, 1, 0] rfl)
    refine g_iload_n X dX4_remove_60 rfl (lv_at hl 0 rfl) ?_
    exact g_iret X (pE_mk (some_inj hF)) dX4_remove_61
  · have hF := ite_n hF hc10
    refine g_aload_n X dX4_remove_13 rfl (lv_at hl 0 rfl) ?_
    refine g_iconst (v := 1) X dX4_remove_14 (by decide) ?_
    obtain ⟨r15, hr15, hF⟩ := obind hF
    refine k_Vie X (As := [.int (1 : Int32)]) (rest := []) (c_X4_fails hI hr15) (cwV 1 X.ts gX4_remove_X4_fails rfl rfl rfl (by decide +kernel) ⟨Nat.le_of_ble_eq_true rfl, Nat.le_of_ble_eq_true rfl⟩) ⟨0, 4, _, _, mo_obj, rfl, rfl⟩ rfl hl.1 rfl (Nat.le_of_ble_eq_true rfl) dX4_remove_15 ?_
    exact g_iret X (pE_mk (some_inj hF)) dX4_remove_18
theorem in_X4_speed_X4 : ∀ w ∈ wsX40, w ∈ wsX4_speed := by decide +kernel
def F_X4_speed (a1 : Int32) (a2 : Int32) (σ : (Mem × Int64)) : Option (Int32 × (Mem × Int64)) := Option.bind (F_X4_isMover a1 (up2 σ.1 0 5 (0 : Int32), σ.2)) (fun r7 => (if ¬ r7 = 0 then Option.bind (F_X4_isSpeed a2) (fun r20 => (if ¬ r20 = 0 then Option.bind (F_X4_save (up2 σ.1 0 5 (0 : Int32), σ.2)) (fun r33 => Option.bind (F_X4_at a1) (fun r41 => if inb (r41 + (2 : Int32)) 84 then (Option.bind (F_X4_at a1) (fun r53 => if inb (r53 + (2 : Int32)) 84 then (some (r33.1 1 ((r41 + (2 : Int32)).toNatClampNeg), (up2 r33.1 1 ((r53 + (2 : Int32)).toNatClampNeg) a2, r33.2))) else none)) else none)) else Option.bind (F_X4_fails (2 : Int32) (up2 σ.1 0 5 (0 : Int32), σ.2)) (fun r28 => some (r28.1, r28.2)))) else Option.bind (F_X4_fails (1 : Int32) (up2 σ.1 0 5 (0 : Int32), σ.2)) (fun r15 => some (r15.1, r15.2))))
set_option maxHeartbeats 4000000 in
set_option maxRecDepth 100000 in
theorem c_X4_speed {l : Launch} {D : va_G} {ay : Nat → ClassId} {ad : Nat → Nat} {a1 : Int32} {a2 : Int32} {σ : (Mem × Int64)} {res : Int32 × (Mem × Int64)} (hI : amOK ad) (hF : F_X4_speed a1 a2 σ = some res) : Met l yX4_speed wsX4_speed ({ frames := 3, cells := 0, slots := 0, locals := 62 } : Room) (va_Pc [.ref (ad 0), .int a1, .int a2] (PP D ay (wM ay ad σ))) (va_Qi (pE res) (fun τ => PP D ay (wM ay ad τ)) (AM ad)) 0 0 (AM ad) := by
  refine g_start (wd := wM ay ad) (A := AM ad) (own := RX4) (mL := 4) (rt := (some .int)) (by decide) rfl rfl (Nat.le_of_ble_eq_true rfl) ?_
  intro p e s m below meth c ls X hl
  have hl : lv_has ls 4 [(0, .ref (ad 0)), (1, .int a1), (2, .int a2)] := hl
  rw [F_X4_speed] at hF
  refine g_aload_n X dX4_speed_0 rfl (lv_at hl 0 rfl) ?_
  refine g_iconst (v := 0) X dX4_speed_1 (by decide) ?_
  refine g_put X (wM_D hI) ((up2 σ.1 0 5 (0 : Int32), σ.2)) 0 (mo_obj) 5 (set_mo5) tyX4 tyX4_ok nmX4 in_X4_speed_X4 rfl (by decide) (X.ts (.fieldLink RX4 34 "LeadTimesModel" "thrown" "I") (by decide +kernel)) rfl rfl rfl rfl rfl (Nat.le_of_ble_eq_true rfl) dX4_speed_2 ?_
  refine g_aload_n X dX4_speed_5 rfl (lv_at hl 0 rfl) ?_
  refine g_iload_n X dX4_speed_6 rfl (lv_at hl 1 rfl) ?_
  obtain ⟨r7, hr7, hF⟩ := obind hF
  refine k_Vz X (As := [.int a1]) (rest := []) (c_X4_isMover hI hr7) (cwV 1 X.ts gX4_speed_X4_isMover rfl rfl rfl (by decide +kernel) ⟨Nat.le_of_ble_eq_true rfl, Nat.le_of_ble_eq_true rfl⟩) ⟨0, 4, _, _, mo_obj, rfl, rfl⟩ rfl hl.1 rfl (Nat.le_of_ble_eq_true rfl) dX4_speed_7 (fun hz7 => ?_)
  refine g_if_ne (tgt := 19) X dX4_speed_10 (by decide) (fun hc10 => ?_) (fun hc10 => ?_)
  · have hF := ite_t hF hc10
    refine g_iload_n X dX4_speed_19 rfl (lv_at hl 2 rfl) ?_
    obtain ⟨r20, hr20, hF⟩ := obind hF
    refine k_Sz X (As := [.int a2]) (rest := []) (c_X4_isSpeed hI hr20) (va_cwS 1 X.ts gX4_speed_X4_isSpeed rfl rfl rfl (by decide +kernel) ⟨Nat.le_of_ble_eq_true rfl, Nat.le_of_ble_eq_true rfl⟩) rfl hl.1 rfl (Nat.le_of_ble_eq_true rfl) dX4_speed_20 (fun hz20 => ?_)
    refine g_if_ne (tgt := 32) X dX4_speed_23 (by decide) (fun hc23 => ?_) (fun hc23 => ?_)
    · have hF := ite_t hF hc23
      refine g_aload_n X dX4_speed_32 rfl (lv_at hl 0 rfl) ?_
      obtain ⟨r33, hr33, hF⟩ := obind hF
      refine k_Vv X (As := []) (rest := []) (c_X4_save hI hr33) (cwV 0 X.ts gX4_speed_X4_save rfl rfl rfl (by decide +kernel) ⟨Nat.le_of_ble_eq_true rfl, Nat.le_of_ble_eq_true rfl⟩) ⟨0, 4, _, _, mo_obj, rfl, rfl⟩ rfl hl.1 rfl (Nat.le_of_ble_eq_true rfl) dX4_speed_33 ?_
      refine g_aload_n X dX4_speed_36 rfl (lv_at hl 0 rfl) ?_
      refine g_get X 0 (mo_obj) in_X4_speed_X4 rfl 0 (by decide) (X.ts (.fieldLink RX4 7 "LeadTimesModel" "z" "[I") (by decide +kernel)) rfl rfl dX4_speed_37 ?_
      refine g_iload_n X dX4_speed_40 rfl (lv_at hl 1 rfl) ?_
      obtain ⟨r41, hr41, hF⟩ := obind hF
      refine k_Si X (As := [.int a1]) (rest := [.ref (ad 1)]) (c_X4_at hI hr41) (va_cwS 1 X.ts gX4_speed_X4_at rfl rfl rfl (by decide +kernel) ⟨Nat.le_of_ble_eq_true rfl, Nat.le_of_ble_eq_true rfl⟩) rfl hl.1 rfl (Nat.le_of_ble_eq_true rfl) dX4_speed_41 ?_
      refine g_iconst (v := 2) X dX4_speed_44 (by decide) ?_
      refine g_iadd X dX4_speed_45 ?_
      obtain ⟨h46, hF⟩ := itn hF
      refine g_iald X 1 (j := (r41 + (2 : Int32)).toNatClampNeg) (mo_arr1) (by first | rfl | decide) (inb_in h46) dX4_speed_46 ?_
      refine g_istore_n (lv' := [(3, _), (0, _), (1, _), (2, _)]) X dX4_speed_47 rfl hl (by decide) rfl (fun ls hl => ?_)
      refine g_aload_n X dX4_speed_48 rfl (lv_at hl 1 rfl) ?_
      refine g_get X 0 (mo_obj) in_X4_speed_X4 rfl 0 (by decide) (X.ts (.fieldLink RX4 7 "LeadTimesModel" "z" "[I") (by decide +kernel)) rfl rfl dX4_speed_49 ?_
      refine g_iload_n X dX4_speed_52 rfl (lv_at hl 2 rfl) ?_
      obtain ⟨r53, hr53, hF⟩ := obind hF
      refine k_Si X (As := [.int a1]) (rest := [.ref (ad 1)]) (c_X4_at hI hr53) (va_cwS 1 X.ts gX4_speed_X4_at rfl rfl rfl (by decide +kernel) ⟨Nat.le_of_ble_eq_true rfl, Nat.le_of_ble_eq_true rfl⟩) rfl hl.1 rfl (Nat.le_of_ble_eq_true rfl) dX4_speed_53 ?_
      refine g_iconst (v := 2) X dX4_speed_56 (by decide) ?_
      refine g_iadd X dX4_speed_57 ?_
      refine g_iload_n X dX4_speed_58 rfl (lv_at hl 3 rfl) ?_
      obtain ⟨h59, hF⟩ := itn hF
      refine g_iast X (wM_D hI) ((up2 r33.1 1 ((r53 + (2 : Int32)).toNatClampNeg) a2, r33.2)) 1 (j := (r53 + (2 : Int32)).toNatClampNeg) (mo_arr1) (by first | rfl | decide) (set_arrM (a := 0) (n := 84) (fun τ => mo_arr1)) (inb_in h59) dX4_speed_59 ?_
      refine g_iload_n X dX4_speed_60 rfl (lv_at hl 0 rfl) ?_
      exact g_iret X (pE_mk (some_inj hF)) dX4_speed_61
    · have hF := ite_n hF hc23
      refine g_aload_n X dX4_speed_26 rfl (lv_at hl 0 rfl) ?_
      refine g_iconst (v := 2) X dX4_speed_27 (by decide) ?_
      obtain ⟨r28, hr28, hF⟩ := obind hF
      refine k_Vie X (As := [.int (2 : Int32)]) (rest := []) (c_X4_fails hI hr28) (cwV 1 X.ts gX4_speed_X4_fails rfl rfl rfl (by decide +kernel) ⟨Nat.le_of_ble_eq_true rfl, Nat.le_of_ble_eq_true rfl⟩) ⟨0, 4, _, _, mo_obj, rfl, rfl⟩ rfl hl.1 rfl (Nat.le_of_ble_eq_true rfl) dX4_speed_28 ?_
      exact g_iret X (pE_mk (some_inj hF)) dX4_speed_31
  · have hF := ite_n hF hc10
    refine g_aload_n X dX4_speed_13 rfl (lv_at hl 0 rfl) ?_
    refine g_iconst (v := 1) X dX4_speed_14 (by decide) ?_
    obtain ⟨r15, hr15, hF⟩ := obind hF
    refine k_Vie X (As := [.int (1 : Int32)]) (rest := []) (c_X4_fails hI hr15) (cwV 1 X.ts gX4_speed_X4_fails rfl rfl rfl (by decide +kernel) ⟨Nat.le_of_ble_eq_true rfl, Nat.le_of_ble_eq_true rfl⟩) ⟨0, 4, _, _, mo_obj, rfl, rfl⟩ rfl hl.1 rfl (Nat.le_of_ble_eq_true rfl) dX4_speed_15 ?_
    exact g_iret X (pE_mk (some_inj hF)) dX4_speed_18
theorem in_X4_jump_X4 : ∀ w ∈ wsX40, w ∈ wsX4_jump := by decide +kernel
def F_X4_jump (a1 : Int32) (a2 : Int32) (σ : (Mem × Int64)) : Option (Int32 × (Mem × Int64)) := Option.bind (F_X4_isMover a1 (up2 σ.1 0 5 (0 : Int32), σ.2)) (fun r7 => (if ¬ r7 = 0 then Option.bind (F_X4_isValue a2) (fun r20 => (if ¬ r20 = 0 then Option.bind (F_X4_at a1) (fun r37 => if inb (r37 + (1 : Int32)) 84 then (Option.bind (F_X4_in (((up2 σ.1 0 5 (0 : Int32)) 1 ((r37 + (1 : Int32)).toNatClampNeg)) + a2) (-1000000 : Int32) (1000000 : Int32)) (fun r51 => (if ¬ r51 = 0 then Option.bind (F_X4_save (up2 σ.1 0 5 (0 : Int32), σ.2)) (fun r64 => Option.bind (F_X4_at a1) (fun r72 => if inb (r72 + (1 : Int32)) 84 then (some (((up2 σ.1 0 5 (0 : Int32)) 1 ((r37 + (1 : Int32)).toNatClampNeg)) + a2, (up2 r64.1 1 ((r72 + (1 : Int32)).toNatClampNeg) (((up2 σ.1 0 5 (0 : Int32)) 1 ((r37 + (1 : Int32)).toNatClampNeg)) + a2), r64.2))) else none)) else Option.bind (F_X4_fails (3 : Int32) (up2 σ.1 0 5 (0 : Int32), σ.2)) (fun r59 => some (r59.1, r59.2))))) else none) else Option.bind (F_X4_fails (2 : Int32) (up2 σ.1 0 5 (0 : Int32), σ.2)) (fun r28 => some (r28.1, r28.2)))) else Option.bind (F_X4_fails (1 : Int32) (up2 σ.1 0 5 (0 : Int32), σ.2)) (fun r15 => some (r15.1, r15.2))))
set_option maxHeartbeats 4000000 in
set_option maxRecDepth 100000 in
theorem c_X4_jump {l : Launch} {D : va_G} {ay : Nat → ClassId} {ad : Nat → Nat} {a1 : Int32} {a2 : Int32} {σ : (Mem × Int64)} {res : Int32 × (Mem × Int64)} (hI : amOK ad) (hF : F_X4_jump a1 a2 σ = some res) : Met l yX4_jump wsX4_jump ({ frames := 3, cells := 0, slots := 0, locals := 62 } : Room) (va_Pc [.ref (ad 0), .int a1, .int a2] (PP D ay (wM ay ad σ))) (va_Qi (pE res) (fun τ => PP D ay (wM ay ad τ)) (AM ad)) 0 0 (AM ad) := by
  refine g_start (wd := wM ay ad) (A := AM ad) (own := RX4) (mL := 4) (rt := (some .int)) (by decide) rfl rfl (Nat.le_of_ble_eq_true rfl) ?_
  intro p e s m below meth c ls X hl
  have hl : lv_has ls 4 [(0, .ref (ad 0)), (1, .int a1), (2, .int a2)] := hl
  rw [F_X4_jump] at hF
  refine g_aload_n X dX4_jump_0 rfl (lv_at hl 0 rfl) ?_
  refine g_iconst (v := 0) X dX4_jump_1 (by decide) ?_
  refine g_put X (wM_D hI) ((up2 σ.1 0 5 (0 : Int32), σ.2)) 0 (mo_obj) 5 (set_mo5) tyX4 tyX4_ok nmX4 in_X4_jump_X4 rfl (by decide) (X.ts (.fieldLink RX4 34 "LeadTimesModel" "thrown" "I") (by decide +kernel)) rfl rfl rfl rfl rfl (Nat.le_of_ble_eq_true rfl) dX4_jump_2 ?_
  refine g_aload_n X dX4_jump_5 rfl (lv_at hl 0 rfl) ?_
  refine g_iload_n X dX4_jump_6 rfl (lv_at hl 1 rfl) ?_
  obtain ⟨r7, hr7, hF⟩ := obind hF
  refine k_Vz X (As := [.int a1]) (rest := []) (c_X4_isMover hI hr7) (cwV 1 X.ts gX4_jump_X4_isMover rfl rfl rfl (by decide +kernel) ⟨Nat.le_of_ble_eq_true rfl, Nat.le_of_ble_eq_true rfl⟩) ⟨0, 4, _, _, mo_obj, rfl, rfl⟩ rfl hl.1 rfl (Nat.le_of_ble_eq_true rfl) dX4_jump_7 (fun hz7 => ?_)
  refine g_if_ne (tgt := 19) X dX4_jump_10 (by decide) (fun hc10 => ?_) (fun hc10 => ?_)
  · have hF := ite_t hF hc10
    refine g_iload_n X dX4_jump_19 rfl (lv_at hl 2 rfl) ?_
    obtain ⟨r20, hr20, hF⟩ := obind hF
    refine k_Sz X (As := [.int a2]) (rest := []) (c_X4_isValue hI hr20) (va_cwS 1 X.ts gX4_jump_X4_isValue rfl rfl rfl (by decide +kernel) ⟨Nat.le_of_ble_eq_true rfl, Nat.le_of_ble_eq_true rfl⟩) rfl hl.1 rfl (Nat.le_of_ble_eq_true rfl) dX4_jump_20 (fun hz20 => ?_)
    refine g_if_ne (tgt := 32) X dX4_jump_23 (by decide) (fun hc23 => ?_) (fun hc23 => ?_)
    · have hF := ite_t hF hc23
      refine g_aload_n X dX4_jump_32 rfl (lv_at hl 0 rfl) ?_
      refine g_get X 0 (mo_obj) in_X4_jump_X4 rfl 0 (by decide) (X.ts (.fieldLink RX4 7 "LeadTimesModel" "z" "[I") (by decide +kernel)) rfl rfl dX4_jump_33 ?_
      refine g_iload_n X dX4_jump_36 rfl (lv_at hl 1 rfl) ?_
      obtain ⟨r37, hr37, hF⟩ := obind hF
      refine k_Si X (As := [.int a1]) (rest := [.ref (ad 1)]) (c_X4_at hI hr37) (va_cwS 1 X.ts gX4_jump_X4_at rfl rfl rfl (by decide +kernel) ⟨Nat.le_of_ble_eq_true rfl, Nat.le_of_ble_eq_true rfl⟩) rfl hl.1 rfl (Nat.le_of_ble_eq_true rfl) dX4_jump_37 ?_
      refine g_iconst (v := 1) X dX4_jump_40 (by decide) ?_
      refine g_iadd X dX4_jump_41 ?_
      obtain ⟨h42, hF⟩ := itn hF
      refine g_iald X 1 (j := (r37 + (1 : Int32)).toNatClampNeg) (mo_arr1) (by first | rfl | decide) (inb_in h42) dX4_jump_42 ?_
      refine g_iload_n X dX4_jump_43 rfl (lv_at hl 2 rfl) ?_
      refine g_iadd X dX4_jump_44 ?_
      refine g_istore_n (lv' := [(3, _), (0, _), (1, _), (2, _)]) X dX4_jump_45 rfl hl (by decide) rfl (fun ls hl => ?_)
      refine g_iload_n X dX4_jump_46 rfl (lv_at hl 0 rfl) ?_
      refine g_ldc X dX4_jump_47 (X.ts (.constant RX4 114 (-1000000)) (by decide +kernel)) ?_
      refine g_ldc X dX4_jump_49 (X.ts (.constant RX4 115 (1000000)) (by decide +kernel)) ?_
      obtain ⟨r51, hr51, hF⟩ := obind hF
      refine k_Sz X (As := [.int (((up2 σ.1 0 5 (0 : Int32)) 1 ((r37 + (1 : Int32)).toNatClampNeg)) + a2), .int (-1000000 : Int32), .int (1000000 : Int32)]) (rest := []) (c_X4_in hI hr51) (va_cwS 3 X.ts gX4_jump_X4_in rfl rfl rfl (by decide +kernel) ⟨Nat.le_of_ble_eq_true rfl, Nat.le_of_ble_eq_true rfl⟩) rfl hl.1 rfl (Nat.le_of_ble_eq_true rfl) dX4_jump_51 (fun hz51 => ?_)
      refine g_if_ne (tgt := 63) X dX4_jump_54 (by decide) (fun hc54 => ?_) (fun hc54 => ?_)
      · have hF := ite_t hF hc54
        refine g_aload_n X dX4_jump_63 rfl (lv_at hl 1 rfl) ?_
        obtain ⟨r64, hr64, hF⟩ := obind hF
        refine k_Vv X (As := []) (rest := []) (c_X4_save hI hr64) (cwV 0 X.ts gX4_jump_X4_save rfl rfl rfl (by decide +kernel) ⟨Nat.le_of_ble_eq_true rfl, Nat.le_of_ble_eq_true rfl⟩) ⟨0, 4, _, _, mo_obj, rfl, rfl⟩ rfl hl.1 rfl (Nat.le_of_ble_eq_true rfl) dX4_jump_64 ?_
        refine g_aload_n X dX4_jump_67 rfl (lv_at hl 1 rfl) ?_
        refine g_get X 0 (mo_obj) in_X4_jump_X4 rfl 0 (by decide) (X.ts (.fieldLink RX4 7 "LeadTimesModel" "z" "[I") (by decide +kernel)) rfl rfl dX4_jump_68 ?_
        refine g_iload_n X dX4_jump_71 rfl (lv_at hl 2 rfl) ?_
        obtain ⟨r72, hr72, hF⟩ := obind hF
        refine k_Si X (As := [.int a1]) (rest := [.ref (ad 1)]) (c_X4_at hI hr72) (va_cwS 1 X.ts gX4_jump_X4_at rfl rfl rfl (by decide +kernel) ⟨Nat.le_of_ble_eq_true rfl, Nat.le_of_ble_eq_true rfl⟩) rfl hl.1 rfl (Nat.le_of_ble_eq_true rfl) dX4_jump_72 ?_
        refine g_iconst (v := 1) X dX4_jump_75 (by decide) ?_
        refine g_iadd X dX4_jump_76 ?_
        refine g_iload_n X dX4_jump_77 rfl (lv_at hl 0 rfl) ?_
        obtain ⟨h78, hF⟩ := itn hF
        refine g_iast X (wM_D hI) ((up2 r64.1 1 ((r72 + (1 : Int32)).toNatClampNeg) (((up2 σ.1 0 5 (0 : Int32)) 1 ((r37 + (1 : Int32)).toNatClampNeg)) + a2), r64.2)) 1 (j := (r72 + (1 : Int32)).toNatClampNeg) (mo_arr1) (by first | rfl | decide) (set_arrM (a := 0) (n := 84) (fun τ => mo_arr1)) (inb_in h78) dX4_jump_78 ?_
        refine g_iload_n X dX4_jump_79 rfl (lv_at hl 0 rfl) ?_
        exact g_iret X (pE_mk (some_inj hF)) dX4_jump_80
      · have hF := ite_n hF hc54
        refine g_aload_n X dX4_jump_57 rfl (lv_at hl 1 rfl) ?_
        refine g_iconst (v := 3) X dX4_jump_58 (by decide) ?_
        obtain ⟨r59, hr59, hF⟩ := obind hF
        refine k_Vie X (As := [.int (3 : Int32)]) (rest := []) (c_X4_fails hI hr59) (cwV 1 X.ts gX4_jump_X4_fails rfl rfl rfl (by decide +kernel) ⟨Nat.le_of_ble_eq_true rfl, Nat.le_of_ble_eq_true rfl⟩) ⟨0, 4, _, _, mo_obj, rfl, rfl⟩ rfl hl.1 rfl (Nat.le_of_ble_eq_true rfl) dX4_jump_59 ?_
        exact g_iret X (pE_mk (some_inj hF)) dX4_jump_62
    · have hF := ite_n hF hc23
      refine g_aload_n X dX4_jump_26 rfl (lv_at hl 0 rfl) ?_
      refine g_iconst (v := 2) X dX4_jump_27 (by decide) ?_
      obtain ⟨r28, hr28, hF⟩ := obind hF
      refine k_Vie X (As := [.int (2 : Int32)]) (rest := []) (c_X4_fails hI hr28) (cwV 1 X.ts gX4_jump_X4_fails rfl rfl rfl (by decide +kernel) ⟨Nat.le_of_ble_eq_true rfl, Nat.le_of_ble_eq_true rfl⟩) ⟨0, 4, _, _, mo_obj, rfl, rfl⟩ rfl hl.1 rfl (Nat.le_of_ble_eq_true rfl) dX4_jump_28 ?_
      exact g_iret X (pE_mk (some_inj hF)) dX4_jump_31
  · have hF := ite_n hF hc10
    refine g_aload_n X dX4_jump_13 rfl (lv_at hl 0 rfl) ?_
    refine g_iconst (v := 1) X dX4_jump_14 (by decide) ?_
    obtain ⟨r15, hr15, hF⟩ := obind hF
    refine k_Vie X (As := [.int (1 : Int32)]) (rest := []) (c_X4_fails hI hr15) (cwV 1 X.ts gX4_jump_X4_fails rfl rfl rfl (by decide +kernel) ⟨Nat.le_of_ble_eq_true rfl, Nat.le_of_ble_eq_true rfl⟩) ⟨0, 4, _, _, mo_obj, rfl, rfl⟩ rfl hl.1 rfl (Nat.le_of_ble_eq_true rfl) dX4_jump_15 ?_
    exact g_iret X (pE_mk (some_inj hF)) dX4_jump_18
theorem in_X4_swap_X4 : ∀ w ∈ wsX40, w ∈ wsX4_swap := by decide +kernel
def L_X4_swap_37 (a1 : Int32) (a2 : Int32) : Nat → Int32 → (Mem × Int64) → Option (Mem × Int64)
  | 0, _, _ => none
  | fu + 1, a3, σ => (if (15 : Int32) < a3 then some σ else Option.bind (F_X4_winnerOf a3 σ) (fun r50 => if inb a3 16 then (L_X4_swap_37 a1 a2 fu (a3 + 1) (up2 σ.1 4 a3.toNatClampNeg r50, σ.2)) else none))
set_option maxHeartbeats 4000000 in
set_option maxRecDepth 100000 in
theorem w_X4_swap_37 {D : va_G} {ay : Nat → ClassId} {ad : Nat → Nat} {p : Program} {l : Launch} {e : Env} {s : State} {m : MethodId} {args : Array Value} {below : List Frame} {meth : Method} {c : Code} {Q : State → Prop} {a1 : Int32} {a2 : Int32} {res : (Mem × Int64)} (X : CX D ay p s m args meth c cX4_swap 7 RX4 (some .int) wsX4_swap) (hI : amOK ad) (K : ∀ ls : Array Slot, lv_has ls 7 [(0, .ref (ad 0)), (1, .int a1), (2, .int a2)] → GW D (wM ay ad) (AM ad) p l e ({ frames := 4, cells := 0, slots := 0, locals := 98 } : Room) s m args below meth c Q res (F0 m 60 ls [])) : ∀ (fu : Nat) (a3 : Int32) (σ : (Mem × Int64)), L_X4_swap_37 a1 a2 fu a3 σ = some res → ∀ ls : Array Slot, lv_has ls 7 [(0, .ref (ad 0)), (1, .int a1), (2, .int a2), (3, .int a3)] → GW D (wM ay ad) (AM ad) p l e ({ frames := 4, cells := 0, slots := 0, locals := 98 } : Room) s m args below meth c Q σ (F0 m 37 ls []) := by
  intro fu
  induction fu with
  | zero =>
    intro a3 σ hF ls hl
    rw [L_X4_swap_37] at hF
    cases hF
  | succ fu ih =>
    intro a3 σ hF ls hl
    rw [L_X4_swap_37] at hF
    refine g_iload_n X dX4_swap_37 rfl (lv_at hl 3 rfl) ?_
    refine g_bipush (v := 15) X dX4_swap_38 (by decide) ?_
    refine g_icmp_gt (tgt := 60) X dX4_swap_40 (by decide) (fun hc40 => ?_) (fun hc40 => ?_)
    · have hF := ite_t hF hc40
      have e37 := some_inj hF
      subst e37
      exact K ls (lv_sub hl [0, 1, 2] rfl)
    · have hF := ite_f hF hc40
      refine g_aload_n X dX4_swap_43 rfl (lv_at hl 0 rfl) ?_
      refine g_get X 0 (mo_obj) in_X4_swap_X4 rfl 9 (by decide) (X.ts (.fieldLink RX4 19 "LeadTimesModel" "winners" "[I") (by decide +kernel)) rfl rfl dX4_swap_44 ?_
      refine g_iload_n X dX4_swap_47 rfl (lv_at hl 3 rfl) ?_
      refine g_aload_n X dX4_swap_48 rfl (lv_at hl 0 rfl) ?_
      refine g_iload_n X dX4_swap_49 rfl (lv_at hl 3 rfl) ?_
      obtain ⟨r50, hr50, hF⟩ := obind hF
      refine k_Vi X (As := [.int a3]) (rest := [.int a3, .ref (ad 4)]) (c_X4_winnerOf hI hr50) (cwV 1 X.ts gX4_swap_X4_winnerOf rfl rfl rfl (by decide +kernel) ⟨Nat.le_of_ble_eq_true rfl, Nat.le_of_ble_eq_true rfl⟩) ⟨0, 4, _, _, mo_obj, rfl, rfl⟩ rfl hl.1 rfl (Nat.le_of_ble_eq_true rfl) dX4_swap_50 ?_
      obtain ⟨h53, hF⟩ := itn hF
      refine g_iast X (wM_D hI) ((up2 σ.1 4 a3.toNatClampNeg r50, σ.2)) 4 (j := a3.toNatClampNeg) (mo_arr4) (by first | rfl | decide) (set_arrM (a := 0) (n := 16) (fun τ => mo_arr4)) (inb_in h53) dX4_swap_53 ?_
      refine g_iinc (v := a3 + 1) (lv' := [(3, _), (0, _), (1, _), (2, _)]) X dX4_swap_54 hl (k := 3) rfl rfl (by decide) rfl (fun ls hl => ?_)
      refine g_goto (tgt := 37) X dX4_swap_57 (by decide) ?_
      exact ih (a3 + 1) (up2 σ.1 4 a3.toNatClampNeg r50, σ.2) hF ls (lv_sub hl [1, 2, 3, 0] rfl)
def L_X4_swap_62 (a1 : Int32) (a2 : Int32) : Nat → Int32 → (Mem × Int64) → Option (Mem × Int64)
  | 0, _, _ => none
  | fu + 1, a3, σ => (if (4 : Int32) ≤ a3 then some σ else Option.bind (F_X4_at a1) (fun r72 => if inb (r72 + a3) 84 then (Option.bind (F_X4_at a1) (fun r85 => Option.bind (F_X4_at a2) (fun r95 => if inb (r95 + a3) 84 then (if inb (r85 + a3) 84 then (Option.bind (F_X4_at a2) (fun r107 => if inb (r107 + a3) 84 then (L_X4_swap_62 a1 a2 fu (a3 + 1) (up2 (up2 σ.1 1 ((r85 + a3).toNatClampNeg) (σ.1 1 ((r95 + a3).toNatClampNeg))) 1 ((r107 + a3).toNatClampNeg) (σ.1 1 ((r72 + a3).toNatClampNeg)), σ.2)) else none)) else none) else none))) else none))
set_option maxHeartbeats 4000000 in
set_option maxRecDepth 100000 in
theorem w_X4_swap_62 {D : va_G} {ay : Nat → ClassId} {ad : Nat → Nat} {p : Program} {l : Launch} {e : Env} {s : State} {m : MethodId} {args : Array Value} {below : List Frame} {meth : Method} {c : Code} {Q : State → Prop} {a1 : Int32} {a2 : Int32} {res : (Mem × Int64)} (X : CX D ay p s m args meth c cX4_swap 7 RX4 (some .int) wsX4_swap) (hI : amOK ad) (K : ∀ ls : Array Slot, lv_has ls 7 [(0, .ref (ad 0)), (1, .int a1), (2, .int a2)] → GW D (wM ay ad) (AM ad) p l e ({ frames := 4, cells := 0, slots := 0, locals := 98 } : Room) s m args below meth c Q res (F0 m 121 ls [])) : ∀ (fu : Nat) (a3 : Int32) (σ : (Mem × Int64)), L_X4_swap_62 a1 a2 fu a3 σ = some res → ∀ ls : Array Slot, lv_has ls 7 [(0, .ref (ad 0)), (1, .int a1), (2, .int a2), (3, .int a3)] → GW D (wM ay ad) (AM ad) p l e ({ frames := 4, cells := 0, slots := 0, locals := 98 } : Room) s m args below meth c Q σ (F0 m 62 ls []) := by
  intro fu
  induction fu with
  | zero =>
    intro a3 σ hF ls hl
    rw [L_X4_swap_62] at hF
    cases hF
  | succ fu ih =>
    intro a3 σ hF ls hl
    rw [L_X4_swap_62] at hF
    refine g_iload_n X dX4_swap_62 rfl (lv_at hl 3 rfl) ?_
    refine g_iconst (v := 4) X dX4_swap_63 (by decide) ?_
    refine g_icmp_ge (tgt := 121) X dX4_swap_64 (by decide) (fun hc64 => ?_) (fun hc64 => ?_)
    · have hF := ite_t hF hc64
      have e62 := some_inj hF
      subst e62
      exact K ls (lv_sub hl [0, 1, 2] rfl)
    · have hF := ite_f hF hc64
      refine g_aload_n X dX4_swap_67 rfl (lv_at hl 0 rfl) ?_
      refine g_get X 0 (mo_obj) in_X4_swap_X4 rfl 0 (by decide) (X.ts (.fieldLink RX4 7 "LeadTimesModel" "z" "[I") (by decide +kernel)) rfl rfl dX4_swap_68 ?_
      refine g_iload_n X dX4_swap_71 rfl (lv_at hl 1 rfl) ?_
      obtain ⟨r72, hr72, hF⟩ := obind hF
      refine k_Si X (As := [.int a1]) (rest := [.ref (ad 1)]) (c_X4_at hI hr72) (va_cwS 1 X.ts gX4_swap_X4_at rfl rfl rfl (by decide +kernel) ⟨Nat.le_of_ble_eq_true rfl, Nat.le_of_ble_eq_true rfl⟩) rfl hl.1 rfl (Nat.le_of_ble_eq_true rfl) dX4_swap_72 ?_
      refine g_iload_n X dX4_swap_75 rfl (lv_at hl 3 rfl) ?_
      refine g_iadd X dX4_swap_76 ?_
      obtain ⟨h77, hF⟩ := itn hF
      refine g_iald X 1 (j := (r72 + a3).toNatClampNeg) (mo_arr1) (by first | rfl | decide) (inb_in h77) dX4_swap_77 ?_
      refine g_istore (lv' := [(4, _), (0, _), (1, _), (2, _), (3, _)]) X dX4_swap_78 hl (by decide) rfl (fun ls hl => ?_)
      refine g_aload_n X dX4_swap_80 rfl (lv_at hl 1 rfl) ?_
      refine g_get X 0 (mo_obj) in_X4_swap_X4 rfl 0 (by decide) (X.ts (.fieldLink RX4 7 "LeadTimesModel" "z" "[I") (by decide +kernel)) rfl rfl dX4_swap_81 ?_
      refine g_iload_n X dX4_swap_84 rfl (lv_at hl 2 rfl) ?_
      obtain ⟨r85, hr85, hF⟩ := obind hF
      refine k_Si X (As := [.int a1]) (rest := [.ref (ad 1)]) (c_X4_at hI hr85) (va_cwS 1 X.ts gX4_swap_X4_at rfl rfl rfl (by decide +kernel) ⟨Nat.le_of_ble_eq_true rfl, Nat.le_of_ble_eq_true rfl⟩) rfl hl.1 rfl (Nat.le_of_ble_eq_true rfl) dX4_swap_85 ?_
      refine g_iload_n X dX4_swap_88 rfl (lv_at hl 4 rfl) ?_
      refine g_iadd X dX4_swap_89 ?_
      refine g_aload_n X dX4_swap_90 rfl (lv_at hl 1 rfl) ?_
      refine g_get X 0 (mo_obj) in_X4_swap_X4 rfl 0 (by decide) (X.ts (.fieldLink RX4 7 "LeadTimesModel" "z" "[I") (by decide +kernel)) rfl rfl dX4_swap_91 ?_
      refine g_iload_n X dX4_swap_94 rfl (lv_at hl 3 rfl) ?_
      obtain ⟨r95, hr95, hF⟩ := obind hF
      refine k_Si X (As := [.int a2]) (rest := [.ref (ad 1), .int (r85 + a3), .ref (ad 1)]) (c_X4_at hI hr95) (va_cwS 1 X.ts gX4_swap_X4_at rfl rfl rfl (by decide +kernel) ⟨Nat.le_of_ble_eq_true rfl, Nat.le_of_ble_eq_true rfl⟩) rfl hl.1 rfl (Nat.le_of_ble_eq_true rfl) dX4_swap_95 ?_
      refine g_iload_n X dX4_swap_98 rfl (lv_at hl 4 rfl) ?_
      refine g_iadd X dX4_swap_99 ?_
      obtain ⟨h100, hF⟩ := itn hF
      refine g_iald X 1 (j := (r95 + a3).toNatClampNeg) (mo_arr1) (by first | rfl | decide) (inb_in h100) dX4_swap_100 ?_
      obtain ⟨h101, hF⟩ := itn hF
      refine g_iast X (wM_D hI) ((up2 σ.1 1 ((r85 + a3).toNatClampNeg) (σ.1 1 ((r95 + a3).toNatClampNeg)), σ.2)) 1 (j := (r85 + a3).toNatClampNeg) (mo_arr1) (by first | rfl | decide) (set_arrM (a := 0) (n := 84) (fun τ => mo_arr1)) (inb_in h101) dX4_swap_101 ?_
      refine g_aload_n X dX4_swap_102 rfl (lv_at hl 1 rfl) ?_
      refine g_get X 0 (mo_obj) in_X4_swap_X4 rfl 0 (by decide) (X.ts (.fieldLink RX4 7 "LeadTimesModel" "z" "[I") (by decide +kernel)) rfl rfl dX4_swap_103 ?_
      refine g_iload_n X dX4_swap_106 rfl (lv_at hl 3 rfl) ?_
      obtain ⟨r107, hr107, hF⟩ := obind hF
      refine k_Si X (As := [.int a2]) (rest := [.ref (ad 1)]) (c_X4_at hI hr107) (va_cwS 1 X.ts gX4_swap_X4_at rfl rfl rfl (by decide +kernel) ⟨Nat.le_of_ble_eq_true rfl, Nat.le_of_ble_eq_true rfl⟩) rfl hl.1 rfl (Nat.le_of_ble_eq_true rfl) dX4_swap_107 ?_
      refine g_iload_n X dX4_swap_110 rfl (lv_at hl 4 rfl) ?_
      refine g_iadd X dX4_swap_111 ?_
      refine g_iload X dX4_swap_112 (lv_at hl 0 rfl) ?_
      obtain ⟨h114, hF⟩ := itn hF
      refine g_iast X (wM_D hI) ((up2 (up2 σ.1 1 ((r85 + a3).toNatClampNeg) (σ.1 1 ((r95 + a3).toNatClampNeg))) 1 ((r107 + a3).toNatClampNeg) (σ.1 1 ((r72 + a3).toNatClampNeg)), σ.2)) 1 (j := (r107 + a3).toNatClampNeg) (mo_arr1) (by first | rfl | decide) (set_arrM (a := 0) (n := 84) (fun τ => mo_arr1)) (inb_in h114) dX4_swap_114 ?_
      refine g_iinc (v := a3 + 1) (lv' := [(3, _), (4, _), (0, _), (1, _), (2, _)]) X dX4_swap_115 hl (k := 4) rfl rfl (by decide) rfl (fun ls hl => ?_)
      refine g_goto (tgt := 62) X dX4_swap_118 (by decide) ?_
      exact ih (a3 + 1) (up2 (up2 σ.1 1 ((r85 + a3).toNatClampNeg) (σ.1 1 ((r95 + a3).toNatClampNeg))) 1 ((r107 + a3).toNatClampNeg) (σ.1 1 ((r72 + a3).toNatClampNeg)), σ.2) hF ls (lv_sub hl [2, 3, 4, 0] rfl)
def L_X4_swap_126 (a1 : Int32) (a2 : Int32) (σ : (Mem × Int64)) : Nat → Int32 → Int32 → Option Int32
  | 0, _, _ => none
  | fu + 1, a3, a4 => (if (15 : Int32) < a4 then some a3 else Option.bind (F_X4_winnerOf a4 σ) (fun r136 => (Option.bind (if ¬ r136 = a1 then (if ¬ r136 = a2 then some r136 else some a1) else some a2) (fun v144 : Int32 => if inb a4 16 then ((Option.bind (if v144 = (σ.1 4 a4.toNatClampNeg) then some (0 : Int32) else some (1 : Int32)) (fun v175 : Int32 => L_X4_swap_126 a1 a2 σ fu (a3 + v175) (a4 + 1)))) else none))))
set_option maxHeartbeats 4000000 in
set_option maxRecDepth 100000 in
theorem w_X4_swap_126 {D : va_G} {ay : Nat → ClassId} {ad : Nat → Nat} {p : Program} {l : Launch} {e : Env} {s : State} {m : MethodId} {args : Array Value} {below : List Frame} {meth : Method} {c : Code} {Q : State → Prop} {a1 : Int32} {a2 : Int32} {σ : (Mem × Int64)} {res : Int32} (X : CX D ay p s m args meth c cX4_swap 7 RX4 (some .int) wsX4_swap) (hI : amOK ad) (K : ∀ ls : Array Slot, lv_has ls 7 [(3, .int res)] → GW D (wM ay ad) (AM ad) p l e ({ frames := 4, cells := 0, slots := 0, locals := 98 } : Room) s m args below meth c Q σ (F0 m 191 ls [])) : ∀ (fu : Nat) (a3 : Int32) (a4 : Int32), L_X4_swap_126 a1 a2 σ fu a3 a4 = some res → ∀ ls : Array Slot, lv_has ls 7 [(0, .ref (ad 0)), (1, .int a1), (2, .int a2), (3, .int a3), (4, .int a4)] → GW D (wM ay ad) (AM ad) p l e ({ frames := 4, cells := 0, slots := 0, locals := 98 } : Room) s m args below meth c Q σ (F0 m 126 ls []) := by
  intro fu
  induction fu with
  | zero =>
    intro a3 a4 hF ls hl
    rw [L_X4_swap_126] at hF
    cases hF
  | succ fu ih =>
    intro a3 a4 hF ls hl
    rw [L_X4_swap_126] at hF
    refine g_iload X dX4_swap_126 (lv_at hl 4 rfl) ?_
    refine g_bipush (v := 15) X dX4_swap_128 (by decide) ?_
    refine g_icmp_gt (tgt := 191) X dX4_swap_130 (by decide) (fun hc130 => ?_) (fun hc130 => ?_)
    · have hF := ite_t hF hc130
      have e126 := some_inj hF
      subst e126
      exact K ls (lv_sub hl [3] rfl)
    · have hF := ite_f hF hc130
      refine g_aload_n X dX4_swap_133 rfl (lv_at hl 0 rfl) ?_
      refine g_iload X dX4_swap_134 (lv_at hl 4 rfl) ?_
      obtain ⟨r136, hr136, hF⟩ := obind hF
      refine k_Vi X (As := [.int a4]) (rest := []) (c_X4_winnerOf hI hr136) (cwV 1 X.ts gX4_swap_X4_winnerOf rfl rfl rfl (by decide +kernel) ⟨Nat.le_of_ble_eq_true rfl, Nat.le_of_ble_eq_true rfl⟩) ⟨0, 4, _, _, mo_obj, rfl, rfl⟩ rfl hl.1 rfl (Nat.le_of_ble_eq_true rfl) dX4_swap_136 ?_
      refine g_istore (lv' := [(5, _), (0, _), (1, _), (2, _), (3, _), (4, _)]) X dX4_swap_139 hl (by decide) rfl (fun ls hl => ?_)
      refine g_iload X dX4_swap_141 (lv_at hl 0 rfl) ?_
      refine g_iload_n X dX4_swap_143 rfl (lv_at hl 2 rfl) ?_
      obtain ⟨v144, hR144, hF⟩ := obind hF
      refine g_cut (nM := 7) [(0, .ref (ad 0)), (1, .int a1), (2, .int a2), (3, .int a3), (4, .int a4)] (σ) 163 [.int v144] (fun ls hl => ?_) (fun J144 => ?_)
      · refine g_istore (lv' := [(6, _), (0, _), (1, _), (2, _), (3, _), (4, _)]) X dX4_swap_163 hl (by decide) rfl (fun ls hl => ?_)
        refine g_iload_n X dX4_swap_165 rfl (lv_at hl 4 rfl) ?_
        refine g_iload X dX4_swap_166 (lv_at hl 0 rfl) ?_
        refine g_aload_n X dX4_swap_168 rfl (lv_at hl 1 rfl) ?_
        refine g_get X 0 (mo_obj) in_X4_swap_X4 rfl 9 (by decide) (X.ts (.fieldLink RX4 19 "LeadTimesModel" "winners" "[I") (by decide +kernel)) rfl rfl dX4_swap_169 ?_
        refine g_iload X dX4_swap_172 (lv_at hl 5 rfl) ?_
        obtain ⟨h174, hF⟩ := itn hF
        refine g_iald X 4 (j := a4.toNatClampNeg) (mo_arr4) (by first | rfl | decide) (inb_in h174) dX4_swap_174 ?_
        obtain ⟨v175, hR175, hF⟩ := obind hF
        refine g_cut (nM := 7) [(0, .ref (ad 0)), (1, .int a1), (2, .int a2), (4, .int a4)] (σ) 183 [.int v175, .int a3] (fun ls hl => ?_) (fun J175 => ?_)
        · refine g_iadd X dX4_swap_183 ?_
          refine g_istore_n (lv' := [(3, _), (0, _), (1, _), (2, _), (4, _)]) X dX4_swap_184 rfl hl (by decide) rfl (fun ls hl => ?_)
          refine g_iinc (v := a4 + 1) (lv' := [(4, _), (3, _), (0, _), (1, _), (2, _)]) X dX4_swap_185 hl (k := 4) rfl rfl (by decide) rfl (fun ls hl => ?_)
          refine g_goto (tgt := 126) X dX4_swap_188 (by decide) ?_
          exact ih (a3 + v175) (a4 + 1) hF ls (lv_sub hl [2, 3, 4, 1, 0] rfl)
        · refine g_icmp_eq (tgt := 182) X dX4_swap_175 (by decide) (fun hc175 => ?_) (fun hc175 => ?_)
          · have hR175 := ite_t hR175 hc175
            refine g_iconst (v := 0) X dX4_swap_182 (by decide) ?_
            have e175 := some_inj hR175
            subst e175
            exact J175 ls (lv_sub hl [1, 2, 3, 5] rfl)
          · have hR175 := ite_f hR175 hc175
            refine g_iconst (v := 1) X dX4_swap_178 (by decide) ?_
            refine g_goto (tgt := 183) X dX4_swap_179 (by decide) ?_
            have e175 := some_inj hR175
            subst e175
            exact J175 ls (lv_sub hl [1, 2, 3, 5] rfl)
      · refine g_icmp_ne (tgt := 151) X dX4_swap_144 (by decide) (fun hc144 => ?_) (fun hc144 => ?_)
        · have hR144 := ite_t hR144 hc144
          refine g_iload X dX4_swap_151 (lv_at hl 0 rfl) ?_
          refine g_iload_n X dX4_swap_153 rfl (lv_at hl 3 rfl) ?_
          refine g_icmp_ne (tgt := 161) X dX4_swap_154 (by decide) (fun hc154 => ?_) (fun hc154 => ?_)
          · have hR144 := ite_t hR144 hc154
            refine g_iload X dX4_swap_161 (lv_at hl 0 rfl) ?_
            have e144 := some_inj hR144
            subst e144
            exact J144 ls (lv_sub hl [1, 2, 3, 4, 5] rfl)
          · have hR144 := ite_n hR144 hc154
            refine g_iload_n X dX4_swap_157 rfl (lv_at hl 2 rfl) ?_
            refine g_goto (tgt := 163) X dX4_swap_158 (by decide) ?_
            have e144 := some_inj hR144
            subst e144
            exact J144 ls (lv_sub hl [1, 2, 3, 4, 5] rfl)
        · have hR144 := ite_n hR144 hc144
          refine g_iload_n X dX4_swap_147 rfl (lv_at hl 3 rfl) ?_
          refine g_goto (tgt := 163) X dX4_swap_148 (by decide) ?_
          have e144 := some_inj hR144
          subst e144
          exact J144 ls (lv_sub hl [1, 2, 3, 4, 5] rfl)
def F_X4_swap (a1 : Int32) (a2 : Int32) (σ : (Mem × Int64)) : Option (Int32 × (Mem × Int64)) := Option.bind (F_X4_in a1 (0 : Int32) (15 : Int32)) (fun r9 => (if r9 = 0 then Option.bind (F_X4_fails (1 : Int32) (up2 σ.1 0 5 (0 : Int32), σ.2)) (fun r27 => some (r27.1, r27.2)) else Option.bind (F_X4_in a2 (0 : Int32) (15 : Int32)) (fun r19 => (if ¬ r19 = 0 then Option.bind (F_X4_save (up2 σ.1 0 5 (0 : Int32), σ.2)) (fun r32 => Option.bind (L_X4_swap_37 a1 a2 FU (1 : Int32) r32) (fun v37 : (Mem × Int64) => Option.bind (L_X4_swap_62 a1 a2 FU (0 : Int32) v37) (fun v62 : (Mem × Int64) => Option.bind (L_X4_swap_126 a1 a2 v62 FU (0 : Int32) (1 : Int32)) (fun v126 : Int32 => some (v126, v62))))) else Option.bind (F_X4_fails (1 : Int32) (up2 σ.1 0 5 (0 : Int32), σ.2)) (fun r27 => some (r27.1, r27.2))))))
set_option maxHeartbeats 4000000 in
set_option maxRecDepth 100000 in
theorem c_X4_swap {l : Launch} {D : va_G} {ay : Nat → ClassId} {ad : Nat → Nat} {a1 : Int32} {a2 : Int32} {σ : (Mem × Int64)} {res : Int32 × (Mem × Int64)} (hI : amOK ad) (hF : F_X4_swap a1 a2 σ = some res) : Met l yX4_swap wsX4_swap ({ frames := 4, cells := 0, slots := 0, locals := 98 } : Room) (va_Pc [.ref (ad 0), .int a1, .int a2] (PP D ay (wM ay ad σ))) (va_Qi (pE res) (fun τ => PP D ay (wM ay ad τ)) (AM ad)) 0 0 (AM ad) := by
  refine g_start (wd := wM ay ad) (A := AM ad) (own := RX4) (mL := 7) (rt := (some .int)) (by decide) rfl rfl (Nat.le_of_ble_eq_true rfl) ?_
  intro p e s m below meth c ls X hl
  have hl : lv_has ls 7 [(0, .ref (ad 0)), (1, .int a1), (2, .int a2)] := hl
  rw [F_X4_swap] at hF
  refine g_aload_n X dX4_swap_0 rfl (lv_at hl 0 rfl) ?_
  refine g_iconst (v := 0) X dX4_swap_1 (by decide) ?_
  refine g_put X (wM_D hI) ((up2 σ.1 0 5 (0 : Int32), σ.2)) 0 (mo_obj) 5 (set_mo5) tyX4 tyX4_ok nmX4 in_X4_swap_X4 rfl (by decide) (X.ts (.fieldLink RX4 34 "LeadTimesModel" "thrown" "I") (by decide +kernel)) rfl rfl rfl rfl rfl (Nat.le_of_ble_eq_true rfl) dX4_swap_2 ?_
  refine g_iload_n X dX4_swap_5 rfl (lv_at hl 1 rfl) ?_
  refine g_iconst (v := 0) X dX4_swap_6 (by decide) ?_
  refine g_bipush (v := 15) X dX4_swap_7 (by decide) ?_
  obtain ⟨r9, hr9, hF⟩ := obind hF
  refine k_Sz X (As := [.int a1, .int (0 : Int32), .int (15 : Int32)]) (rest := []) (c_X4_in hI hr9) (va_cwS 3 X.ts gX4_swap_X4_in rfl rfl rfl (by decide +kernel) ⟨Nat.le_of_ble_eq_true rfl, Nat.le_of_ble_eq_true rfl⟩) rfl hl.1 rfl (Nat.le_of_ble_eq_true rfl) dX4_swap_9 (fun hz9 => ?_)
  refine g_if_eq (tgt := 25) X dX4_swap_12 (by decide) (fun hc12 => ?_) (fun hc12 => ?_)
  · have hF := ite_t hF hc12
    refine g_aload_n X dX4_swap_25 rfl (lv_at hl 0 rfl) ?_
    refine g_iconst (v := 1) X dX4_swap_26 (by decide) ?_
    obtain ⟨r27, hr27, hF⟩ := obind hF
    refine k_Vie X (As := [.int (1 : Int32)]) (rest := []) (c_X4_fails hI hr27) (cwV 1 X.ts gX4_swap_X4_fails rfl rfl rfl (by decide +kernel) ⟨Nat.le_of_ble_eq_true rfl, Nat.le_of_ble_eq_true rfl⟩) ⟨0, 4, _, _, mo_obj, rfl, rfl⟩ rfl hl.1 rfl (Nat.le_of_ble_eq_true rfl) dX4_swap_27 ?_
    exact g_iret X (pE_mk (some_inj hF)) dX4_swap_30
  · have hF := ite_f hF hc12
    refine g_iload_n X dX4_swap_15 rfl (lv_at hl 2 rfl) ?_
    refine g_iconst (v := 0) X dX4_swap_16 (by decide) ?_
    refine g_bipush (v := 15) X dX4_swap_17 (by decide) ?_
    obtain ⟨r19, hr19, hF⟩ := obind hF
    refine k_Sz X (As := [.int a2, .int (0 : Int32), .int (15 : Int32)]) (rest := []) (c_X4_in hI hr19) (va_cwS 3 X.ts gX4_swap_X4_in rfl rfl rfl (by decide +kernel) ⟨Nat.le_of_ble_eq_true rfl, Nat.le_of_ble_eq_true rfl⟩) rfl hl.1 rfl (Nat.le_of_ble_eq_true rfl) dX4_swap_19 (fun hz19 => ?_)
    refine g_if_ne (tgt := 31) X dX4_swap_22 (by decide) (fun hc22 => ?_) (fun hc22 => ?_)
    · have hF := ite_t hF hc22
      refine g_aload_n X dX4_swap_31 rfl (lv_at hl 0 rfl) ?_
      obtain ⟨r32, hr32, hF⟩ := obind hF
      refine k_Vv X (As := []) (rest := []) (c_X4_save hI hr32) (cwV 0 X.ts gX4_swap_X4_save rfl rfl rfl (by decide +kernel) ⟨Nat.le_of_ble_eq_true rfl, Nat.le_of_ble_eq_true rfl⟩) ⟨0, 4, _, _, mo_obj, rfl, rfl⟩ rfl hl.1 rfl (Nat.le_of_ble_eq_true rfl) dX4_swap_32 ?_
      refine g_iconst (v := 1) X dX4_swap_35 (by decide) ?_
      refine g_istore_n (lv' := [(3, _), (0, _), (1, _), (2, _)]) X dX4_swap_36 rfl hl (by decide) rfl (fun ls hl => ?_)
      obtain ⟨v37, hL37, hF⟩ := obind hF
      refine w_X4_swap_37 X hI (fun ls hl => ?_) FU (1 : Int32) r32 hL37 ls (lv_sub hl [1, 2, 3, 0] rfl)
      refine g_iconst (v := 0) X dX4_swap_60 (by decide) ?_
      refine g_istore_n (lv' := [(3, _), (0, _), (1, _), (2, _)]) X dX4_swap_61 rfl hl (by decide) rfl (fun ls hl => ?_)
      obtain ⟨v62, hL62, hF⟩ := obind hF
      refine w_X4_swap_62 X hI (fun ls hl => ?_) FU (0 : Int32) v37 hL62 ls (lv_sub hl [1, 2, 3, 0] rfl)
      refine g_iconst (v := 0) X dX4_swap_121 (by decide) ?_
      refine g_istore_n (lv' := [(3, _), (0, _), (1, _), (2, _)]) X dX4_swap_122 rfl hl (by decide) rfl (fun ls hl => ?_)
      refine g_iconst (v := 1) X dX4_swap_123 (by decide) ?_
      refine g_istore (lv' := [(4, _), (3, _), (0, _), (1, _), (2, _)]) X dX4_swap_124 hl (by decide) rfl (fun ls hl => ?_)
      obtain ⟨v126, hL126, hF⟩ := obind hF
      refine w_X4_swap_126 X hI (fun ls hl => ?_) FU (0 : Int32) (1 : Int32) hL126 ls (lv_sub hl [2, 3, 4, 1, 0] rfl)
      refine g_iload_n X dX4_swap_191 rfl (lv_at hl 0 rfl) ?_
      exact g_iret X (pE_mk (some_inj hF)) dX4_swap_192
    · have hF := ite_n hF hc22
      refine g_aload_n X dX4_swap_25 rfl (lv_at hl 0 rfl) ?_
      refine g_iconst (v := 1) X dX4_swap_26 (by decide) ?_
      obtain ⟨r27, hr27, hF⟩ := obind hF
      refine k_Vie X (As := [.int (1 : Int32)]) (rest := []) (c_X4_fails hI hr27) (cwV 1 X.ts gX4_swap_X4_fails rfl rfl rfl (by decide +kernel) ⟨Nat.le_of_ble_eq_true rfl, Nat.le_of_ble_eq_true rfl⟩) ⟨0, 4, _, _, mo_obj, rfl, rfl⟩ rfl hl.1 rfl (Nat.le_of_ble_eq_true rfl) dX4_swap_27 ?_
      exact g_iret X (pE_mk (some_inj hF)) dX4_swap_30
theorem in_X4_passNow_X4 : ∀ w ∈ wsX40, w ∈ wsX4_passNow := by decide +kernel
def L_X4_passNow_4 (a1 : Int32) : Nat → Int32 → Int32 → (Mem × Int64) → Option (Int32 × (Mem × Int64))
  | 0, _, _, _ => none
  | fu + 1, a2, a3, σ => (if (15 : Int32) < a3 then some (a2, σ) else Option.bind (F_X4_turnsOf a3 a1 σ) (fun r13 => if inb ((3 : Int32) + a3) 84 then (if inb ((3 : Int32) + a3) 84 then (L_X4_passNow_4 a1 fu (a2 + r13.1) (a3 + 1) (up2 r13.2.1 1 (((3 : Int32) + a3).toNatClampNeg) ((r13.2.1 1 (((3 : Int32) + a3).toNatClampNeg)) + r13.1), r13.2.2)) else none) else none))
set_option maxHeartbeats 4000000 in
set_option maxRecDepth 100000 in
theorem w_X4_passNow_4 {D : va_G} {ay : Nat → ClassId} {ad : Nat → Nat} {p : Program} {l : Launch} {e : Env} {s : State} {m : MethodId} {args : Array Value} {below : List Frame} {meth : Method} {c : Code} {Q : State → Prop} {a1 : Int32} {res : Int32 × (Mem × Int64)} (X : CX D ay p s m args meth c cX4_passNow 5 RX4 (some .int) wsX4_passNow) (hI : amOK ad) (K : ∀ ls : Array Slot, lv_has ls 5 [(0, .ref (ad 0)), (1, .int a1), (2, .int res.1)] → GW D (wM ay ad) (AM ad) p l e ({ frames := 5, cells := 0, slots := 0, locals := 122 } : Room) s m args below meth c Q res.2 (F0 m 42 ls [])) : ∀ (fu : Nat) (a2 : Int32) (a3 : Int32) (σ : (Mem × Int64)), L_X4_passNow_4 a1 fu a2 a3 σ = some res → ∀ ls : Array Slot, lv_has ls 5 [(0, .ref (ad 0)), (1, .int a1), (2, .int a2), (3, .int a3)] → GW D (wM ay ad) (AM ad) p l e ({ frames := 5, cells := 0, slots := 0, locals := 122 } : Room) s m args below meth c Q σ (F0 m 4 ls []) := by
  intro fu
  induction fu with
  | zero =>
    intro a2 a3 σ hF ls hl
    rw [L_X4_passNow_4] at hF
    cases hF
  | succ fu ih =>
    intro a2 a3 σ hF ls hl
    rw [L_X4_passNow_4] at hF
    refine g_iload_n X dX4_passNow_4 rfl (lv_at hl 3 rfl) ?_
    refine g_bipush (v := 15) X dX4_passNow_5 (by decide) ?_
    refine g_icmp_gt (tgt := 42) X dX4_passNow_7 (by decide) (fun hc7 => ?_) (fun hc7 => ?_)
    · have hF := ite_t hF hc7
      have e4 := some_inj hF
      subst e4
      exact K ls (lv_sub hl [0, 1, 2] rfl)
    · have hF := ite_f hF hc7
      refine g_aload_n X dX4_passNow_10 rfl (lv_at hl 0 rfl) ?_
      refine g_iload_n X dX4_passNow_11 rfl (lv_at hl 3 rfl) ?_
      refine g_iload_n X dX4_passNow_12 rfl (lv_at hl 1 rfl) ?_
      obtain ⟨r13, hr13, hF⟩ := obind hF
      refine k_Vie X (As := [.int a3, .int a1]) (rest := []) (c_X4_turnsOf hI hr13) (cwV 2 X.ts gX4_passNow_X4_turnsOf rfl rfl rfl (by decide +kernel) ⟨Nat.le_of_ble_eq_true rfl, Nat.le_of_ble_eq_true rfl⟩) ⟨0, 4, _, _, mo_obj, rfl, rfl⟩ rfl hl.1 rfl (Nat.le_of_ble_eq_true rfl) dX4_passNow_13 ?_
      refine g_istore (lv' := [(4, _), (0, _), (1, _), (2, _), (3, _)]) X dX4_passNow_16 hl (by decide) rfl (fun ls hl => ?_)
      refine g_aload_n X dX4_passNow_18 rfl (lv_at hl 1 rfl) ?_
      refine g_get X 0 (mo_obj) in_X4_passNow_X4 rfl 0 (by decide) (X.ts (.fieldLink RX4 7 "LeadTimesModel" "z" "[I") (by decide +kernel)) rfl rfl dX4_passNow_19 ?_
      refine g_iconst (v := 3) X dX4_passNow_22 (by decide) ?_
      refine g_iload_n X dX4_passNow_23 rfl (lv_at hl 4 rfl) ?_
      refine g_iadd X dX4_passNow_24 ?_
      refine g_dup2 X dX4_passNow_25 rfl rfl ?_
      obtain ⟨h26, hF⟩ := itn hF
      refine g_iald X 1 (j := ((3 : Int32) + a3).toNatClampNeg) (mo_arr1) (by first | rfl | decide) (inb_in h26) dX4_passNow_26 ?_
      refine g_iload X dX4_passNow_27 (lv_at hl 0 rfl) ?_
      refine g_iadd X dX4_passNow_29 ?_
      obtain ⟨h30, hF⟩ := itn hF
      refine g_iast X (wM_D hI) ((up2 r13.2.1 1 (((3 : Int32) + a3).toNatClampNeg) ((r13.2.1 1 (((3 : Int32) + a3).toNatClampNeg)) + r13.1), r13.2.2)) 1 (j := ((3 : Int32) + a3).toNatClampNeg) (mo_arr1) (by first | rfl | decide) (set_arrM (a := 0) (n := 84) (fun τ => mo_arr1)) (inb_in h30) dX4_passNow_30 ?_
      refine g_iload_n X dX4_passNow_31 rfl (lv_at hl 3 rfl) ?_
      refine g_iload X dX4_passNow_32 (lv_at hl 0 rfl) ?_
      refine g_iadd X dX4_passNow_34 ?_
      refine g_istore_n (lv' := [(2, _), (4, _), (0, _), (1, _), (3, _)]) X dX4_passNow_35 rfl hl (by decide) rfl (fun ls hl => ?_)
      refine g_iinc (v := a3 + 1) (lv' := [(3, _), (2, _), (4, _), (0, _), (1, _)]) X dX4_passNow_36 hl (k := 4) rfl rfl (by decide) rfl (fun ls hl => ?_)
      refine g_goto (tgt := 4) X dX4_passNow_39 (by decide) ?_
      exact ih (a2 + r13.1) (a3 + 1) (up2 r13.2.1 1 (((3 : Int32) + a3).toNatClampNeg) ((r13.2.1 1 (((3 : Int32) + a3).toNatClampNeg)) + r13.1), r13.2.2) hF ls (lv_sub hl [3, 4, 1, 0] rfl)
def L_X4_passNow_44 (a1 : Int32) (a2 : Int32) : Nat → Int32 → (Mem × Int64) → Option (Mem × Int64)
  | 0, _, _ => none
  | fu + 1, a3, σ => (if (16 : Int32) ≤ a3 then some σ else Option.bind (F_X4_at a3) (fun r55 => if inb (r55 + (1 : Int32)) 84 then (Option.bind (F_X4_at a3) (fun r67 => if inb (r67 + (2 : Int32)) 84 then (if inb (r55 + (1 : Int32)) 84 then (L_X4_passNow_44 a1 a2 fu (a3 + 1) (up2 σ.1 1 ((r55 + (1 : Int32)).toNatClampNeg) ((σ.1 1 ((r55 + (1 : Int32)).toNatClampNeg)) + ((σ.1 1 ((r67 + (2 : Int32)).toNatClampNeg)) * a1)), σ.2)) else none) else none)) else none))
set_option maxHeartbeats 4000000 in
set_option maxRecDepth 100000 in
theorem w_X4_passNow_44 {D : va_G} {ay : Nat → ClassId} {ad : Nat → Nat} {p : Program} {l : Launch} {e : Env} {s : State} {m : MethodId} {args : Array Value} {below : List Frame} {meth : Method} {c : Code} {Q : State → Prop} {a1 : Int32} {a2 : Int32} {res : (Mem × Int64)} (X : CX D ay p s m args meth c cX4_passNow 5 RX4 (some .int) wsX4_passNow) (hI : amOK ad) (K : ∀ ls : Array Slot, lv_has ls 5 [(0, .ref (ad 0)), (1, .int a1), (2, .int a2)] → GW D (wM ay ad) (AM ad) p l e ({ frames := 5, cells := 0, slots := 0, locals := 122 } : Room) s m args below meth c Q res (F0 m 83 ls [])) : ∀ (fu : Nat) (a3 : Int32) (σ : (Mem × Int64)), L_X4_passNow_44 a1 a2 fu a3 σ = some res → ∀ ls : Array Slot, lv_has ls 5 [(0, .ref (ad 0)), (1, .int a1), (2, .int a2), (3, .int a3)] → GW D (wM ay ad) (AM ad) p l e ({ frames := 5, cells := 0, slots := 0, locals := 122 } : Room) s m args below meth c Q σ (F0 m 44 ls []) := by
  intro fu
  induction fu with
  | zero =>
    intro a3 σ hF ls hl
    rw [L_X4_passNow_44] at hF
    cases hF
  | succ fu ih =>
    intro a3 σ hF ls hl
    rw [L_X4_passNow_44] at hF
    refine g_iload_n X dX4_passNow_44 rfl (lv_at hl 3 rfl) ?_
    refine g_bipush (v := 16) X dX4_passNow_45 (by decide) ?_
    refine g_icmp_ge (tgt := 83) X dX4_passNow_47 (by decide) (fun hc47 => ?_) (fun hc47 => ?_)
    · have hF := ite_t hF hc47
      have e44 := some_inj hF
      subst e44
      exact K ls (lv_sub hl [0, 1, 2] rfl)
    · have hF := ite_f hF hc47
      refine g_aload_n X dX4_passNow_50 rfl (lv_at hl 0 rfl) ?_
      refine g_get X 0 (mo_obj) in_X4_passNow_X4 rfl 0 (by decide) (X.ts (.fieldLink RX4 7 "LeadTimesModel" "z" "[I") (by decide +kernel)) rfl rfl dX4_passNow_51 ?_
      refine g_iload_n X dX4_passNow_54 rfl (lv_at hl 3 rfl) ?_
      obtain ⟨r55, hr55, hF⟩ := obind hF
      refine k_Si X (As := [.int a3]) (rest := [.ref (ad 1)]) (c_X4_at hI hr55) (va_cwS 1 X.ts gX4_passNow_X4_at rfl rfl rfl (by decide +kernel) ⟨Nat.le_of_ble_eq_true rfl, Nat.le_of_ble_eq_true rfl⟩) rfl hl.1 rfl (Nat.le_of_ble_eq_true rfl) dX4_passNow_55 ?_
      refine g_iconst (v := 1) X dX4_passNow_58 (by decide) ?_
      refine g_iadd X dX4_passNow_59 ?_
      refine g_dup2 X dX4_passNow_60 rfl rfl ?_
      obtain ⟨h61, hF⟩ := itn hF
      refine g_iald X 1 (j := (r55 + (1 : Int32)).toNatClampNeg) (mo_arr1) (by first | rfl | decide) (inb_in h61) dX4_passNow_61 ?_
      refine g_aload_n X dX4_passNow_62 rfl (lv_at hl 0 rfl) ?_
      refine g_get X 0 (mo_obj) in_X4_passNow_X4 rfl 0 (by decide) (X.ts (.fieldLink RX4 7 "LeadTimesModel" "z" "[I") (by decide +kernel)) rfl rfl dX4_passNow_63 ?_
      refine g_iload_n X dX4_passNow_66 rfl (lv_at hl 3 rfl) ?_
      obtain ⟨r67, hr67, hF⟩ := obind hF
      refine k_Si X (As := [.int a3]) (rest := [.ref (ad 1), .int (σ.1 1 ((r55 + (1 : Int32)).toNatClampNeg)), .int (r55 + (1 : Int32)), .ref (ad 1)]) (c_X4_at hI hr67) (va_cwS 1 X.ts gX4_passNow_X4_at rfl rfl rfl (by decide +kernel) ⟨Nat.le_of_ble_eq_true rfl, Nat.le_of_ble_eq_true rfl⟩) rfl hl.1 rfl (Nat.le_of_ble_eq_true rfl) dX4_passNow_67 ?_
      refine g_iconst (v := 2) X dX4_passNow_70 (by decide) ?_
      refine g_iadd X dX4_passNow_71 ?_
      obtain ⟨h72, hF⟩ := itn hF
      refine g_iald X 1 (j := (r67 + (2 : Int32)).toNatClampNeg) (mo_arr1) (by first | rfl | decide) (inb_in h72) dX4_passNow_72 ?_
      refine g_iload_n X dX4_passNow_73 rfl (lv_at hl 1 rfl) ?_
      refine g_imul X dX4_passNow_74 ?_
      refine g_iadd X dX4_passNow_75 ?_
      obtain ⟨h76, hF⟩ := itn hF
      refine g_iast X (wM_D hI) ((up2 σ.1 1 ((r55 + (1 : Int32)).toNatClampNeg) ((σ.1 1 ((r55 + (1 : Int32)).toNatClampNeg)) + ((σ.1 1 ((r67 + (2 : Int32)).toNatClampNeg)) * a1)), σ.2)) 1 (j := (r55 + (1 : Int32)).toNatClampNeg) (mo_arr1) (by first | rfl | decide) (set_arrM (a := 0) (n := 84) (fun τ => mo_arr1)) (inb_in h76) dX4_passNow_76 ?_
      refine g_iinc (v := a3 + 1) (lv' := [(3, _), (0, _), (1, _), (2, _)]) X dX4_passNow_77 hl (k := 3) rfl rfl (by decide) rfl (fun ls hl => ?_)
      refine g_goto (tgt := 44) X dX4_passNow_80 (by decide) ?_
      exact ih (a3 + 1) (up2 σ.1 1 ((r55 + (1 : Int32)).toNatClampNeg) ((σ.1 1 ((r55 + (1 : Int32)).toNatClampNeg)) + ((σ.1 1 ((r67 + (2 : Int32)).toNatClampNeg)) * a1)), σ.2) hF ls (lv_sub hl [1, 2, 3, 0] rfl)
def F_X4_passNow (a1 : Int32) (σ : (Mem × Int64)) : Option (Int32 × (Mem × Int64)) := Option.bind (L_X4_passNow_4 a1 FU (0 : Int32) (1 : Int32) σ) (fun v4 : Int32 × (Mem × Int64) => Option.bind (L_X4_passNow_44 a1 v4.1 FU (0 : Int32) v4.2) (fun v44 : (Mem × Int64) => some (v4.1, (up2 v44.1 1 0 ((v44.1 1 0) + a1), v44.2))))
set_option maxHeartbeats 4000000 in
set_option maxRecDepth 100000 in
theorem c_X4_passNow {l : Launch} {D : va_G} {ay : Nat → ClassId} {ad : Nat → Nat} {a1 : Int32} {σ : (Mem × Int64)} {res : Int32 × (Mem × Int64)} (hI : amOK ad) (hF : F_X4_passNow a1 σ = some res) : Met l yX4_passNow wsX4_passNow ({ frames := 5, cells := 0, slots := 0, locals := 122 } : Room) (va_Pc [.ref (ad 0), .int a1] (PP D ay (wM ay ad σ))) (va_Qi (pE res) (fun τ => PP D ay (wM ay ad τ)) (AM ad)) 0 0 (AM ad) := by
  refine g_start (wd := wM ay ad) (A := AM ad) (own := RX4) (mL := 5) (rt := (some .int)) (by decide) rfl rfl (Nat.le_of_ble_eq_true rfl) ?_
  intro p e s m below meth c ls X hl
  have hl : lv_has ls 5 [(0, .ref (ad 0)), (1, .int a1)] := hl
  rw [F_X4_passNow] at hF
  refine g_iconst (v := 0) X dX4_passNow_0 (by decide) ?_
  refine g_istore_n (lv' := [(2, _), (0, _), (1, _)]) X dX4_passNow_1 rfl hl (by decide) rfl (fun ls hl => ?_)
  refine g_iconst (v := 1) X dX4_passNow_2 (by decide) ?_
  refine g_istore_n (lv' := [(3, _), (2, _), (0, _), (1, _)]) X dX4_passNow_3 rfl hl (by decide) rfl (fun ls hl => ?_)
  obtain ⟨v4, hL4, hF⟩ := obind hF
  refine w_X4_passNow_4 X hI (fun ls hl => ?_) FU (0 : Int32) (1 : Int32) σ hL4 ls (lv_sub hl [2, 3, 1, 0] rfl)
  refine g_iconst (v := 0) X dX4_passNow_42 (by decide) ?_
  refine g_istore_n (lv' := [(3, _), (0, _), (1, _), (2, _)]) X dX4_passNow_43 rfl hl (by decide) rfl (fun ls hl => ?_)
  obtain ⟨v44, hL44, hF⟩ := obind hF
  refine w_X4_passNow_44 X hI (fun ls hl => ?_) FU (0 : Int32) v4.2 hL44 ls (lv_sub hl [1, 2, 3, 0] rfl)
  refine g_aload_n X dX4_passNow_83 rfl (lv_at hl 0 rfl) ?_
  refine g_get X 0 (mo_obj) in_X4_passNow_X4 rfl 0 (by decide) (X.ts (.fieldLink RX4 7 "LeadTimesModel" "z" "[I") (by decide +kernel)) rfl rfl dX4_passNow_84 ?_
  refine g_iconst (v := 0) X dX4_passNow_87 (by decide) ?_
  refine g_dup2 X dX4_passNow_88 rfl rfl ?_
  refine g_iald X 1 (j := 0) (mo_arr1) (by first | rfl | decide) (inb_in (by decide)) dX4_passNow_89 ?_
  refine g_iload_n X dX4_passNow_90 rfl (lv_at hl 1 rfl) ?_
  refine g_iadd X dX4_passNow_91 ?_
  refine g_iast X (wM_D hI) ((up2 v44.1 1 0 ((v44.1 1 0) + a1), v44.2)) 1 (j := 0) (mo_arr1) (by first | rfl | decide) (set_arrM (a := 0) (n := 84) (fun τ => mo_arr1)) (inb_in (by decide)) dX4_passNow_92 ?_
  refine g_iload_n X dX4_passNow_93 rfl (lv_at hl 2 rfl) ?_
  exact g_iret X (pE_mk (some_inj hF)) dX4_passNow_94
theorem in_X4_pass_X4 : ∀ w ∈ wsX40, w ∈ wsX4_pass := by decide +kernel
def F_X4_pass (a1 : Int32) (σ : (Mem × Int64)) : Option (Int32 × (Mem × Int64)) := Option.bind (F_X4_in a1 (1 : Int32) (99 : Int32)) (fun r9 => (if ¬ r9 = 0 then (if (((up2 σ.1 0 5 (0 : Int32)) 1 0) + a1) ≤ (9999 : Int32) then Option.bind (F_X4_save (up2 σ.1 0 5 (0 : Int32), σ.2)) (fun r42 => Option.bind (F_X4_passNow a1 r42) (fun r47 => some (r47.1, r47.2))) else Option.bind (F_X4_fails (2 : Int32) (up2 σ.1 0 5 (0 : Int32), σ.2)) (fun r37 => some (r37.1, r37.2))) else Option.bind (F_X4_fails (1 : Int32) (up2 σ.1 0 5 (0 : Int32), σ.2)) (fun r17 => some (r17.1, r17.2))))
set_option maxHeartbeats 4000000 in
set_option maxRecDepth 100000 in
theorem c_X4_pass {l : Launch} {D : va_G} {ay : Nat → ClassId} {ad : Nat → Nat} {a1 : Int32} {σ : (Mem × Int64)} {res : Int32 × (Mem × Int64)} (hI : amOK ad) (hF : F_X4_pass a1 σ = some res) : Met l yX4_pass wsX4_pass ({ frames := 6, cells := 0, slots := 0, locals := 146 } : Room) (va_Pc [.ref (ad 0), .int a1] (PP D ay (wM ay ad σ))) (va_Qi (pE res) (fun τ => PP D ay (wM ay ad τ)) (AM ad)) 0 0 (AM ad) := by
  refine g_start (wd := wM ay ad) (A := AM ad) (own := RX4) (mL := 2) (rt := (some .int)) (by decide) rfl rfl (Nat.le_of_ble_eq_true rfl) ?_
  intro p e s m below meth c ls X hl
  have hl : lv_has ls 2 [(0, .ref (ad 0)), (1, .int a1)] := hl
  rw [F_X4_pass] at hF
  refine g_aload_n X dX4_pass_0 rfl (lv_at hl 0 rfl) ?_
  refine g_iconst (v := 0) X dX4_pass_1 (by decide) ?_
  refine g_put X (wM_D hI) ((up2 σ.1 0 5 (0 : Int32), σ.2)) 0 (mo_obj) 5 (set_mo5) tyX4 tyX4_ok nmX4 in_X4_pass_X4 rfl (by decide) (X.ts (.fieldLink RX4 34 "LeadTimesModel" "thrown" "I") (by decide +kernel)) rfl rfl rfl rfl rfl (Nat.le_of_ble_eq_true rfl) dX4_pass_2 ?_
  refine g_iload_n X dX4_pass_5 rfl (lv_at hl 1 rfl) ?_
  refine g_iconst (v := 1) X dX4_pass_6 (by decide) ?_
  refine g_bipush (v := 99) X dX4_pass_7 (by decide) ?_
  obtain ⟨r9, hr9, hF⟩ := obind hF
  refine k_Sz X (As := [.int a1, .int (1 : Int32), .int (99 : Int32)]) (rest := []) (c_X4_in hI hr9) (va_cwS 3 X.ts gX4_pass_X4_in rfl rfl rfl (by decide +kernel) ⟨Nat.le_of_ble_eq_true rfl, Nat.le_of_ble_eq_true rfl⟩) rfl hl.1 rfl (Nat.le_of_ble_eq_true rfl) dX4_pass_9 (fun hz9 => ?_)
  refine g_if_ne (tgt := 21) X dX4_pass_12 (by decide) (fun hc12 => ?_) (fun hc12 => ?_)
  · have hF := ite_t hF hc12
    refine g_aload_n X dX4_pass_21 rfl (lv_at hl 0 rfl) ?_
    refine g_get X 0 (mo_obj) in_X4_pass_X4 rfl 0 (by decide) (X.ts (.fieldLink RX4 7 "LeadTimesModel" "z" "[I") (by decide +kernel)) rfl rfl dX4_pass_22 ?_
    refine g_iconst (v := 0) X dX4_pass_25 (by decide) ?_
    refine g_iald X 1 (j := 0) (mo_arr1) (by first | rfl | decide) (inb_in (by decide)) dX4_pass_26 ?_
    refine g_iload_n X dX4_pass_27 rfl (lv_at hl 1 rfl) ?_
    refine g_iadd X dX4_pass_28 ?_
    refine g_sipush (v := 9999) X dX4_pass_29 (by decide) ?_
    refine g_icmp_le (tgt := 41) X dX4_pass_32 (by decide) (fun hc32 => ?_) (fun hc32 => ?_)
    · have hF := ite_t hF hc32
      refine g_aload_n X dX4_pass_41 rfl (lv_at hl 0 rfl) ?_
      obtain ⟨r42, hr42, hF⟩ := obind hF
      refine k_Vv X (As := []) (rest := []) (c_X4_save hI hr42) (cwV 0 X.ts gX4_pass_X4_save rfl rfl rfl (by decide +kernel) ⟨Nat.le_of_ble_eq_true rfl, Nat.le_of_ble_eq_true rfl⟩) ⟨0, 4, _, _, mo_obj, rfl, rfl⟩ rfl hl.1 rfl (Nat.le_of_ble_eq_true rfl) dX4_pass_42 ?_
      refine g_aload_n X dX4_pass_45 rfl (lv_at hl 0 rfl) ?_
      refine g_iload_n X dX4_pass_46 rfl (lv_at hl 1 rfl) ?_
      obtain ⟨r47, hr47, hF⟩ := obind hF
      refine k_Vie X (As := [.int a1]) (rest := []) (c_X4_passNow hI hr47) (cwV 1 X.ts gX4_pass_X4_passNow rfl rfl rfl (by decide +kernel) ⟨Nat.le_of_ble_eq_true rfl, Nat.le_of_ble_eq_true rfl⟩) ⟨0, 4, _, _, mo_obj, rfl, rfl⟩ rfl hl.1 rfl (Nat.le_of_ble_eq_true rfl) dX4_pass_47 ?_
      exact g_iret X (pE_mk (some_inj hF)) dX4_pass_50
    · have hF := ite_f hF hc32
      refine g_aload_n X dX4_pass_35 rfl (lv_at hl 0 rfl) ?_
      refine g_iconst (v := 2) X dX4_pass_36 (by decide) ?_
      obtain ⟨r37, hr37, hF⟩ := obind hF
      refine k_Vie X (As := [.int (2 : Int32)]) (rest := []) (c_X4_fails hI hr37) (cwV 1 X.ts gX4_pass_X4_fails rfl rfl rfl (by decide +kernel) ⟨Nat.le_of_ble_eq_true rfl, Nat.le_of_ble_eq_true rfl⟩) ⟨0, 4, _, _, mo_obj, rfl, rfl⟩ rfl hl.1 rfl (Nat.le_of_ble_eq_true rfl) dX4_pass_37 ?_
      exact g_iret X (pE_mk (some_inj hF)) dX4_pass_40
  · have hF := ite_n hF hc12
    refine g_aload_n X dX4_pass_15 rfl (lv_at hl 0 rfl) ?_
    refine g_iconst (v := 1) X dX4_pass_16 (by decide) ?_
    obtain ⟨r17, hr17, hF⟩ := obind hF
    refine k_Vie X (As := [.int (1 : Int32)]) (rest := []) (c_X4_fails hI hr17) (cwV 1 X.ts gX4_pass_X4_fails rfl rfl rfl (by decide +kernel) ⟨Nat.le_of_ble_eq_true rfl, Nat.le_of_ble_eq_true rfl⟩) ⟨0, 4, _, _, mo_obj, rfl, rfl⟩ rfl hl.1 rfl (Nat.le_of_ble_eq_true rfl) dX4_pass_17 ?_
    exact g_iret X (pE_mk (some_inj hF)) dX4_pass_20
theorem in_X4_layFirst_X4 : ∀ w ∈ wsX40, w ∈ wsX4_layFirst := by decide +kernel
def L_X4_layFirst_22 : Nat → Int32 → (Mem × Int64) → Option (Mem × Int64)
  | 0, _, _ => none
  | fu + 1, a1, σ => (if (15 : Int32) < a1 then some σ else Option.bind (F_X4_winnerOf a1 σ) (fun r32 => Option.bind (F_X4_layNext a1 r32 σ) (fun r35 => (Option.bind (if (r35.1 0 8) = (-1 : Int32) then some r35 else (Option.bind (if ¬ (r35.1 0 13) = (-1 : Int32) then some ((((r35.1 0 6).toInt64) * ((r35.1 0 11).toInt64)) - (((r35.1 0 10).toInt64) * ((r35.1 0 7).toInt64))) else some (-1 : Int64)) (fun v51 : Int64 => (Option.bind (if 0 ≤ (lg_cmp v51 (0 : Int64)) then (if ¬ (lg_cmp v51 (0 : Int64)) = 0 then some (r35.1 0 12) else some ((r35.1 0 12) + (1 : Int32))) else some (1 : Int32)) (fun v88 : Int32 => (Option.bind (if 0 ≤ (lg_cmp v51 (0 : Int64)) then some ((up2 r35.1 0 12 v88) 0 13) else some a1) (fun v121 : Int32 => (Option.bind (if 0 ≤ (lg_cmp v51 (0 : Int64)) then some ((up2 (up2 r35.1 0 12 v88) 0 13 v121) 0 10) else some ((up2 (up2 r35.1 0 12 v88) 0 13 v121) 0 6)) (fun v139 : Int32 => (Option.bind (if 0 ≤ (lg_cmp v51 (0 : Int64)) then some ((up2 (up2 (up2 r35.1 0 12 v88) 0 13 v121) 0 10 v139) 0 11) else some ((up2 (up2 (up2 r35.1 0 12 v88) 0 13 v121) 0 10 v139) 0 7)) (fun v160 : Int32 => some (up2 (up2 (up2 (up2 r35.1 0 12 v88) 0 13 v121) 0 10 v139) 0 11 v160, r35.2)))))))))))) (fun v43 : (Mem × Int64) => L_X4_layFirst_22  fu (a1 + 1) v43)))))
set_option maxHeartbeats 4000000 in
set_option maxRecDepth 100000 in
theorem w_X4_layFirst_22 {D : va_G} {ay : Nat → ClassId} {ad : Nat → Nat} {p : Program} {l : Launch} {e : Env} {s : State} {m : MethodId} {args : Array Value} {below : List Frame} {meth : Method} {c : Code} {res : (Mem × Int64)} (X : CX D ay p s m args meth c cX4_layFirst 4 RX4 none wsX4_layFirst) (hI : amOK ad) : ∀ (fu : Nat) (a1 : Int32) (σ : (Mem × Int64)), L_X4_layFirst_22  fu a1 σ = some res → ∀ ls : Array Slot, lv_has ls 4 [(0, .ref (ad 0)), (1, .int a1)] → GW D (wM ay ad) (AM ad) p l e ({ frames := 4, cells := 0, slots := 0, locals := 98 } : Room) s m args below meth c (MQ below (va_Qv (pV res) (fun τ => PP D ay (wM ay ad τ)) (AM ad)) args s 0 0 (AM ad)) σ (F0 m 22 ls []) := by
  intro fu
  induction fu with
  | zero =>
    intro a1 σ hF ls hl
    rw [L_X4_layFirst_22] at hF
    cases hF
  | succ fu ih =>
    intro a1 σ hF ls hl
    rw [L_X4_layFirst_22] at hF
    refine g_iload_n X dX4_layFirst_22 rfl (lv_at hl 1 rfl) ?_
    refine g_bipush (v := 15) X dX4_layFirst_23 (by decide) ?_
    refine g_icmp_gt (tgt := 183) X dX4_layFirst_25 (by decide) (fun hc25 => ?_) (fun hc25 => ?_)
    · have hF := ite_t hF hc25
      exact g_vret X (pV_mk (some_inj hF)) dX4_layFirst_183
    · have hF := ite_f hF hc25
      refine g_aload_n X dX4_layFirst_28 rfl (lv_at hl 0 rfl) ?_
      refine g_iload_n X dX4_layFirst_29 rfl (lv_at hl 1 rfl) ?_
      refine g_aload_n X dX4_layFirst_30 rfl (lv_at hl 0 rfl) ?_
      refine g_iload_n X dX4_layFirst_31 rfl (lv_at hl 1 rfl) ?_
      obtain ⟨r32, hr32, hF⟩ := obind hF
      refine k_Vi X (As := [.int a1]) (rest := [.int a1, .ref (ad 0)]) (c_X4_winnerOf hI hr32) (cwV 1 X.ts gX4_layFirst_X4_winnerOf rfl rfl rfl (by decide +kernel) ⟨Nat.le_of_ble_eq_true rfl, Nat.le_of_ble_eq_true rfl⟩) ⟨0, 4, _, _, mo_obj, rfl, rfl⟩ rfl hl.1 rfl (Nat.le_of_ble_eq_true rfl) dX4_layFirst_32 ?_
      obtain ⟨r35, hr35, hF⟩ := obind hF
      refine k_Vv X (As := [.int a1, .int r32]) (rest := []) (c_X4_layNext hI hr35) (cwV 2 X.ts gX4_layFirst_X4_layNext rfl rfl rfl (by decide +kernel) ⟨Nat.le_of_ble_eq_true rfl, Nat.le_of_ble_eq_true rfl⟩) ⟨0, 4, _, _, mo_obj, rfl, rfl⟩ rfl hl.1 rfl (Nat.le_of_ble_eq_true rfl) dX4_layFirst_35 ?_
      refine g_aload_n X dX4_layFirst_38 rfl (lv_at hl 0 rfl) ?_
      refine g_get X 0 (mo_obj) in_X4_layFirst_X4 rfl 8 (by decide) (X.ts (.fieldLink RX4 67 "LeadTimesModel" "nextWho" "I") (by decide +kernel)) rfl rfl dX4_layFirst_39 ?_
      refine g_iconst (v := -1) X dX4_layFirst_42 (by decide) ?_
      obtain ⟨v43, hR43, hF⟩ := obind hF
      refine g_cut (nM := 4) [(0, .ref (ad 0)), (1, .int a1)] (v43) 177 [] (fun ls hl => ?_) (fun J43 => ?_)
      · refine g_iinc (v := a1 + 1) (lv' := [(1, _), (0, _)]) X dX4_layFirst_177 hl (k := 1) rfl rfl (by decide) rfl (fun ls hl => ?_)
        refine g_goto (tgt := 22) X dX4_layFirst_180 (by decide) ?_
        exact ih (a1 + 1) v43 hF ls (lv_sub hl [1, 0] rfl)
      · refine g_icmp_eq (tgt := 177) X dX4_layFirst_43 (by decide) (fun hc43 => ?_) (fun hc43 => ?_)
        · have hR43 := ite_t hR43 hc43
          have e43 := some_inj hR43
          subst e43
          exact J43 ls (lv_sub hl [0, 1] rfl)
        · have hR43 := ite_f hR43 hc43
          refine g_aload_n X dX4_layFirst_46 rfl (lv_at hl 0 rfl) ?_
          refine g_get X 0 (mo_obj) in_X4_layFirst_X4 rfl 13 (by decide) (X.ts (.fieldLink RX4 119 "LeadTimesModel" "firstContest" "I") (by decide +kernel)) rfl rfl dX4_layFirst_47 ?_
          refine g_iconst (v := -1) X dX4_layFirst_50 (by decide) ?_
          obtain ⟨v51, hR51, hR43⟩ := obind hR43
          refine g_cut (nM := 4) [(0, .ref (ad 0)), (1, .int a1)] (r35) 83 [.long v51] (fun ls hl => ?_) (fun J51 => ?_)
          · refine g_lstore_n (lv' := [(2, _), (0, _), (1, _)]) X dX4_layFirst_83 rfl hl (by decide) rfl (fun ls hl => ?_)
            refine g_aload_n X dX4_layFirst_84 rfl (lv_at hl 1 rfl) ?_
            refine g_lload_n X dX4_layFirst_85 rfl (lv_at hl 0 rfl) ?_
            refine g_lconst (v := 0) X dX4_layFirst_86 (by decide) ?_
            refine g_lcmp X dX4_layFirst_87 ?_
            obtain ⟨v88, hR88, hR43⟩ := obind hR43
            refine g_cut (nM := 4) [(0, .ref (ad 0)), (1, .int a1), (2, .long v51)] (r35) 114 [.int v88, .ref (ad 0)] (fun ls hl => ?_) (fun J88 => ?_)
            · refine g_put X (wM_D hI) ((up2 r35.1 0 12 v88, r35.2)) 0 (mo_obj) 12 (set_mo12) tyX4 tyX4_ok nmX4 in_X4_layFirst_X4 rfl (by decide) (X.ts (.fieldLink RX4 128 "LeadTimesModel" "firstMany" "I") (by decide +kernel)) rfl rfl rfl rfl rfl (Nat.le_of_ble_eq_true rfl) dX4_layFirst_114 ?_
              refine g_aload_n X dX4_layFirst_117 rfl (lv_at hl 0 rfl) ?_
              refine g_lload_n X dX4_layFirst_118 rfl (lv_at hl 2 rfl) ?_
              refine g_lconst (v := 0) X dX4_layFirst_119 (by decide) ?_
              refine g_lcmp X dX4_layFirst_120 ?_
              obtain ⟨v121, hR121, hR43⟩ := obind hR43
              refine g_cut (nM := 4) [(0, .ref (ad 0)), (1, .int a1), (2, .long v51)] ((up2 r35.1 0 12 v88, r35.2)) 132 [.int v121, .ref (ad 0)] (fun ls hl => ?_) (fun J121 => ?_)
              · refine g_put X (wM_D hI) ((up2 (up2 r35.1 0 12 v88) 0 13 v121, r35.2)) 0 (mo_obj) 13 (set_mo13) tyX4 tyX4_ok nmX4 in_X4_layFirst_X4 rfl (by decide) (X.ts (.fieldLink RX4 119 "LeadTimesModel" "firstContest" "I") (by decide +kernel)) rfl rfl rfl rfl rfl (Nat.le_of_ble_eq_true rfl) dX4_layFirst_132 ?_
                refine g_aload_n X dX4_layFirst_135 rfl (lv_at hl 0 rfl) ?_
                refine g_lload_n X dX4_layFirst_136 rfl (lv_at hl 2 rfl) ?_
                refine g_lconst (v := 0) X dX4_layFirst_137 (by decide) ?_
                refine g_lcmp X dX4_layFirst_138 ?_
                obtain ⟨v139, hR139, hR43⟩ := obind hR43
                refine g_cut (nM := 4) [(0, .ref (ad 0)), (1, .int a1), (2, .long v51)] ((up2 (up2 r35.1 0 12 v88) 0 13 v121, r35.2)) 153 [.int v139, .ref (ad 0)] (fun ls hl => ?_) (fun J139 => ?_)
                · refine g_put X (wM_D hI) ((up2 (up2 (up2 r35.1 0 12 v88) 0 13 v121) 0 10 v139, r35.2)) 0 (mo_obj) 10 (set_mo10) tyX4 tyX4_ok nmX4 in_X4_layFirst_X4 rfl (by decide) (X.ts (.fieldLink RX4 122 "LeadTimesModel" "firstA" "I") (by decide +kernel)) rfl rfl rfl rfl rfl (Nat.le_of_ble_eq_true rfl) dX4_layFirst_153 ?_
                  refine g_aload_n X dX4_layFirst_156 rfl (lv_at hl 0 rfl) ?_
                  refine g_lload_n X dX4_layFirst_157 rfl (lv_at hl 2 rfl) ?_
                  refine g_lconst (v := 0) X dX4_layFirst_158 (by decide) ?_
                  refine g_lcmp X dX4_layFirst_159 ?_
                  obtain ⟨v160, hR160, hR43⟩ := obind hR43
                  refine g_cut (nM := 4) [(0, .ref (ad 0)), (1, .int a1)] ((up2 (up2 (up2 r35.1 0 12 v88) 0 13 v121) 0 10 v139, r35.2)) 174 [.int v160, .ref (ad 0)] (fun ls hl => ?_) (fun J160 => ?_)
                  · refine g_put X (wM_D hI) ((up2 (up2 (up2 (up2 r35.1 0 12 v88) 0 13 v121) 0 10 v139) 0 11 v160, r35.2)) 0 (mo_obj) 11 (set_mo11) tyX4 tyX4_ok nmX4 in_X4_layFirst_X4 rfl (by decide) (X.ts (.fieldLink RX4 125 "LeadTimesModel" "firstB" "I") (by decide +kernel)) rfl rfl rfl rfl rfl (Nat.le_of_ble_eq_true rfl) dX4_layFirst_174 ?_
                    have e43 := some_inj hR43
                    subst e43
                    exact J43 ls (lv_sub hl [0, 1] rfl)
                  · refine g_if_ge (tgt := 170) X dX4_layFirst_160 (by decide) (fun hc160 => ?_) (fun hc160 => ?_)
                    · have hR160 := ite_t hR160 hc160
                      refine g_aload_n X dX4_layFirst_170 rfl (lv_at hl 0 rfl) ?_
                      refine g_get X 0 (mo_obj) in_X4_layFirst_X4 rfl 11 (by decide) (X.ts (.fieldLink RX4 125 "LeadTimesModel" "firstB" "I") (by decide +kernel)) rfl rfl dX4_layFirst_171 ?_
                      have e160 := some_inj hR160
                      subst e160
                      exact J160 ls (lv_sub hl [0, 1] rfl)
                    · have hR160 := ite_f hR160 hc160
                      refine g_aload_n X dX4_layFirst_163 rfl (lv_at hl 0 rfl) ?_
                      refine g_get X 0 (mo_obj) in_X4_layFirst_X4 rfl 7 (by decide) (X.ts (.fieldLink RX4 73 "LeadTimesModel" "nextB" "I") (by decide +kernel)) rfl rfl dX4_layFirst_164 ?_
                      refine g_goto (tgt := 174) X dX4_layFirst_167 (by decide) ?_
                      have e160 := some_inj hR160
                      subst e160
                      exact J160 ls (lv_sub hl [0, 1] rfl)
                · refine g_if_ge (tgt := 149) X dX4_layFirst_139 (by decide) (fun hc139 => ?_) (fun hc139 => ?_)
                  · have hR139 := ite_t hR139 hc139
                    refine g_aload_n X dX4_layFirst_149 rfl (lv_at hl 0 rfl) ?_
                    refine g_get X 0 (mo_obj) in_X4_layFirst_X4 rfl 10 (by decide) (X.ts (.fieldLink RX4 122 "LeadTimesModel" "firstA" "I") (by decide +kernel)) rfl rfl dX4_layFirst_150 ?_
                    have e139 := some_inj hR139
                    subst e139
                    exact J139 ls (lv_sub hl [0, 1, 2] rfl)
                  · have hR139 := ite_f hR139 hc139
                    refine g_aload_n X dX4_layFirst_142 rfl (lv_at hl 0 rfl) ?_
                    refine g_get X 0 (mo_obj) in_X4_layFirst_X4 rfl 6 (by decide) (X.ts (.fieldLink RX4 70 "LeadTimesModel" "nextA" "I") (by decide +kernel)) rfl rfl dX4_layFirst_143 ?_
                    refine g_goto (tgt := 153) X dX4_layFirst_146 (by decide) ?_
                    have e139 := some_inj hR139
                    subst e139
                    exact J139 ls (lv_sub hl [0, 1, 2] rfl)
              · refine g_if_ge (tgt := 128) X dX4_layFirst_121 (by decide) (fun hc121 => ?_) (fun hc121 => ?_)
                · have hR121 := ite_t hR121 hc121
                  refine g_aload_n X dX4_layFirst_128 rfl (lv_at hl 0 rfl) ?_
                  refine g_get X 0 (mo_obj) in_X4_layFirst_X4 rfl 13 (by decide) (X.ts (.fieldLink RX4 119 "LeadTimesModel" "firstContest" "I") (by decide +kernel)) rfl rfl dX4_layFirst_129 ?_
                  have e121 := some_inj hR121
                  subst e121
                  exact J121 ls (lv_sub hl [0, 1, 2] rfl)
                · have hR121 := ite_f hR121 hc121
                  refine g_iload_n X dX4_layFirst_124 rfl (lv_at hl 1 rfl) ?_
                  refine g_goto (tgt := 132) X dX4_layFirst_125 (by decide) ?_
                  have e121 := some_inj hR121
                  subst e121
                  exact J121 ls (lv_sub hl [0, 1, 2] rfl)
            · refine g_if_ge (tgt := 95) X dX4_layFirst_88 (by decide) (fun hc88 => ?_) (fun hc88 => ?_)
              · have hR88 := ite_t hR88 hc88
                refine g_lload_n X dX4_layFirst_95 rfl (lv_at hl 0 rfl) ?_
                refine g_lconst (v := 0) X dX4_layFirst_96 (by decide) ?_
                refine g_lcmp X dX4_layFirst_97 ?_
                refine g_if_ne (tgt := 110) X dX4_layFirst_98 (by decide) (fun hc98 => ?_) (fun hc98 => ?_)
                · have hR88 := ite_t hR88 hc98
                  refine g_aload_n X dX4_layFirst_110 rfl (lv_at hl 1 rfl) ?_
                  refine g_get X 0 (mo_obj) in_X4_layFirst_X4 rfl 12 (by decide) (X.ts (.fieldLink RX4 128 "LeadTimesModel" "firstMany" "I") (by decide +kernel)) rfl rfl dX4_layFirst_111 ?_
                  have e88 := some_inj hR88
                  subst e88
                  exact J88 ls (lv_sub hl [1, 2, 0] rfl)
                · have hR88 := ite_n hR88 hc98
                  refine g_aload_n X dX4_layFirst_101 rfl (lv_at hl 1 rfl) ?_
                  refine g_get X 0 (mo_obj) in_X4_layFirst_X4 rfl 12 (by decide) (X.ts (.fieldLink RX4 128 "LeadTimesModel" "firstMany" "I") (by decide +kernel)) rfl rfl dX4_layFirst_102 ?_
                  refine g_iconst (v := 1) X dX4_layFirst_105 (by decide) ?_
                  refine g_iadd X dX4_layFirst_106 ?_
                  refine g_goto (tgt := 114) X dX4_layFirst_107 (by decide) ?_
                  have e88 := some_inj hR88
                  subst e88
                  exact J88 ls (lv_sub hl [1, 2, 0] rfl)
              · have hR88 := ite_f hR88 hc88
                refine g_iconst (v := 1) X dX4_layFirst_91 (by decide) ?_
                refine g_goto (tgt := 114) X dX4_layFirst_92 (by decide) ?_
                have e88 := some_inj hR88
                subst e88
                exact J88 ls (lv_sub hl [1, 2, 0] rfl)
          · refine g_icmp_ne (tgt := 60) X dX4_layFirst_51 (by decide) (fun hc51 => ?_) (fun hc51 => ?_)
            · have hR51 := ite_t hR51 hc51
              refine g_aload_n X dX4_layFirst_60 rfl (lv_at hl 0 rfl) ?_
              refine g_get X 0 (mo_obj) in_X4_layFirst_X4 rfl 6 (by decide) (X.ts (.fieldLink RX4 70 "LeadTimesModel" "nextA" "I") (by decide +kernel)) rfl rfl dX4_layFirst_61 ?_
              refine g_i2l X dX4_layFirst_64 ?_
              refine g_aload_n X dX4_layFirst_65 rfl (lv_at hl 0 rfl) ?_
              refine g_get X 0 (mo_obj) in_X4_layFirst_X4 rfl 11 (by decide) (X.ts (.fieldLink RX4 125 "LeadTimesModel" "firstB" "I") (by decide +kernel)) rfl rfl dX4_layFirst_66 ?_
              refine g_i2l X dX4_layFirst_69 ?_
              refine g_lmul X dX4_layFirst_70 ?_
              refine g_aload_n X dX4_layFirst_71 rfl (lv_at hl 0 rfl) ?_
              refine g_get X 0 (mo_obj) in_X4_layFirst_X4 rfl 10 (by decide) (X.ts (.fieldLink RX4 122 "LeadTimesModel" "firstA" "I") (by decide +kernel)) rfl rfl dX4_layFirst_72 ?_
              refine g_i2l X dX4_layFirst_75 ?_
              refine g_aload_n X dX4_layFirst_76 rfl (lv_at hl 0 rfl) ?_
              refine g_get X 0 (mo_obj) in_X4_layFirst_X4 rfl 7 (by decide) (X.ts (.fieldLink RX4 73 "LeadTimesModel" "nextB" "I") (by decide +kernel)) rfl rfl dX4_layFirst_77 ?_
              refine g_i2l X dX4_layFirst_80 ?_
              refine g_lmul X dX4_layFirst_81 ?_
              refine g_lsub X dX4_layFirst_82 ?_
              have e51 := some_inj hR51
              subst e51
              exact J51 ls (lv_sub hl [0, 1] rfl)
            · have hR51 := ite_n hR51 hc51
              refine g_ldc2 X dX4_layFirst_54 (X.ts (.constantLong RX4 76 (-1)) (by decide +kernel)) ?_
              refine g_goto (tgt := 83) X dX4_layFirst_57 (by decide) ?_
              have e51 := some_inj hR51
              subst e51
              exact J51 ls (lv_sub hl [0, 1] rfl)
def F_X4_layFirst (σ : (Mem × Int64)) : Option (Mem × Int64) := L_X4_layFirst_22  FU (1 : Int32) (up2 (up2 (up2 (up2 σ.1 0 13 (-1 : Int32)) 0 10 (0 : Int32)) 0 11 (0 : Int32)) 0 12 (0 : Int32), σ.2)
set_option maxHeartbeats 4000000 in
set_option maxRecDepth 100000 in
theorem c_X4_layFirst {l : Launch} {D : va_G} {ay : Nat → ClassId} {ad : Nat → Nat} {σ : (Mem × Int64)} {res : (Mem × Int64)} (hI : amOK ad) (hF : F_X4_layFirst  σ = some res) : Met l yX4_layFirst wsX4_layFirst ({ frames := 4, cells := 0, slots := 0, locals := 98 } : Room) (va_Pc [.ref (ad 0)] (PP D ay (wM ay ad σ))) (va_Qv (pV res) (fun τ => PP D ay (wM ay ad τ)) (AM ad)) 0 0 (AM ad) := by
  refine g_start (wd := wM ay ad) (A := AM ad) (own := RX4) (mL := 4) (rt := none) (by decide) rfl rfl (Nat.le_of_ble_eq_true rfl) ?_
  intro p e s m below meth c ls X hl
  have hl : lv_has ls 4 [(0, .ref (ad 0))] := hl
  rw [F_X4_layFirst] at hF
  refine g_aload_n X dX4_layFirst_0 rfl (lv_at hl 0 rfl) ?_
  refine g_iconst (v := -1) X dX4_layFirst_1 (by decide) ?_
  refine g_put X (wM_D hI) ((up2 σ.1 0 13 (-1 : Int32), σ.2)) 0 (mo_obj) 13 (set_mo13) tyX4 tyX4_ok nmX4 in_X4_layFirst_X4 rfl (by decide) (X.ts (.fieldLink RX4 119 "LeadTimesModel" "firstContest" "I") (by decide +kernel)) rfl rfl rfl rfl rfl (Nat.le_of_ble_eq_true rfl) dX4_layFirst_2 ?_
  refine g_aload_n X dX4_layFirst_5 rfl (lv_at hl 0 rfl) ?_
  refine g_iconst (v := 0) X dX4_layFirst_6 (by decide) ?_
  refine g_put X (wM_D hI) ((up2 (up2 σ.1 0 13 (-1 : Int32)) 0 10 (0 : Int32), σ.2)) 0 (mo_obj) 10 (set_mo10) tyX4 tyX4_ok nmX4 in_X4_layFirst_X4 rfl (by decide) (X.ts (.fieldLink RX4 122 "LeadTimesModel" "firstA" "I") (by decide +kernel)) rfl rfl rfl rfl rfl (Nat.le_of_ble_eq_true rfl) dX4_layFirst_7 ?_
  refine g_aload_n X dX4_layFirst_10 rfl (lv_at hl 0 rfl) ?_
  refine g_iconst (v := 0) X dX4_layFirst_11 (by decide) ?_
  refine g_put X (wM_D hI) ((up2 (up2 (up2 σ.1 0 13 (-1 : Int32)) 0 10 (0 : Int32)) 0 11 (0 : Int32), σ.2)) 0 (mo_obj) 11 (set_mo11) tyX4 tyX4_ok nmX4 in_X4_layFirst_X4 rfl (by decide) (X.ts (.fieldLink RX4 125 "LeadTimesModel" "firstB" "I") (by decide +kernel)) rfl rfl rfl rfl rfl (Nat.le_of_ble_eq_true rfl) dX4_layFirst_12 ?_
  refine g_aload_n X dX4_layFirst_15 rfl (lv_at hl 0 rfl) ?_
  refine g_iconst (v := 0) X dX4_layFirst_16 (by decide) ?_
  refine g_put X (wM_D hI) ((up2 (up2 (up2 (up2 σ.1 0 13 (-1 : Int32)) 0 10 (0 : Int32)) 0 11 (0 : Int32)) 0 12 (0 : Int32), σ.2)) 0 (mo_obj) 12 (set_mo12) tyX4 tyX4_ok nmX4 in_X4_layFirst_X4 rfl (by decide) (X.ts (.fieldLink RX4 128 "LeadTimesModel" "firstMany" "I") (by decide +kernel)) rfl rfl rfl rfl rfl (Nat.le_of_ble_eq_true rfl) dX4_layFirst_17 ?_
  refine g_iconst (v := 1) X dX4_layFirst_20 (by decide) ?_
  refine g_istore_n (lv' := [(1, _), (0, _)]) X dX4_layFirst_21 rfl hl (by decide) rfl (fun ls hl => ?_)
  exact w_X4_layFirst_22 X hI FU (1 : Int32) (up2 (up2 (up2 (up2 σ.1 0 13 (-1 : Int32)) 0 10 (0 : Int32)) 0 11 (0 : Int32)) 0 12 (0 : Int32), σ.2) hF ls (lv_sub hl [1, 0] rfl)
theorem in_X4_passToTurn_X4 : ∀ w ∈ wsX40, w ∈ wsX4_passToTurn := by decide +kernel
def F_X4_passToTurn (σ : (Mem × Int64)) : Option (Int32 × (Mem × Int64)) := Option.bind (F_X4_layFirst (up2 σ.1 0 5 (0 : Int32), σ.2)) (fun r6 => (if (r6.1 0 13) = (-1 : Int32) then Option.bind (F_X4_fails (1 : Int32) r6) (fun r48 => some (r48.1, r48.2)) else if ¬ (r6.1 0 11) = 0 then ((if ((r6.1 1 0) + ((((r6.1 0 10) + (r6.1 0 11)) - (1 : Int32)) / (r6.1 0 11))) ≤ (9999 : Int32) then Option.bind (F_X4_save r6) (fun r53 => if ¬ (r53.1 0 11) = 0 then (Option.bind (F_X4_passNow ((((r53.1 0 10) + (r53.1 0 11)) - (1 : Int32)) / (r53.1 0 11)) r53) (fun r73 => some (r73.1, r73.2))) else none) else Option.bind (F_X4_fails (1 : Int32) r6) (fun r48 => some (r48.1, r48.2)))) else none))
set_option maxHeartbeats 4000000 in
set_option maxRecDepth 100000 in
theorem c_X4_passToTurn {l : Launch} {D : va_G} {ay : Nat → ClassId} {ad : Nat → Nat} {σ : (Mem × Int64)} {res : Int32 × (Mem × Int64)} (hI : amOK ad) (hF : F_X4_passToTurn  σ = some res) : Met l yX4_passToTurn wsX4_passToTurn ({ frames := 6, cells := 0, slots := 0, locals := 146 } : Room) (va_Pc [.ref (ad 0)] (PP D ay (wM ay ad σ))) (va_Qi (pE res) (fun τ => PP D ay (wM ay ad τ)) (AM ad)) 0 0 (AM ad) := by
  refine g_start (wd := wM ay ad) (A := AM ad) (own := RX4) (mL := 1) (rt := (some .int)) (by decide) rfl rfl (Nat.le_of_ble_eq_true rfl) ?_
  intro p e s m below meth c ls X hl
  have hl : lv_has ls 1 [(0, .ref (ad 0))] := hl
  rw [F_X4_passToTurn] at hF
  refine g_aload_n X dX4_passToTurn_0 rfl (lv_at hl 0 rfl) ?_
  refine g_iconst (v := 0) X dX4_passToTurn_1 (by decide) ?_
  refine g_put X (wM_D hI) ((up2 σ.1 0 5 (0 : Int32), σ.2)) 0 (mo_obj) 5 (set_mo5) tyX4 tyX4_ok nmX4 in_X4_passToTurn_X4 rfl (by decide) (X.ts (.fieldLink RX4 34 "LeadTimesModel" "thrown" "I") (by decide +kernel)) rfl rfl rfl rfl rfl (Nat.le_of_ble_eq_true rfl) dX4_passToTurn_2 ?_
  refine g_aload_n X dX4_passToTurn_5 rfl (lv_at hl 0 rfl) ?_
  obtain ⟨r6, hr6, hF⟩ := obind hF
  refine k_Vv X (As := []) (rest := []) (c_X4_layFirst hI hr6) (cwV 0 X.ts gX4_passToTurn_X4_layFirst rfl rfl rfl (by decide +kernel) ⟨Nat.le_of_ble_eq_true rfl, Nat.le_of_ble_eq_true rfl⟩) ⟨0, 4, _, _, mo_obj, rfl, rfl⟩ rfl hl.1 rfl (Nat.le_of_ble_eq_true rfl) dX4_passToTurn_6 ?_
  refine g_aload_n X dX4_passToTurn_9 rfl (lv_at hl 0 rfl) ?_
  refine g_get X 0 (mo_obj) in_X4_passToTurn_X4 rfl 13 (by decide) (X.ts (.fieldLink RX4 119 "LeadTimesModel" "firstContest" "I") (by decide +kernel)) rfl rfl dX4_passToTurn_10 ?_
  refine g_iconst (v := -1) X dX4_passToTurn_13 (by decide) ?_
  refine g_icmp_eq (tgt := 46) X dX4_passToTurn_14 (by decide) (fun hc14 => ?_) (fun hc14 => ?_)
  · have hF := ite_t hF hc14
    refine g_aload_n X dX4_passToTurn_46 rfl (lv_at hl 0 rfl) ?_
    refine g_iconst (v := 1) X dX4_passToTurn_47 (by decide) ?_
    obtain ⟨r48, hr48, hF⟩ := obind hF
    refine k_Vie X (As := [.int (1 : Int32)]) (rest := []) (c_X4_fails hI hr48) (cwV 1 X.ts gX4_passToTurn_X4_fails rfl rfl rfl (by decide +kernel) ⟨Nat.le_of_ble_eq_true rfl, Nat.le_of_ble_eq_true rfl⟩) ⟨0, 4, _, _, mo_obj, rfl, rfl⟩ rfl hl.1 rfl (Nat.le_of_ble_eq_true rfl) dX4_passToTurn_48 ?_
    exact g_iret X (pE_mk (some_inj hF)) dX4_passToTurn_51
  · have hF := ite_f hF hc14
    refine g_aload_n X dX4_passToTurn_17 rfl (lv_at hl 0 rfl) ?_
    refine g_get X 0 (mo_obj) in_X4_passToTurn_X4 rfl 0 (by decide) (X.ts (.fieldLink RX4 7 "LeadTimesModel" "z" "[I") (by decide +kernel)) rfl rfl dX4_passToTurn_18 ?_
    refine g_iconst (v := 0) X dX4_passToTurn_21 (by decide) ?_
    refine g_iald X 1 (j := 0) (mo_arr1) (by first | rfl | decide) (inb_in (by decide)) dX4_passToTurn_22 ?_
    refine g_aload_n X dX4_passToTurn_23 rfl (lv_at hl 0 rfl) ?_
    refine g_get X 0 (mo_obj) in_X4_passToTurn_X4 rfl 10 (by decide) (X.ts (.fieldLink RX4 122 "LeadTimesModel" "firstA" "I") (by decide +kernel)) rfl rfl dX4_passToTurn_24 ?_
    refine g_aload_n X dX4_passToTurn_27 rfl (lv_at hl 0 rfl) ?_
    refine g_get X 0 (mo_obj) in_X4_passToTurn_X4 rfl 11 (by decide) (X.ts (.fieldLink RX4 125 "LeadTimesModel" "firstB" "I") (by decide +kernel)) rfl rfl dX4_passToTurn_28 ?_
    refine g_iadd X dX4_passToTurn_31 ?_
    refine g_iconst (v := 1) X dX4_passToTurn_32 (by decide) ?_
    refine g_isub X dX4_passToTurn_33 ?_
    refine g_aload_n X dX4_passToTurn_34 rfl (lv_at hl 0 rfl) ?_
    refine g_get X 0 (mo_obj) in_X4_passToTurn_X4 rfl 11 (by decide) (X.ts (.fieldLink RX4 125 "LeadTimesModel" "firstB" "I") (by decide +kernel)) rfl rfl dX4_passToTurn_35 ?_
    obtain ⟨h38, hF⟩ := itn hF
    refine g_idiv X dX4_passToTurn_38 h38 ?_
    refine g_iadd X dX4_passToTurn_39 ?_
    refine g_sipush (v := 9999) X dX4_passToTurn_40 (by decide) ?_
    refine g_icmp_le (tgt := 52) X dX4_passToTurn_43 (by decide) (fun hc43 => ?_) (fun hc43 => ?_)
    · have hF := ite_t hF hc43
      refine g_aload_n X dX4_passToTurn_52 rfl (lv_at hl 0 rfl) ?_
      obtain ⟨r53, hr53, hF⟩ := obind hF
      refine k_Vv X (As := []) (rest := []) (c_X4_save hI hr53) (cwV 0 X.ts gX4_passToTurn_X4_save rfl rfl rfl (by decide +kernel) ⟨Nat.le_of_ble_eq_true rfl, Nat.le_of_ble_eq_true rfl⟩) ⟨0, 4, _, _, mo_obj, rfl, rfl⟩ rfl hl.1 rfl (Nat.le_of_ble_eq_true rfl) dX4_passToTurn_53 ?_
      refine g_aload_n X dX4_passToTurn_56 rfl (lv_at hl 0 rfl) ?_
      refine g_aload_n X dX4_passToTurn_57 rfl (lv_at hl 0 rfl) ?_
      refine g_get X 0 (mo_obj) in_X4_passToTurn_X4 rfl 10 (by decide) (X.ts (.fieldLink RX4 122 "LeadTimesModel" "firstA" "I") (by decide +kernel)) rfl rfl dX4_passToTurn_58 ?_
      refine g_aload_n X dX4_passToTurn_61 rfl (lv_at hl 0 rfl) ?_
      refine g_get X 0 (mo_obj) in_X4_passToTurn_X4 rfl 11 (by decide) (X.ts (.fieldLink RX4 125 "LeadTimesModel" "firstB" "I") (by decide +kernel)) rfl rfl dX4_passToTurn_62 ?_
      refine g_iadd X dX4_passToTurn_65 ?_
      refine g_iconst (v := 1) X dX4_passToTurn_66 (by decide) ?_
      refine g_isub X dX4_passToTurn_67 ?_
      refine g_aload_n X dX4_passToTurn_68 rfl (lv_at hl 0 rfl) ?_
      refine g_get X 0 (mo_obj) in_X4_passToTurn_X4 rfl 11 (by decide) (X.ts (.fieldLink RX4 125 "LeadTimesModel" "firstB" "I") (by decide +kernel)) rfl rfl dX4_passToTurn_69 ?_
      obtain ⟨h72, hF⟩ := itn hF
      refine g_idiv X dX4_passToTurn_72 h72 ?_
      obtain ⟨r73, hr73, hF⟩ := obind hF
      refine k_Vie X (As := [.int ((((r53.1 0 10) + (r53.1 0 11)) - (1 : Int32)) / (r53.1 0 11))]) (rest := []) (c_X4_passNow hI hr73) (cwV 1 X.ts gX4_passToTurn_X4_passNow rfl rfl rfl (by decide +kernel) ⟨Nat.le_of_ble_eq_true rfl, Nat.le_of_ble_eq_true rfl⟩) ⟨0, 4, _, _, mo_obj, rfl, rfl⟩ rfl hl.1 rfl (Nat.le_of_ble_eq_true rfl) dX4_passToTurn_73 ?_
      exact g_iret X (pE_mk (some_inj hF)) dX4_passToTurn_76
    · have hF := ite_f hF hc43
      refine g_aload_n X dX4_passToTurn_46 rfl (lv_at hl 0 rfl) ?_
      refine g_iconst (v := 1) X dX4_passToTurn_47 (by decide) ?_
      obtain ⟨r48, hr48, hF⟩ := obind hF
      refine k_Vie X (As := [.int (1 : Int32)]) (rest := []) (c_X4_fails hI hr48) (cwV 1 X.ts gX4_passToTurn_X4_fails rfl rfl rfl (by decide +kernel) ⟨Nat.le_of_ble_eq_true rfl, Nat.le_of_ble_eq_true rfl⟩) ⟨0, 4, _, _, mo_obj, rfl, rfl⟩ rfl hl.1 rfl (Nat.le_of_ble_eq_true rfl) dX4_passToTurn_48 ?_
      exact g_iret X (pE_mk (some_inj hF)) dX4_passToTurn_51
theorem in_X4_set_X4 : ∀ w ∈ wsX40, w ∈ wsX4_set := by decide +kernel
def F_X4_set (a1 : Int32) (a2 : Int32) (σ : (Mem × Int64)) : Option (Int32 × (Mem × Int64)) := Option.bind (F_X4_in a1 (0 : Int32) (1 : Int32)) (fun r8 => (if ¬ r8 = 0 then (Option.bind (if ¬ a1 = 0 then some (999 : Int32) else some (1 : Int32)) (fun v23 : Int32 => Option.bind (F_X4_in a2 a1 v23) (fun r33 => (if ¬ r33 = 0 then Option.bind (F_X4_save (up2 σ.1 0 5 (0 : Int32), σ.2)) (fun r46 => if inb ((1 : Int32) + a1) 84 then (if inb ((1 : Int32) + a1) 84 then (some (r46.1 1 (((1 : Int32) + a1).toNatClampNeg), (up2 r46.1 1 (((1 : Int32) + a1).toNatClampNeg) a2, r46.2))) else none) else none) else Option.bind (F_X4_fails (2 : Int32) (up2 σ.1 0 5 (0 : Int32), σ.2)) (fun r41 => some (r41.1, r41.2)))))) else Option.bind (F_X4_fails (1 : Int32) (up2 σ.1 0 5 (0 : Int32), σ.2)) (fun r16 => some (r16.1, r16.2))))
set_option maxHeartbeats 4000000 in
set_option maxRecDepth 100000 in
theorem c_X4_set {l : Launch} {D : va_G} {ay : Nat → ClassId} {ad : Nat → Nat} {a1 : Int32} {a2 : Int32} {σ : (Mem × Int64)} {res : Int32 × (Mem × Int64)} (hI : amOK ad) (hF : F_X4_set a1 a2 σ = some res) : Met l yX4_set wsX4_set ({ frames := 1, cells := 0, slots := 0, locals := 22 } : Room) (va_Pc [.ref (ad 0), .int a1, .int a2] (PP D ay (wM ay ad σ))) (va_Qi (pE res) (fun τ => PP D ay (wM ay ad τ)) (AM ad)) 0 0 (AM ad) := by
  refine g_start (wd := wM ay ad) (A := AM ad) (own := RX4) (mL := 4) (rt := (some .int)) (by decide) rfl rfl (Nat.le_of_ble_eq_true rfl) ?_
  intro p e s m below meth c ls X hl
  have hl : lv_has ls 4 [(0, .ref (ad 0)), (1, .int a1), (2, .int a2)] := hl
  rw [F_X4_set] at hF
  refine g_aload_n X dX4_set_0 rfl (lv_at hl 0 rfl) ?_
  refine g_iconst (v := 0) X dX4_set_1 (by decide) ?_
  refine g_put X (wM_D hI) ((up2 σ.1 0 5 (0 : Int32), σ.2)) 0 (mo_obj) 5 (set_mo5) tyX4 tyX4_ok nmX4 in_X4_set_X4 rfl (by decide) (X.ts (.fieldLink RX4 34 "LeadTimesModel" "thrown" "I") (by decide +kernel)) rfl rfl rfl rfl rfl (Nat.le_of_ble_eq_true rfl) dX4_set_2 ?_
  refine g_iload_n X dX4_set_5 rfl (lv_at hl 1 rfl) ?_
  refine g_iconst (v := 0) X dX4_set_6 (by decide) ?_
  refine g_iconst (v := 1) X dX4_set_7 (by decide) ?_
  obtain ⟨r8, hr8, hF⟩ := obind hF
  refine k_Sz X (As := [.int a1, .int (0 : Int32), .int (1 : Int32)]) (rest := []) (c_X4_in hI hr8) (va_cwS 3 X.ts gX4_set_X4_in rfl rfl rfl (by decide +kernel) ⟨Nat.le_of_ble_eq_true rfl, Nat.le_of_ble_eq_true rfl⟩) rfl hl.1 rfl (Nat.le_of_ble_eq_true rfl) dX4_set_8 (fun hz8 => ?_)
  refine g_if_ne (tgt := 20) X dX4_set_11 (by decide) (fun hc11 => ?_) (fun hc11 => ?_)
  · have hF := ite_t hF hc11
    refine g_iload_n X dX4_set_20 rfl (lv_at hl 2 rfl) ?_
    refine g_iload_n X dX4_set_21 rfl (lv_at hl 1 rfl) ?_
    refine g_iload_n X dX4_set_22 rfl (lv_at hl 1 rfl) ?_
    obtain ⟨v23, hR23, hF⟩ := obind hF
    refine g_cut (nM := 4) [(0, .ref (ad 0)), (1, .int a1), (2, .int a2)] ((up2 σ.1 0 5 (0 : Int32), σ.2)) 33 [.int v23, .int a1, .int a2] (fun ls hl => ?_) (fun J23 => ?_)
    · obtain ⟨r33, hr33, hF⟩ := obind hF
      refine k_Sz X (As := [.int a2, .int a1, .int v23]) (rest := []) (c_X4_in hI hr33) (va_cwS 3 X.ts gX4_set_X4_in rfl rfl rfl (by decide +kernel) ⟨Nat.le_of_ble_eq_true rfl, Nat.le_of_ble_eq_true rfl⟩) rfl hl.1 rfl (Nat.le_of_ble_eq_true rfl) dX4_set_33 (fun hz33 => ?_)
      refine g_if_ne (tgt := 45) X dX4_set_36 (by decide) (fun hc36 => ?_) (fun hc36 => ?_)
      · have hF := ite_t hF hc36
        refine g_aload_n X dX4_set_45 rfl (lv_at hl 0 rfl) ?_
        obtain ⟨r46, hr46, hF⟩ := obind hF
        refine k_Vv X (As := []) (rest := []) (c_X4_save hI hr46) (cwV 0 X.ts gX4_set_X4_save rfl rfl rfl (by decide +kernel) ⟨Nat.le_of_ble_eq_true rfl, Nat.le_of_ble_eq_true rfl⟩) ⟨0, 4, _, _, mo_obj, rfl, rfl⟩ rfl hl.1 rfl (Nat.le_of_ble_eq_true rfl) dX4_set_46 ?_
        refine g_aload_n X dX4_set_49 rfl (lv_at hl 0 rfl) ?_
        refine g_get X 0 (mo_obj) in_X4_set_X4 rfl 0 (by decide) (X.ts (.fieldLink RX4 7 "LeadTimesModel" "z" "[I") (by decide +kernel)) rfl rfl dX4_set_50 ?_
        refine g_iconst (v := 1) X dX4_set_53 (by decide) ?_
        refine g_iload_n X dX4_set_54 rfl (lv_at hl 1 rfl) ?_
        refine g_iadd X dX4_set_55 ?_
        obtain ⟨h56, hF⟩ := itn hF
        refine g_iald X 1 (j := ((1 : Int32) + a1).toNatClampNeg) (mo_arr1) (by first | rfl | decide) (inb_in h56) dX4_set_56 ?_
        refine g_istore_n (lv' := [(3, _), (0, _), (1, _), (2, _)]) X dX4_set_57 rfl hl (by decide) rfl (fun ls hl => ?_)
        refine g_aload_n X dX4_set_58 rfl (lv_at hl 1 rfl) ?_
        refine g_get X 0 (mo_obj) in_X4_set_X4 rfl 0 (by decide) (X.ts (.fieldLink RX4 7 "LeadTimesModel" "z" "[I") (by decide +kernel)) rfl rfl dX4_set_59 ?_
        refine g_iconst (v := 1) X dX4_set_62 (by decide) ?_
        refine g_iload_n X dX4_set_63 rfl (lv_at hl 2 rfl) ?_
        refine g_iadd X dX4_set_64 ?_
        refine g_iload_n X dX4_set_65 rfl (lv_at hl 3 rfl) ?_
        obtain ⟨h66, hF⟩ := itn hF
        refine g_iast X (wM_D hI) ((up2 r46.1 1 (((1 : Int32) + a1).toNatClampNeg) a2, r46.2)) 1 (j := ((1 : Int32) + a1).toNatClampNeg) (mo_arr1) (by first | rfl | decide) (set_arrM (a := 0) (n := 84) (fun τ => mo_arr1)) (inb_in h66) dX4_set_66 ?_
        refine g_iload_n X dX4_set_67 rfl (lv_at hl 0 rfl) ?_
        exact g_iret X (pE_mk (some_inj hF)) dX4_set_68
      · have hF := ite_n hF hc36
        refine g_aload_n X dX4_set_39 rfl (lv_at hl 0 rfl) ?_
        refine g_iconst (v := 2) X dX4_set_40 (by decide) ?_
        obtain ⟨r41, hr41, hF⟩ := obind hF
        refine k_Vie X (As := [.int (2 : Int32)]) (rest := []) (c_X4_fails hI hr41) (cwV 1 X.ts gX4_set_X4_fails rfl rfl rfl (by decide +kernel) ⟨Nat.le_of_ble_eq_true rfl, Nat.le_of_ble_eq_true rfl⟩) ⟨0, 4, _, _, mo_obj, rfl, rfl⟩ rfl hl.1 rfl (Nat.le_of_ble_eq_true rfl) dX4_set_41 ?_
        exact g_iret X (pE_mk (some_inj hF)) dX4_set_44
    · refine g_if_ne (tgt := 30) X dX4_set_23 (by decide) (fun hc23 => ?_) (fun hc23 => ?_)
      · have hR23 := ite_t hR23 hc23
        refine g_sipush (v := 999) X dX4_set_30 (by decide) ?_
        have e23 := some_inj hR23
        subst e23
        exact J23 ls (lv_sub hl [0, 1, 2] rfl)
      · have hR23 := ite_n hR23 hc23
        refine g_iconst (v := 1) X dX4_set_26 (by decide) ?_
        refine g_goto (tgt := 33) X dX4_set_27 (by decide) ?_
        have e23 := some_inj hR23
        subst e23
        exact J23 ls (lv_sub hl [0, 1, 2] rfl)
  · have hF := ite_n hF hc11
    refine g_aload_n X dX4_set_14 rfl (lv_at hl 0 rfl) ?_
    refine g_iconst (v := 1) X dX4_set_15 (by decide) ?_
    obtain ⟨r16, hr16, hF⟩ := obind hF
    refine k_Vie X (As := [.int (1 : Int32)]) (rest := []) (c_X4_fails hI hr16) (cwV 1 X.ts gX4_set_X4_fails rfl rfl rfl (by decide +kernel) ⟨Nat.le_of_ble_eq_true rfl, Nat.le_of_ble_eq_true rfl⟩) ⟨0, 4, _, _, mo_obj, rfl, rfl⟩ rfl hl.1 rfl (Nat.le_of_ble_eq_true rfl) dX4_set_16 ?_
    exact g_iret X (pE_mk (some_inj hF)) dX4_set_19
theorem in_X4_append_X4 : ∀ w ∈ wsX40, w ∈ wsX4_append := by decide +kernel
def F_X4_append (a1 : Int32) (σ : (Mem × Int64)) : Option (Int32 × (Mem × Int64)) := Option.bind (F_X4_in a1 (33 : Int32) (126 : Int32)) (fun r10 => (if ¬ r10 = 0 then (if ¬ ((up2 σ.1 0 5 (0 : Int32)) 0 4) = (60 : Int32) then if inb ((up2 σ.1 0 5 (0 : Int32)) 0 4) 60 then (some ((up2 (up2 (up2 σ.1 0 5 (0 : Int32)) 3 (((up2 σ.1 0 5 (0 : Int32)) 0 4).toNatClampNeg) a1) 0 4 (((up2 (up2 σ.1 0 5 (0 : Int32)) 3 (((up2 σ.1 0 5 (0 : Int32)) 0 4).toNatClampNeg) a1) 0 4) + (1 : Int32))) 0 4, (up2 (up2 (up2 σ.1 0 5 (0 : Int32)) 3 (((up2 σ.1 0 5 (0 : Int32)) 0 4).toNatClampNeg) a1) 0 4 (((up2 (up2 σ.1 0 5 (0 : Int32)) 3 (((up2 σ.1 0 5 (0 : Int32)) 0 4).toNatClampNeg) a1) 0 4) + (1 : Int32)), σ.2))) else none else Option.bind (F_X4_fails (2 : Int32) (up2 σ.1 0 5 (0 : Int32), σ.2)) (fun r33 => some (r33.1, r33.2))) else Option.bind (F_X4_fails (1 : Int32) (up2 σ.1 0 5 (0 : Int32), σ.2)) (fun r18 => some (r18.1, r18.2))))
set_option maxHeartbeats 4000000 in
set_option maxRecDepth 100000 in
theorem c_X4_append {l : Launch} {D : va_G} {ay : Nat → ClassId} {ad : Nat → Nat} {a1 : Int32} {σ : (Mem × Int64)} {res : Int32 × (Mem × Int64)} (hI : amOK ad) (hF : F_X4_append a1 σ = some res) : Met l yX4_append wsX4_append ({ frames := 1, cells := 0, slots := 0, locals := 22 } : Room) (va_Pc [.ref (ad 0), .int a1] (PP D ay (wM ay ad σ))) (va_Qi (pE res) (fun τ => PP D ay (wM ay ad τ)) (AM ad)) 0 0 (AM ad) := by
  refine g_start (wd := wM ay ad) (A := AM ad) (own := RX4) (mL := 2) (rt := (some .int)) (by decide) rfl rfl (Nat.le_of_ble_eq_true rfl) ?_
  intro p e s m below meth c ls X hl
  have hl : lv_has ls 2 [(0, .ref (ad 0)), (1, .int a1)] := hl
  rw [F_X4_append] at hF
  refine g_aload_n X dX4_append_0 rfl (lv_at hl 0 rfl) ?_
  refine g_iconst (v := 0) X dX4_append_1 (by decide) ?_
  refine g_put X (wM_D hI) ((up2 σ.1 0 5 (0 : Int32), σ.2)) 0 (mo_obj) 5 (set_mo5) tyX4 tyX4_ok nmX4 in_X4_append_X4 rfl (by decide) (X.ts (.fieldLink RX4 34 "LeadTimesModel" "thrown" "I") (by decide +kernel)) rfl rfl rfl rfl rfl (Nat.le_of_ble_eq_true rfl) dX4_append_2 ?_
  refine g_iload_n X dX4_append_5 rfl (lv_at hl 1 rfl) ?_
  refine g_bipush (v := 33) X dX4_append_6 (by decide) ?_
  refine g_bipush (v := 126) X dX4_append_8 (by decide) ?_
  obtain ⟨r10, hr10, hF⟩ := obind hF
  refine k_Sz X (As := [.int a1, .int (33 : Int32), .int (126 : Int32)]) (rest := []) (c_X4_in hI hr10) (va_cwS 3 X.ts gX4_append_X4_in rfl rfl rfl (by decide +kernel) ⟨Nat.le_of_ble_eq_true rfl, Nat.le_of_ble_eq_true rfl⟩) rfl hl.1 rfl (Nat.le_of_ble_eq_true rfl) dX4_append_10 (fun hz10 => ?_)
  refine g_if_ne (tgt := 22) X dX4_append_13 (by decide) (fun hc13 => ?_) (fun hc13 => ?_)
  · have hF := ite_t hF hc13
    refine g_aload_n X dX4_append_22 rfl (lv_at hl 0 rfl) ?_
    refine g_get X 0 (mo_obj) in_X4_append_X4 rfl 4 (by decide) (X.ts (.fieldLink RX4 134 "LeadTimesModel" "bufferMany" "I") (by decide +kernel)) rfl rfl dX4_append_23 ?_
    refine g_bipush (v := 60) X dX4_append_26 (by decide) ?_
    refine g_icmp_ne (tgt := 37) X dX4_append_28 (by decide) (fun hc28 => ?_) (fun hc28 => ?_)
    · have hF := ite_t hF hc28
      refine g_aload_n X dX4_append_37 rfl (lv_at hl 0 rfl) ?_
      refine g_get X 0 (mo_obj) in_X4_append_X4 rfl 3 (by decide) (X.ts (.fieldLink RX4 16 "LeadTimesModel" "buffer" "[I") (by decide +kernel)) rfl rfl dX4_append_38 ?_
      refine g_aload_n X dX4_append_41 rfl (lv_at hl 0 rfl) ?_
      refine g_get X 0 (mo_obj) in_X4_append_X4 rfl 4 (by decide) (X.ts (.fieldLink RX4 134 "LeadTimesModel" "bufferMany" "I") (by decide +kernel)) rfl rfl dX4_append_42 ?_
      refine g_iload_n X dX4_append_45 rfl (lv_at hl 1 rfl) ?_
      obtain ⟨h46, hF⟩ := itn hF
      refine g_iast X (wM_D hI) ((up2 (up2 σ.1 0 5 (0 : Int32)) 3 (((up2 σ.1 0 5 (0 : Int32)) 0 4).toNatClampNeg) a1, σ.2)) 3 (j := ((up2 σ.1 0 5 (0 : Int32)) 0 4).toNatClampNeg) (mo_arr3) (by first | rfl | decide) (set_arrM (a := 0) (n := 60) (fun τ => mo_arr3)) (inb_in h46) dX4_append_46 ?_
      refine g_aload_n X dX4_append_47 rfl (lv_at hl 0 rfl) ?_
      refine g_dup X dX4_append_48 rfl ?_
      refine g_get X 0 (mo_obj) in_X4_append_X4 rfl 4 (by decide) (X.ts (.fieldLink RX4 134 "LeadTimesModel" "bufferMany" "I") (by decide +kernel)) rfl rfl dX4_append_49 ?_
      refine g_iconst (v := 1) X dX4_append_52 (by decide) ?_
      refine g_iadd X dX4_append_53 ?_
      refine g_put X (wM_D hI) ((up2 (up2 (up2 σ.1 0 5 (0 : Int32)) 3 (((up2 σ.1 0 5 (0 : Int32)) 0 4).toNatClampNeg) a1) 0 4 (((up2 (up2 σ.1 0 5 (0 : Int32)) 3 (((up2 σ.1 0 5 (0 : Int32)) 0 4).toNatClampNeg) a1) 0 4) + (1 : Int32)), σ.2)) 0 (mo_obj) 4 (set_mo4) tyX4 tyX4_ok nmX4 in_X4_append_X4 rfl (by decide) (X.ts (.fieldLink RX4 134 "LeadTimesModel" "bufferMany" "I") (by decide +kernel)) rfl rfl rfl rfl rfl (Nat.le_of_ble_eq_true rfl) dX4_append_54 ?_
      refine g_aload_n X dX4_append_57 rfl (lv_at hl 0 rfl) ?_
      refine g_get X 0 (mo_obj) in_X4_append_X4 rfl 4 (by decide) (X.ts (.fieldLink RX4 134 "LeadTimesModel" "bufferMany" "I") (by decide +kernel)) rfl rfl dX4_append_58 ?_
      exact g_iret X (pE_mk (some_inj hF)) dX4_append_61
    · have hF := ite_n hF hc28
      refine g_aload_n X dX4_append_31 rfl (lv_at hl 0 rfl) ?_
      refine g_iconst (v := 2) X dX4_append_32 (by decide) ?_
      obtain ⟨r33, hr33, hF⟩ := obind hF
      refine k_Vie X (As := [.int (2 : Int32)]) (rest := []) (c_X4_fails hI hr33) (cwV 1 X.ts gX4_append_X4_fails rfl rfl rfl (by decide +kernel) ⟨Nat.le_of_ble_eq_true rfl, Nat.le_of_ble_eq_true rfl⟩) ⟨0, 4, _, _, mo_obj, rfl, rfl⟩ rfl hl.1 rfl (Nat.le_of_ble_eq_true rfl) dX4_append_33 ?_
      exact g_iret X (pE_mk (some_inj hF)) dX4_append_36
  · have hF := ite_n hF hc13
    refine g_aload_n X dX4_append_16 rfl (lv_at hl 0 rfl) ?_
    refine g_iconst (v := 1) X dX4_append_17 (by decide) ?_
    obtain ⟨r18, hr18, hF⟩ := obind hF
    refine k_Vie X (As := [.int (1 : Int32)]) (rest := []) (c_X4_fails hI hr18) (cwV 1 X.ts gX4_append_X4_fails rfl rfl rfl (by decide +kernel) ⟨Nat.le_of_ble_eq_true rfl, Nat.le_of_ble_eq_true rfl⟩) ⟨0, 4, _, _, mo_obj, rfl, rfl⟩ rfl hl.1 rfl (Nat.le_of_ble_eq_true rfl) dX4_append_18 ?_
    exact g_iret X (pE_mk (some_inj hF)) dX4_append_21
theorem in_X4_clearBuffer_X4 : ∀ w ∈ wsX40, w ∈ wsX4_clearBuffer := by decide +kernel
def F_X4_clearBuffer (σ : (Mem × Int64)) : Option (Int32 × (Mem × Int64)) := some ((up2 σ.1 0 5 (0 : Int32)) 0 4, (up2 (up2 σ.1 0 5 (0 : Int32)) 0 4 (0 : Int32), σ.2))
set_option maxHeartbeats 4000000 in
set_option maxRecDepth 100000 in
theorem c_X4_clearBuffer {l : Launch} {D : va_G} {ay : Nat → ClassId} {ad : Nat → Nat} {σ : (Mem × Int64)} {res : Int32 × (Mem × Int64)} (hI : amOK ad) (hF : F_X4_clearBuffer  σ = some res) : Met l yX4_clearBuffer wsX4_clearBuffer ({ frames := 0, cells := 0, slots := 0, locals := 0 } : Room) (va_Pc [.ref (ad 0)] (PP D ay (wM ay ad σ))) (va_Qi (pE res) (fun τ => PP D ay (wM ay ad τ)) (AM ad)) 0 0 (AM ad) := by
  refine g_start (wd := wM ay ad) (A := AM ad) (own := RX4) (mL := 2) (rt := (some .int)) (by decide) rfl rfl (Nat.le_of_ble_eq_true rfl) ?_
  intro p e s m below meth c ls X hl
  have hl : lv_has ls 2 [(0, .ref (ad 0))] := hl
  rw [F_X4_clearBuffer] at hF
  refine g_aload_n X dX4_clearBuffer_0 rfl (lv_at hl 0 rfl) ?_
  refine g_iconst (v := 0) X dX4_clearBuffer_1 (by decide) ?_
  refine g_put X (wM_D hI) ((up2 σ.1 0 5 (0 : Int32), σ.2)) 0 (mo_obj) 5 (set_mo5) tyX4 tyX4_ok nmX4 in_X4_clearBuffer_X4 rfl (by decide) (X.ts (.fieldLink RX4 34 "LeadTimesModel" "thrown" "I") (by decide +kernel)) rfl rfl rfl rfl rfl (Nat.le_of_ble_eq_true rfl) dX4_clearBuffer_2 ?_
  refine g_aload_n X dX4_clearBuffer_5 rfl (lv_at hl 0 rfl) ?_
  refine g_get X 0 (mo_obj) in_X4_clearBuffer_X4 rfl 4 (by decide) (X.ts (.fieldLink RX4 134 "LeadTimesModel" "bufferMany" "I") (by decide +kernel)) rfl rfl dX4_clearBuffer_6 ?_
  refine g_istore_n (lv' := [(1, _), (0, _)]) X dX4_clearBuffer_9 rfl hl (by decide) rfl (fun ls hl => ?_)
  refine g_aload_n X dX4_clearBuffer_10 rfl (lv_at hl 1 rfl) ?_
  refine g_iconst (v := 0) X dX4_clearBuffer_11 (by decide) ?_
  refine g_put X (wM_D hI) ((up2 (up2 σ.1 0 5 (0 : Int32)) 0 4 (0 : Int32), σ.2)) 0 (mo_obj) 4 (set_mo4) tyX4 tyX4_ok nmX4 in_X4_clearBuffer_X4 rfl (by decide) (X.ts (.fieldLink RX4 134 "LeadTimesModel" "bufferMany" "I") (by decide +kernel)) rfl rfl rfl rfl rfl (Nat.le_of_ble_eq_true rfl) dX4_clearBuffer_12 ?_
  refine g_iload_n X dX4_clearBuffer_15 rfl (lv_at hl 0 rfl) ?_
  exact g_iret X (pE_mk (some_inj hF)) dX4_clearBuffer_16
theorem in_X4_next_X4 : ∀ w ∈ wsX40, w ∈ wsX4_next := by decide +kernel
def F_X4_next (σ : (Mem × Int64)) : Option Int32 := (if (σ.1 0 4) ≤ (σ.1 0 14) then some (0 : Int32) else if inb (σ.1 0 14) 60 then (some (σ.1 3 ((σ.1 0 14).toNatClampNeg))) else none)
set_option maxHeartbeats 4000000 in
set_option maxRecDepth 100000 in
theorem c_X4_next {l : Launch} {D : va_G} {ay : Nat → ClassId} {ad : Nat → Nat} {σ : (Mem × Int64)} {res : Int32} (hI : amOK ad) (hF : F_X4_next  σ = some res) : Met l yX4_next wsX4_next ({ frames := 0, cells := 0, slots := 0, locals := 0 } : Room) (va_Pc [.ref (ad 0)] (PP D ay (wM ay ad σ))) (va_Qi (pP res σ) (fun τ => PP D ay (wM ay ad τ)) (AM ad)) 0 0 (AM ad) := by
  refine g_start (wd := wM ay ad) (A := AM ad) (own := RX4) (mL := 1) (rt := (some .int)) (by decide) rfl rfl (Nat.le_of_ble_eq_true rfl) ?_
  intro p e s m below meth c ls X hl
  have hl : lv_has ls 1 [(0, .ref (ad 0))] := hl
  rw [F_X4_next] at hF
  refine g_aload_n X dX4_next_0 rfl (lv_at hl 0 rfl) ?_
  refine g_get X 0 (mo_obj) in_X4_next_X4 rfl 14 (by decide) (X.ts (.fieldLink RX4 137 "LeadTimesModel" "place" "I") (by decide +kernel)) rfl rfl dX4_next_1 ?_
  refine g_aload_n X dX4_next_4 rfl (lv_at hl 0 rfl) ?_
  refine g_get X 0 (mo_obj) in_X4_next_X4 rfl 4 (by decide) (X.ts (.fieldLink RX4 134 "LeadTimesModel" "bufferMany" "I") (by decide +kernel)) rfl rfl dX4_next_5 ?_
  refine g_icmp_ge (tgt := 23) X dX4_next_8 (by decide) (fun hc8 => ?_) (fun hc8 => ?_)
  · have hF := ite_t hF hc8
    refine g_iconst (v := 0) X dX4_next_23 (by decide) ?_
    exact g_iret X (pP_mk (some_inj hF)) dX4_next_24
  · have hF := ite_f hF hc8
    refine g_aload_n X dX4_next_11 rfl (lv_at hl 0 rfl) ?_
    refine g_get X 0 (mo_obj) in_X4_next_X4 rfl 3 (by decide) (X.ts (.fieldLink RX4 16 "LeadTimesModel" "buffer" "[I") (by decide +kernel)) rfl rfl dX4_next_12 ?_
    refine g_aload_n X dX4_next_15 rfl (lv_at hl 0 rfl) ?_
    refine g_get X 0 (mo_obj) in_X4_next_X4 rfl 14 (by decide) (X.ts (.fieldLink RX4 137 "LeadTimesModel" "place" "I") (by decide +kernel)) rfl rfl dX4_next_16 ?_
    obtain ⟨h19, hF⟩ := itn hF
    refine g_iald X 3 (j := (σ.1 0 14).toNatClampNeg) (mo_arr3) (by first | rfl | decide) (inb_in h19) dX4_next_19 ?_
    refine g_goto (tgt := 24) X dX4_next_20 (by decide) ?_
    exact g_iret X (pP_mk (some_inj hF)) dX4_next_24
theorem in_X4_takes_X4 : ∀ w ∈ wsX40, w ∈ wsX4_takes := by decide +kernel
def F_X4_takes (a1 : Int32) (σ : (Mem × Int64)) : Option (Int32 × (Mem × Int64)) := Option.bind (F_X4_next σ) (fun r1 => (Option.bind (if ¬ r1 = a1 then some (0 : Int32) else some (1 : Int32)) (fun v5 : Int32 => (Option.bind (if v5 = 0 then some (0 : Int32) else some (1 : Int32)) (fun v20 : Int32 => some (v5, (up2 σ.1 0 14 ((σ.1 0 14) + v20), σ.2)))))))
set_option maxHeartbeats 4000000 in
set_option maxRecDepth 100000 in
theorem c_X4_takes {l : Launch} {D : va_G} {ay : Nat → ClassId} {ad : Nat → Nat} {a1 : Int32} {σ : (Mem × Int64)} {res : Int32 × (Mem × Int64)} (hI : amOK ad) (hF : F_X4_takes a1 σ = some res) : Met l yX4_takes wsX4_takes ({ frames := 1, cells := 0, slots := 0, locals := 20 } : Room) (va_Pc [.ref (ad 0), .int a1] (PP D ay (wM ay ad σ))) (va_Qi (pF res) (fun τ => PP D ay (wM ay ad τ)) (AM ad)) 0 0 (AM ad) := by
  refine g_start (wd := wM ay ad) (A := AM ad) (own := RX4) (mL := 3) (rt := (some .boolean)) (by decide) rfl rfl (Nat.le_of_ble_eq_true rfl) ?_
  intro p e s m below meth c ls X hl
  have hl : lv_has ls 3 [(0, .ref (ad 0)), (1, .int a1)] := hl
  rw [F_X4_takes] at hF
  refine g_aload_n X dX4_takes_0 rfl (lv_at hl 0 rfl) ?_
  obtain ⟨r1, hr1, hF⟩ := obind hF
  refine k_Vi X (As := []) (rest := []) (c_X4_next hI hr1) (cwV 0 X.ts gX4_takes_X4_next rfl rfl rfl (by decide +kernel) ⟨Nat.le_of_ble_eq_true rfl, Nat.le_of_ble_eq_true rfl⟩) ⟨0, 4, _, _, mo_obj, rfl, rfl⟩ rfl hl.1 rfl (Nat.le_of_ble_eq_true rfl) dX4_takes_1 ?_
  refine g_iload_n X dX4_takes_4 rfl (lv_at hl 1 rfl) ?_
  obtain ⟨v5, hR5, hF⟩ := obind hF
  refine g_cut (nM := 3) [(0, .ref (ad 0))] (σ) 13 [.int v5] (fun ls hl => ?_) (fun J5 => ?_)
  · refine g_istore_n (lv' := [(2, _), (0, _)]) X dX4_takes_13 rfl hl (by decide) rfl (fun ls hl => ?_)
    refine g_aload_n X dX4_takes_14 rfl (lv_at hl 1 rfl) ?_
    refine g_dup X dX4_takes_15 rfl ?_
    refine g_get X 0 (mo_obj) in_X4_takes_X4 rfl 14 (by decide) (X.ts (.fieldLink RX4 137 "LeadTimesModel" "place" "I") (by decide +kernel)) rfl rfl dX4_takes_16 ?_
    refine g_iload_n X dX4_takes_19 rfl (lv_at hl 0 rfl) ?_
    obtain ⟨v20, hR20, hF⟩ := obind hF
    refine g_cut (nM := 3) [(2, .int v5)] (σ) 28 [.int v20, .int (σ.1 0 14), .ref (ad 0)] (fun ls hl => ?_) (fun J20 => ?_)
    · refine g_iadd X dX4_takes_28 ?_
      refine g_put X (wM_D hI) ((up2 σ.1 0 14 ((σ.1 0 14) + v20), σ.2)) 0 (mo_obj) 14 (set_mo14) tyX4 tyX4_ok nmX4 in_X4_takes_X4 rfl (by decide) (X.ts (.fieldLink RX4 137 "LeadTimesModel" "place" "I") (by decide +kernel)) rfl rfl rfl rfl rfl (Nat.le_of_ble_eq_true rfl) dX4_takes_29 ?_
      refine g_iload_n X dX4_takes_32 rfl (lv_at hl 0 rfl) ?_
      exact g_zret X (by revert hR5; repeat' split; all_goals (intro h; cases h; rfl)) (pF_mk (some_inj hF) (by revert hR5; repeat' split; all_goals (intro h; cases h; rfl))) dX4_takes_33
    · refine g_if_eq (tgt := 27) X dX4_takes_20 (by decide) (fun hc20 => ?_) (fun hc20 => ?_)
      · have hR20 := ite_t hR20 hc20
        refine g_iconst (v := 0) X dX4_takes_27 (by decide) ?_
        have e20 := some_inj hR20
        subst e20
        exact J20 ls (lv_sub hl [0] rfl)
      · have hR20 := ite_f hR20 hc20
        refine g_iconst (v := 1) X dX4_takes_23 (by decide) ?_
        refine g_goto (tgt := 28) X dX4_takes_24 (by decide) ?_
        have e20 := some_inj hR20
        subst e20
        exact J20 ls (lv_sub hl [0] rfl)
  · refine g_icmp_ne (tgt := 12) X dX4_takes_5 (by decide) (fun hc5 => ?_) (fun hc5 => ?_)
    · have hR5 := ite_t hR5 hc5
      refine g_iconst (v := 0) X dX4_takes_12 (by decide) ?_
      have e5 := some_inj hR5
      subst e5
      exact J5 ls (lv_sub hl [0] rfl)
    · have hR5 := ite_n hR5 hc5
      refine g_iconst (v := 1) X dX4_takes_8 (by decide) ?_
      refine g_goto (tgt := 13) X dX4_takes_9 (by decide) ?_
      have e5 := some_inj hR5
      subst e5
      exact J5 ls (lv_sub hl [0] rfl)
theorem in_X4_number_X4 : ∀ w ∈ wsX40, w ∈ wsX4_number := by decide +kernel
def L_X4_number_4 (a1 : Int32) : Nat → Int32 → Int32 → (Mem × Int64) → Option (Int32 × (Mem × Int64))
  | 0, _, _, _ => none
  | fu + 1, a2, a3, σ => (if a3 = 0 then some (a2, σ) else Option.bind (F_X4_next σ) (fun r9 => (Option.bind (if ¬ a2 = (-1 : Int32) then some (((10 : Int32) * a2) + (r9 - (48 : Int32))) else some (r9 - (48 : Int32))) (fun v19 : Int32 => Option.bind (F_X4_in (r9 - (48 : Int32)) (0 : Int32) (9 : Int32)) (fun r41 => (Option.bind (if r41 = 0 then some (0 : Int32) else (if a2 = 0 then some (0 : Int32) else Option.bind (F_X4_in v19 (0 : Int32) a1) (fun r55 => (if r55 = 0 then some (0 : Int32) else some (1 : Int32))))) (fun v44 : Int32 => (Option.bind (if v44 = 0 then some a2 else some v19) (fun v68 : Int32 => (Option.bind (if v44 = 0 then some (0 : Int32) else some (1 : Int32)) (fun v84 : Int32 => L_X4_number_4 a1 fu v68 v44 (up2 σ.1 0 14 ((σ.1 0 14) + v84), σ.2))))))))))))
set_option maxHeartbeats 4000000 in
set_option maxRecDepth 100000 in
theorem w_X4_number_4 {D : va_G} {ay : Nat → ClassId} {ad : Nat → Nat} {p : Program} {l : Launch} {e : Env} {s : State} {m : MethodId} {args : Array Value} {below : List Frame} {meth : Method} {c : Code} {Q : State → Prop} {a1 : Int32} {res : Int32 × (Mem × Int64)} (X : CX D ay p s m args meth c cX4_number 6 RX4 (some .int) wsX4_number) (hI : amOK ad) (K : ∀ ls : Array Slot, lv_has ls 6 [(2, .int res.1)] → GW D (wM ay ad) (AM ad) p l e ({ frames := 1, cells := 0, slots := 0, locals := 22 } : Room) s m args below meth c Q res.2 (F0 m 99 ls [])) : ∀ (fu : Nat) (a2 : Int32) (a3 : Int32) (σ : (Mem × Int64)), L_X4_number_4 a1 fu a2 a3 σ = some res → ∀ ls : Array Slot, lv_has ls 6 [(0, .ref (ad 0)), (1, .int a1), (2, .int a2), (3, .int a3)] → GW D (wM ay ad) (AM ad) p l e ({ frames := 1, cells := 0, slots := 0, locals := 22 } : Room) s m args below meth c Q σ (F0 m 4 ls []) := by
  intro fu
  induction fu with
  | zero =>
    intro a2 a3 σ hF ls hl
    rw [L_X4_number_4] at hF
    cases hF
  | succ fu ih =>
    intro a2 a3 σ hF ls hl
    rw [L_X4_number_4] at hF
    refine g_iload_n X dX4_number_4 rfl (lv_at hl 3 rfl) ?_
    refine g_if_eq (tgt := 99) X dX4_number_5 (by decide) (fun hc5 => ?_) (fun hc5 => ?_)
    · have hF := ite_t hF hc5
      have e4 := some_inj hF
      subst e4
      exact K ls (lv_sub hl [2] rfl)
    · have hF := ite_f hF hc5
      refine g_aload_n X dX4_number_8 rfl (lv_at hl 0 rfl) ?_
      obtain ⟨r9, hr9, hF⟩ := obind hF
      refine k_Vi X (As := []) (rest := []) (c_X4_next hI hr9) (cwV 0 X.ts gX4_number_X4_next rfl rfl rfl (by decide +kernel) ⟨Nat.le_of_ble_eq_true rfl, Nat.le_of_ble_eq_true rfl⟩) ⟨0, 4, _, _, mo_obj, rfl, rfl⟩ rfl hl.1 rfl (Nat.le_of_ble_eq_true rfl) dX4_number_9 ?_
      refine g_bipush (v := 48) X dX4_number_12 (by decide) ?_
      refine g_isub X dX4_number_14 ?_
      refine g_istore (lv' := [(4, _), (0, _), (1, _), (2, _), (3, _)]) X dX4_number_15 hl (by decide) rfl (fun ls hl => ?_)
      refine g_iload_n X dX4_number_17 rfl (lv_at hl 3 rfl) ?_
      refine g_iconst (v := -1) X dX4_number_18 (by decide) ?_
      obtain ⟨v19, hR19, hF⟩ := obind hF
      refine g_cut (nM := 6) [(0, .ref (ad 0)), (1, .int a1), (2, .int a2), (4, .int (r9 - (48 : Int32)))] (σ) 34 [.int v19] (fun ls hl => ?_) (fun J19 => ?_)
      · refine g_istore (lv' := [(5, _), (0, _), (1, _), (2, _), (4, _)]) X dX4_number_34 hl (by decide) rfl (fun ls hl => ?_)
        refine g_iload X dX4_number_36 (lv_at hl 4 rfl) ?_
        refine g_iconst (v := 0) X dX4_number_38 (by decide) ?_
        refine g_bipush (v := 9) X dX4_number_39 (by decide) ?_
        obtain ⟨r41, hr41, hF⟩ := obind hF
        refine k_Sz X (As := [.int (r9 - (48 : Int32)), .int (0 : Int32), .int (9 : Int32)]) (rest := []) (c_X4_in hI hr41) (va_cwS 3 X.ts gX4_number_X4_in rfl rfl rfl (by decide +kernel) ⟨Nat.le_of_ble_eq_true rfl, Nat.le_of_ble_eq_true rfl⟩) rfl hl.1 rfl (Nat.le_of_ble_eq_true rfl) dX4_number_41 (fun hz41 => ?_)
        obtain ⟨v44, hR44, hF⟩ := obind hF
        refine g_cut (nM := 6) [(0, .ref (ad 0)), (1, .int a1), (2, .int a2), (5, .int v19)] (σ) 66 [.int v44] (fun ls hl => ?_) (fun J44 => ?_)
        · refine g_istore_n (lv' := [(3, _), (0, _), (1, _), (2, _), (5, _)]) X dX4_number_66 rfl hl (by decide) rfl (fun ls hl => ?_)
          refine g_iload_n X dX4_number_67 rfl (lv_at hl 0 rfl) ?_
          obtain ⟨v68, hR68, hF⟩ := obind hF
          refine g_cut (nM := 6) [(0, .ref (ad 0)), (1, .int a1), (3, .int v44)] (σ) 77 [.int v68] (fun ls hl => ?_) (fun J68 => ?_)
          · refine g_istore_n (lv' := [(2, _), (0, _), (1, _), (3, _)]) X dX4_number_77 rfl hl (by decide) rfl (fun ls hl => ?_)
            refine g_aload_n X dX4_number_78 rfl (lv_at hl 1 rfl) ?_
            refine g_dup X dX4_number_79 rfl ?_
            refine g_get X 0 (mo_obj) in_X4_number_X4 rfl 14 (by decide) (X.ts (.fieldLink RX4 137 "LeadTimesModel" "place" "I") (by decide +kernel)) rfl rfl dX4_number_80 ?_
            refine g_iload_n X dX4_number_83 rfl (lv_at hl 3 rfl) ?_
            obtain ⟨v84, hR84, hF⟩ := obind hF
            refine g_cut (nM := 6) [(0, .ref (ad 0)), (1, .int a1), (2, .int v68), (3, .int v44)] (σ) 92 [.int v84, .int (σ.1 0 14), .ref (ad 0)] (fun ls hl => ?_) (fun J84 => ?_)
            · refine g_iadd X dX4_number_92 ?_
              refine g_put X (wM_D hI) ((up2 σ.1 0 14 ((σ.1 0 14) + v84), σ.2)) 0 (mo_obj) 14 (set_mo14) tyX4 tyX4_ok nmX4 in_X4_number_X4 rfl (by decide) (X.ts (.fieldLink RX4 137 "LeadTimesModel" "place" "I") (by decide +kernel)) rfl rfl rfl rfl rfl (Nat.le_of_ble_eq_true rfl) dX4_number_93 ?_
              refine g_goto (tgt := 4) X dX4_number_96 (by decide) ?_
              exact ih v68 v44 (up2 σ.1 0 14 ((σ.1 0 14) + v84), σ.2) hF ls (lv_sub hl [0, 1, 2, 3] rfl)
            · refine g_if_eq (tgt := 91) X dX4_number_84 (by decide) (fun hc84 => ?_) (fun hc84 => ?_)
              · have hR84 := ite_t hR84 hc84
                refine g_iconst (v := 0) X dX4_number_91 (by decide) ?_
                have e84 := some_inj hR84
                subst e84
                exact J84 ls (lv_sub hl [1, 2, 0, 3] rfl)
              · have hR84 := ite_f hR84 hc84
                refine g_iconst (v := 1) X dX4_number_87 (by decide) ?_
                refine g_goto (tgt := 92) X dX4_number_88 (by decide) ?_
                have e84 := some_inj hR84
                subst e84
                exact J84 ls (lv_sub hl [1, 2, 0, 3] rfl)
          · refine g_if_eq (tgt := 76) X dX4_number_68 (by decide) (fun hc68 => ?_) (fun hc68 => ?_)
            · have hR68 := ite_t hR68 hc68
              refine g_iload_n X dX4_number_76 rfl (lv_at hl 3 rfl) ?_
              have e68 := some_inj hR68
              subst e68
              exact J68 ls (lv_sub hl [1, 2, 0] rfl)
            · have hR68 := ite_f hR68 hc68
              refine g_iload X dX4_number_71 (lv_at hl 4 rfl) ?_
              refine g_goto (tgt := 77) X dX4_number_73 (by decide) ?_
              have e68 := some_inj hR68
              subst e68
              exact J68 ls (lv_sub hl [1, 2, 0] rfl)
        · refine g_if_eq (tgt := 65) X dX4_number_44 (by decide) (fun hc44 => ?_) (fun hc44 => ?_)
          · have hR44 := ite_t hR44 hc44
            refine g_iconst (v := 0) X dX4_number_65 (by decide) ?_
            have e44 := some_inj hR44
            subst e44
            exact J44 ls (lv_sub hl [1, 2, 3, 0] rfl)
          · have hR44 := ite_f hR44 hc44
            refine g_iload_n X dX4_number_47 rfl (lv_at hl 3 rfl) ?_
            refine g_if_eq (tgt := 65) X dX4_number_48 (by decide) (fun hc48 => ?_) (fun hc48 => ?_)
            · have hR44 := ite_t hR44 hc48
              refine g_iconst (v := 0) X dX4_number_65 (by decide) ?_
              have e44 := some_inj hR44
              subst e44
              exact J44 ls (lv_sub hl [1, 2, 3, 0] rfl)
            · have hR44 := ite_f hR44 hc48
              refine g_iload X dX4_number_51 (lv_at hl 0 rfl) ?_
              refine g_iconst (v := 0) X dX4_number_53 (by decide) ?_
              refine g_iload_n X dX4_number_54 rfl (lv_at hl 2 rfl) ?_
              obtain ⟨r55, hr55, hR44⟩ := obind hR44
              refine k_Sz X (As := [.int v19, .int (0 : Int32), .int a1]) (rest := []) (c_X4_in hI hr55) (va_cwS 3 X.ts gX4_number_X4_in rfl rfl rfl (by decide +kernel) ⟨Nat.le_of_ble_eq_true rfl, Nat.le_of_ble_eq_true rfl⟩) rfl hl.1 rfl (Nat.le_of_ble_eq_true rfl) dX4_number_55 (fun hz55 => ?_)
              refine g_if_eq (tgt := 65) X dX4_number_58 (by decide) (fun hc58 => ?_) (fun hc58 => ?_)
              · have hR44 := ite_t hR44 hc58
                refine g_iconst (v := 0) X dX4_number_65 (by decide) ?_
                have e44 := some_inj hR44
                subst e44
                exact J44 ls (lv_sub hl [1, 2, 3, 0] rfl)
              · have hR44 := ite_f hR44 hc58
                refine g_iconst (v := 1) X dX4_number_61 (by decide) ?_
                refine g_goto (tgt := 66) X dX4_number_62 (by decide) ?_
                have e44 := some_inj hR44
                subst e44
                exact J44 ls (lv_sub hl [1, 2, 3, 0] rfl)
      · refine g_icmp_ne (tgt := 27) X dX4_number_19 (by decide) (fun hc19 => ?_) (fun hc19 => ?_)
        · have hR19 := ite_t hR19 hc19
          refine g_bipush (v := 10) X dX4_number_27 (by decide) ?_
          refine g_iload_n X dX4_number_29 rfl (lv_at hl 3 rfl) ?_
          refine g_imul X dX4_number_30 ?_
          refine g_iload X dX4_number_31 (lv_at hl 0 rfl) ?_
          refine g_iadd X dX4_number_33 ?_
          have e19 := some_inj hR19
          subst e19
          exact J19 ls (lv_sub hl [1, 2, 3, 0] rfl)
        · have hR19 := ite_n hR19 hc19
          refine g_iload X dX4_number_22 (lv_at hl 0 rfl) ?_
          refine g_goto (tgt := 34) X dX4_number_24 (by decide) ?_
          have e19 := some_inj hR19
          subst e19
          exact J19 ls (lv_sub hl [1, 2, 3, 0] rfl)
def F_X4_number (a1 : Int32) (σ : (Mem × Int64)) : Option (Int32 × (Mem × Int64)) := Option.bind (L_X4_number_4 a1 FU (-1 : Int32) (1 : Int32) σ) (fun v4 : Int32 × (Mem × Int64) => some (v4.1, v4.2))
set_option maxHeartbeats 4000000 in
set_option maxRecDepth 100000 in
theorem c_X4_number {l : Launch} {D : va_G} {ay : Nat → ClassId} {ad : Nat → Nat} {a1 : Int32} {σ : (Mem × Int64)} {res : Int32 × (Mem × Int64)} (hI : amOK ad) (hF : F_X4_number a1 σ = some res) : Met l yX4_number wsX4_number ({ frames := 1, cells := 0, slots := 0, locals := 22 } : Room) (va_Pc [.ref (ad 0), .int a1] (PP D ay (wM ay ad σ))) (va_Qi (pE res) (fun τ => PP D ay (wM ay ad τ)) (AM ad)) 0 0 (AM ad) := by
  refine g_start (wd := wM ay ad) (A := AM ad) (own := RX4) (mL := 6) (rt := (some .int)) (by decide) rfl rfl (Nat.le_of_ble_eq_true rfl) ?_
  intro p e s m below meth c ls X hl
  have hl : lv_has ls 6 [(0, .ref (ad 0)), (1, .int a1)] := hl
  rw [F_X4_number] at hF
  refine g_iconst (v := -1) X dX4_number_0 (by decide) ?_
  refine g_istore_n (lv' := [(2, _), (0, _), (1, _)]) X dX4_number_1 rfl hl (by decide) rfl (fun ls hl => ?_)
  refine g_iconst (v := 1) X dX4_number_2 (by decide) ?_
  refine g_istore_n (lv' := [(3, _), (2, _), (0, _), (1, _)]) X dX4_number_3 rfl hl (by decide) rfl (fun ls hl => ?_)
  obtain ⟨v4, hL4, hF⟩ := obind hF
  refine w_X4_number_4 X hI (fun ls hl => ?_) FU (-1 : Int32) (1 : Int32) σ hL4 ls (lv_sub hl [2, 3, 1, 0] rfl)
  refine g_iload_n X dX4_number_99 rfl (lv_at hl 0 rfl) ?_
  exact g_iret X (pE_mk (some_inj hF)) dX4_number_100
theorem in_X4_isOne_X4 : ∀ w ∈ wsX40, w ∈ wsX4_isOne := by decide +kernel
def F_X4_isOne (σ : (Mem × Int64)) : Option (Int32 × (Mem × Int64)) := Option.bind (F_X4_takes (45 : Int32) (up2 σ.1 0 15 ((σ.1 0 15) + (1 : Int32)), σ.2)) (fun r20 => Option.bind (F_X4_number (9999 : Int32) r20.2) (fun r28 => (Option.bind (if r20.1 = 0 then some r28.1 else some (-r28.1)) (fun v38 : Int32 => if inb ((2 : Int32) * (σ.1 0 15)) 44 then ((if ¬ r28.1 = (-1 : Int32) then Option.bind (F_X4_takes (45 : Int32) (up2 r28.2.1 5 (((2 : Int32) * (σ.1 0 15)).toNatClampNeg) v38, r28.2.2)) (fun r58 => (if ¬ r58.1 = 0 then Option.bind (F_X4_number (99 : Int32) r58.2) (fun r82 => (Option.bind (if r58.1 = 0 then some r82.1 else some (-r82.1)) (fun v96 : Int32 => if inb (((2 : Int32) * (σ.1 0 15)) + (1 : Int32)) 44 then ((if r82.1 = (-1 : Int32) then some ((0 : Int32), (up2 r82.2.1 5 ((((2 : Int32) * (σ.1 0 15)) + (1 : Int32)).toNatClampNeg) v96, r82.2.2)) else some ((1 : Int32), (up2 r82.2.1 5 ((((2 : Int32) * (σ.1 0 15)) + (1 : Int32)).toNatClampNeg) v96, r82.2.2)))) else none))) else Option.bind (F_X4_takes (43 : Int32) r58.2) (fun r71 => (if ¬ r71.1 = 0 then Option.bind (F_X4_number (99 : Int32) r71.2) (fun r82 => (Option.bind (if r58.1 = 0 then some r82.1 else some (-r82.1)) (fun v96 : Int32 => if inb (((2 : Int32) * (σ.1 0 15)) + (1 : Int32)) 44 then ((if r82.1 = (-1 : Int32) then some ((0 : Int32), (up2 r82.2.1 5 ((((2 : Int32) * (σ.1 0 15)) + (1 : Int32)).toNatClampNeg) v96, r82.2.2)) else some ((1 : Int32), (up2 r82.2.1 5 ((((2 : Int32) * (σ.1 0 15)) + (1 : Int32)).toNatClampNeg) v96, r82.2.2)))) else none))) else some ((0 : Int32), r71.2))))) else some ((0 : Int32), (up2 r28.2.1 5 (((2 : Int32) * (σ.1 0 15)).toNatClampNeg) v38, r28.2.2)))) else none))))
set_option maxHeartbeats 4000000 in
set_option maxRecDepth 100000 in
theorem c_X4_isOne {l : Launch} {D : va_G} {ay : Nat → ClassId} {ad : Nat → Nat} {σ : (Mem × Int64)} {res : Int32 × (Mem × Int64)} (hI : amOK ad) (hF : F_X4_isOne  σ = some res) : Met l yX4_isOne wsX4_isOne ({ frames := 2, cells := 0, slots := 0, locals := 47 } : Room) (va_Pc [.ref (ad 0)] (PP D ay (wM ay ad σ))) (va_Qi (pF res) (fun τ => PP D ay (wM ay ad τ)) (AM ad)) 0 0 (AM ad) := by
  refine g_start (wd := wM ay ad) (A := AM ad) (own := RX4) (mL := 6) (rt := (some .boolean)) (by decide) rfl rfl (Nat.le_of_ble_eq_true rfl) ?_
  intro p e s m below meth c ls X hl
  have hl : lv_has ls 6 [(0, .ref (ad 0))] := hl
  rw [F_X4_isOne] at hF
  refine g_iconst (v := 2) X dX4_isOne_0 (by decide) ?_
  refine g_aload_n X dX4_isOne_1 rfl (lv_at hl 0 rfl) ?_
  refine g_get X 0 (mo_obj) in_X4_isOne_X4 rfl 15 (by decide) (X.ts (.fieldLink RX4 143 "LeadTimesModel" "told" "I") (by decide +kernel)) rfl rfl dX4_isOne_2 ?_
  refine g_imul X dX4_isOne_5 ?_
  refine g_istore_n (lv' := [(1, _), (0, _)]) X dX4_isOne_6 rfl hl (by decide) rfl (fun ls hl => ?_)
  refine g_aload_n X dX4_isOne_7 rfl (lv_at hl 1 rfl) ?_
  refine g_dup X dX4_isOne_8 rfl ?_
  refine g_get X 0 (mo_obj) in_X4_isOne_X4 rfl 15 (by decide) (X.ts (.fieldLink RX4 143 "LeadTimesModel" "told" "I") (by decide +kernel)) rfl rfl dX4_isOne_9 ?_
  refine g_iconst (v := 1) X dX4_isOne_12 (by decide) ?_
  refine g_iadd X dX4_isOne_13 ?_
  refine g_put X (wM_D hI) ((up2 σ.1 0 15 ((σ.1 0 15) + (1 : Int32)), σ.2)) 0 (mo_obj) 15 (set_mo15) tyX4 tyX4_ok nmX4 in_X4_isOne_X4 rfl (by decide) (X.ts (.fieldLink RX4 143 "LeadTimesModel" "told" "I") (by decide +kernel)) rfl rfl rfl rfl rfl (Nat.le_of_ble_eq_true rfl) dX4_isOne_14 ?_
  refine g_aload_n X dX4_isOne_17 rfl (lv_at hl 1 rfl) ?_
  refine g_bipush (v := 45) X dX4_isOne_18 (by decide) ?_
  obtain ⟨r20, hr20, hF⟩ := obind hF
  refine k_Vze X (As := [.int (45 : Int32)]) (rest := []) (c_X4_takes hI hr20) (cwV 1 X.ts gX4_isOne_X4_takes rfl rfl rfl (by decide +kernel) ⟨Nat.le_of_ble_eq_true rfl, Nat.le_of_ble_eq_true rfl⟩) ⟨0, 4, _, _, mo_obj, rfl, rfl⟩ rfl hl.1 rfl (Nat.le_of_ble_eq_true rfl) dX4_isOne_20 (fun hz20 => ?_)
  refine g_istore_n (lv' := [(2, _), (1, _), (0, _)]) X dX4_isOne_23 rfl hl (by decide) rfl (fun ls hl => ?_)
  refine g_aload_n X dX4_isOne_24 rfl (lv_at hl 2 rfl) ?_
  refine g_sipush (v := 9999) X dX4_isOne_25 (by decide) ?_
  obtain ⟨r28, hr28, hF⟩ := obind hF
  refine k_Vie X (As := [.int (9999 : Int32)]) (rest := []) (c_X4_number hI hr28) (cwV 1 X.ts gX4_isOne_X4_number rfl rfl rfl (by decide +kernel) ⟨Nat.le_of_ble_eq_true rfl, Nat.le_of_ble_eq_true rfl⟩) ⟨0, 4, _, _, mo_obj, rfl, rfl⟩ rfl hl.1 rfl (Nat.le_of_ble_eq_true rfl) dX4_isOne_28 ?_
  refine g_istore_n (lv' := [(3, _), (2, _), (1, _), (0, _)]) X dX4_isOne_31 rfl hl (by decide) rfl (fun ls hl => ?_)
  refine g_aload_n X dX4_isOne_32 rfl (lv_at hl 3 rfl) ?_
  refine g_get X 0 (mo_obj) in_X4_isOne_X4 rfl 16 (by decide) (X.ts (.fieldLink RX4 22 "LeadTimesModel" "read" "[I") (by decide +kernel)) rfl rfl dX4_isOne_33 ?_
  refine g_iload_n X dX4_isOne_36 rfl (lv_at hl 2 rfl) ?_
  refine g_iload_n X dX4_isOne_37 rfl (lv_at hl 1 rfl) ?_
  obtain ⟨v38, hR38, hF⟩ := obind hF
  refine g_cut (nM := 6) [(0, .ref (ad 0)), (1, .int ((2 : Int32) * (σ.1 0 15))), (3, .int r28.1)] (r28.2) 47 [.int v38, .int ((2 : Int32) * (σ.1 0 15)), .ref (ad 5)] (fun ls hl => ?_) (fun J38 => ?_)
  · obtain ⟨h47, hF⟩ := itn hF
    refine g_iast X (wM_D hI) ((up2 r28.2.1 5 (((2 : Int32) * (σ.1 0 15)).toNatClampNeg) v38, r28.2.2)) 5 (j := ((2 : Int32) * (σ.1 0 15)).toNatClampNeg) (mo_arr5) (by first | rfl | decide) (set_arrM (a := 0) (n := 44) (fun τ => mo_arr5)) (inb_in h47) dX4_isOne_47 ?_
    refine g_iload_n X dX4_isOne_48 rfl (lv_at hl 2 rfl) ?_
    refine g_iconst (v := -1) X dX4_isOne_49 (by decide) ?_
    refine g_icmp_ne (tgt := 55) X dX4_isOne_50 (by decide) (fun hc50 => ?_) (fun hc50 => ?_)
    · have hF := ite_t hF hc50
      refine g_aload_n X dX4_isOne_55 rfl (lv_at hl 0 rfl) ?_
      refine g_bipush (v := 45) X dX4_isOne_56 (by decide) ?_
      obtain ⟨r58, hr58, hF⟩ := obind hF
      refine k_Vze X (As := [.int (45 : Int32)]) (rest := []) (c_X4_takes hI hr58) (cwV 1 X.ts gX4_isOne_X4_takes rfl rfl rfl (by decide +kernel) ⟨Nat.le_of_ble_eq_true rfl, Nat.le_of_ble_eq_true rfl⟩) ⟨0, 4, _, _, mo_obj, rfl, rfl⟩ rfl hl.1 rfl (Nat.le_of_ble_eq_true rfl) dX4_isOne_58 (fun hz58 => ?_)
      refine g_istore (lv' := [(4, _), (0, _), (1, _), (3, _)]) X dX4_isOne_61 hl (by decide) rfl (fun ls hl => ?_)
      refine g_iload X dX4_isOne_63 (lv_at hl 0 rfl) ?_
      refine g_if_ne (tgt := 79) X dX4_isOne_65 (by decide) (fun hc65 => ?_) (fun hc65 => ?_)
      · have hF := ite_t hF hc65
        refine g_aload_n X dX4_isOne_79 rfl (lv_at hl 1 rfl) ?_
        refine g_bipush (v := 99) X dX4_isOne_80 (by decide) ?_
        obtain ⟨r82, hr82, hF⟩ := obind hF
        refine k_Vie X (As := [.int (99 : Int32)]) (rest := []) (c_X4_number hI hr82) (cwV 1 X.ts gX4_isOne_X4_number rfl rfl rfl (by decide +kernel) ⟨Nat.le_of_ble_eq_true rfl, Nat.le_of_ble_eq_true rfl⟩) ⟨0, 4, _, _, mo_obj, rfl, rfl⟩ rfl hl.1 rfl (Nat.le_of_ble_eq_true rfl) dX4_isOne_82 ?_
        refine g_istore (lv' := [(5, _), (4, _), (0, _), (1, _), (3, _)]) X dX4_isOne_85 hl (by decide) rfl (fun ls hl => ?_)
        refine g_aload_n X dX4_isOne_87 rfl (lv_at hl 2 rfl) ?_
        refine g_get X 0 (mo_obj) in_X4_isOne_X4 rfl 16 (by decide) (X.ts (.fieldLink RX4 22 "LeadTimesModel" "read" "[I") (by decide +kernel)) rfl rfl dX4_isOne_88 ?_
        refine g_iload_n X dX4_isOne_91 rfl (lv_at hl 3 rfl) ?_
        refine g_iconst (v := 1) X dX4_isOne_92 (by decide) ?_
        refine g_iadd X dX4_isOne_93 ?_
        refine g_iload X dX4_isOne_94 (lv_at hl 1 rfl) ?_
        obtain ⟨v96, hR96, hF⟩ := obind hF
        refine g_cut (nM := 6) [(5, .int r82.1)] (r82.2) 107 [.int v96, .int (((2 : Int32) * (σ.1 0 15)) + (1 : Int32)), .ref (ad 5)] (fun ls hl => ?_) (fun J96 => ?_)
        · obtain ⟨h107, hF⟩ := itn hF
          refine g_iast X (wM_D hI) ((up2 r82.2.1 5 ((((2 : Int32) * (σ.1 0 15)) + (1 : Int32)).toNatClampNeg) v96, r82.2.2)) 5 (j := (((2 : Int32) * (σ.1 0 15)) + (1 : Int32)).toNatClampNeg) (mo_arr5) (by first | rfl | decide) (set_arrM (a := 0) (n := 44) (fun τ => mo_arr5)) (inb_in h107) dX4_isOne_107 ?_
          refine g_iload X dX4_isOne_108 (lv_at hl 0 rfl) ?_
          refine g_iconst (v := -1) X dX4_isOne_110 (by decide) ?_
          refine g_icmp_eq (tgt := 118) X dX4_isOne_111 (by decide) (fun hc111 => ?_) (fun hc111 => ?_)
          · have hF := ite_t hF hc111
            refine g_iconst (v := 0) X dX4_isOne_118 (by decide) ?_
            exact g_zret X rfl (pF_mk (some_inj hF) rfl) dX4_isOne_119
          · have hF := ite_f hF hc111
            refine g_iconst (v := 1) X dX4_isOne_114 (by decide) ?_
            refine g_goto (tgt := 119) X dX4_isOne_115 (by decide) ?_
            exact g_zret X rfl (pF_mk (some_inj hF) rfl) dX4_isOne_119
        · refine g_if_eq (tgt := 105) X dX4_isOne_96 (by decide) (fun hc96 => ?_) (fun hc96 => ?_)
          · have hR96 := ite_t hR96 hc96
            refine g_iload X dX4_isOne_105 (lv_at hl 0 rfl) ?_
            have e96 := some_inj hR96
            subst e96
            exact J96 ls (lv_sub hl [0] rfl)
          · have hR96 := ite_f hR96 hc96
            refine g_iload X dX4_isOne_99 (lv_at hl 0 rfl) ?_
            refine g_ineg X dX4_isOne_101 ?_
            refine g_goto (tgt := 107) X dX4_isOne_102 (by decide) ?_
            have e96 := some_inj hR96
            subst e96
            exact J96 ls (lv_sub hl [0] rfl)
      · have hF := ite_n hF hc65
        refine g_aload_n X dX4_isOne_68 rfl (lv_at hl 1 rfl) ?_
        refine g_bipush (v := 43) X dX4_isOne_69 (by decide) ?_
        obtain ⟨r71, hr71, hF⟩ := obind hF
        refine k_Vze X (As := [.int (43 : Int32)]) (rest := []) (c_X4_takes hI hr71) (cwV 1 X.ts gX4_isOne_X4_takes rfl rfl rfl (by decide +kernel) ⟨Nat.le_of_ble_eq_true rfl, Nat.le_of_ble_eq_true rfl⟩) ⟨0, 4, _, _, mo_obj, rfl, rfl⟩ rfl hl.1 rfl (Nat.le_of_ble_eq_true rfl) dX4_isOne_71 (fun hz71 => ?_)
        refine g_if_ne (tgt := 79) X dX4_isOne_74 (by decide) (fun hc74 => ?_) (fun hc74 => ?_)
        · have hF := ite_t hF hc74
          refine g_aload_n X dX4_isOne_79 rfl (lv_at hl 1 rfl) ?_
          refine g_bipush (v := 99) X dX4_isOne_80 (by decide) ?_
          obtain ⟨r82, hr82, hF⟩ := obind hF
          refine k_Vie X (As := [.int (99 : Int32)]) (rest := []) (c_X4_number hI hr82) (cwV 1 X.ts gX4_isOne_X4_number rfl rfl rfl (by decide +kernel) ⟨Nat.le_of_ble_eq_true rfl, Nat.le_of_ble_eq_true rfl⟩) ⟨0, 4, _, _, mo_obj, rfl, rfl⟩ rfl hl.1 rfl (Nat.le_of_ble_eq_true rfl) dX4_isOne_82 ?_
          refine g_istore (lv' := [(5, _), (4, _), (0, _), (1, _), (3, _)]) X dX4_isOne_85 hl (by decide) rfl (fun ls hl => ?_)
          refine g_aload_n X dX4_isOne_87 rfl (lv_at hl 2 rfl) ?_
          refine g_get X 0 (mo_obj) in_X4_isOne_X4 rfl 16 (by decide) (X.ts (.fieldLink RX4 22 "LeadTimesModel" "read" "[I") (by decide +kernel)) rfl rfl dX4_isOne_88 ?_
          refine g_iload_n X dX4_isOne_91 rfl (lv_at hl 3 rfl) ?_
          refine g_iconst (v := 1) X dX4_isOne_92 (by decide) ?_
          refine g_iadd X dX4_isOne_93 ?_
          refine g_iload X dX4_isOne_94 (lv_at hl 1 rfl) ?_
          obtain ⟨v96, hR96, hF⟩ := obind hF
          refine g_cut (nM := 6) [(5, .int r82.1)] (r82.2) 107 [.int v96, .int (((2 : Int32) * (σ.1 0 15)) + (1 : Int32)), .ref (ad 5)] (fun ls hl => ?_) (fun J96 => ?_)
          · obtain ⟨h107, hF⟩ := itn hF
            refine g_iast X (wM_D hI) ((up2 r82.2.1 5 ((((2 : Int32) * (σ.1 0 15)) + (1 : Int32)).toNatClampNeg) v96, r82.2.2)) 5 (j := (((2 : Int32) * (σ.1 0 15)) + (1 : Int32)).toNatClampNeg) (mo_arr5) (by first | rfl | decide) (set_arrM (a := 0) (n := 44) (fun τ => mo_arr5)) (inb_in h107) dX4_isOne_107 ?_
            refine g_iload X dX4_isOne_108 (lv_at hl 0 rfl) ?_
            refine g_iconst (v := -1) X dX4_isOne_110 (by decide) ?_
            refine g_icmp_eq (tgt := 118) X dX4_isOne_111 (by decide) (fun hc111 => ?_) (fun hc111 => ?_)
            · have hF := ite_t hF hc111
              refine g_iconst (v := 0) X dX4_isOne_118 (by decide) ?_
              exact g_zret X rfl (pF_mk (some_inj hF) rfl) dX4_isOne_119
            · have hF := ite_f hF hc111
              refine g_iconst (v := 1) X dX4_isOne_114 (by decide) ?_
              refine g_goto (tgt := 119) X dX4_isOne_115 (by decide) ?_
              exact g_zret X rfl (pF_mk (some_inj hF) rfl) dX4_isOne_119
          · refine g_if_eq (tgt := 105) X dX4_isOne_96 (by decide) (fun hc96 => ?_) (fun hc96 => ?_)
            · have hR96 := ite_t hR96 hc96
              refine g_iload X dX4_isOne_105 (lv_at hl 0 rfl) ?_
              have e96 := some_inj hR96
              subst e96
              exact J96 ls (lv_sub hl [0] rfl)
            · have hR96 := ite_f hR96 hc96
              refine g_iload X dX4_isOne_99 (lv_at hl 0 rfl) ?_
              refine g_ineg X dX4_isOne_101 ?_
              refine g_goto (tgt := 107) X dX4_isOne_102 (by decide) ?_
              have e96 := some_inj hR96
              subst e96
              exact J96 ls (lv_sub hl [0] rfl)
        · have hF := ite_n hF hc74
          refine g_iconst (v := 0) X dX4_isOne_77 (by decide) ?_
          exact g_zret X rfl (pF_mk (some_inj hF) rfl) dX4_isOne_78
    · have hF := ite_n hF hc50
      refine g_iconst (v := 0) X dX4_isOne_53 (by decide) ?_
      exact g_zret X rfl (pF_mk (some_inj hF) rfl) dX4_isOne_54
  · refine g_if_eq (tgt := 46) X dX4_isOne_38 (by decide) (fun hc38 => ?_) (fun hc38 => ?_)
    · have hR38 := ite_t hR38 hc38
      refine g_iload_n X dX4_isOne_46 rfl (lv_at hl 0 rfl) ?_
      have e38 := some_inj hR38
      subst e38
      exact J38 ls (lv_sub hl [3, 2, 0] rfl)
    · have hR38 := ite_f hR38 hc38
      refine g_iload_n X dX4_isOne_41 rfl (lv_at hl 0 rfl) ?_
      refine g_ineg X dX4_isOne_42 ?_
      refine g_goto (tgt := 47) X dX4_isOne_43 (by decide) ?_
      have e38 := some_inj hR38
      subst e38
      exact J38 ls (lv_sub hl [3, 2, 0] rfl)
theorem in_X4_isText_X4 : ∀ w ∈ wsX40, w ∈ wsX4_isText := by decide +kernel
def L_X4_isText_15 : Nat → Int32 → (Mem × Int64) → Option (Int32 × (Mem × Int64))
  | 0, _, _ => none
  | fu + 1, a1, σ => (if a1 = 0 then some (a1, σ) else Option.bind (F_X4_takes (59 : Int32) σ) (fun r22 => (if r22.1 = 0 then some (a1, r22.2) else Option.bind (F_X4_isOne r22.2) (fun r29 => L_X4_isText_15  fu r29.1 r29.2))))
set_option maxHeartbeats 4000000 in
set_option maxRecDepth 100000 in
theorem w_X4_isText_15 {D : va_G} {ay : Nat → ClassId} {ad : Nat → Nat} {p : Program} {l : Launch} {e : Env} {s : State} {m : MethodId} {args : Array Value} {below : List Frame} {meth : Method} {c : Code} {Q : State → Prop} {res : Int32 × (Mem × Int64)} (X : CX D ay p s m args meth c cX4_isText 2 RX4 (some .boolean) wsX4_isText) (hI : amOK ad) (K : ∀ ls : Array Slot, lv_has ls 2 [(0, .ref (ad 0)), (1, .int res.1)] → GW D (wM ay ad) (AM ad) p l e ({ frames := 3, cells := 0, slots := 0, locals := 72 } : Room) s m args below meth c Q res.2 (F0 m 36 ls [])) : ∀ (fu : Nat) (a1 : Int32) (σ : (Mem × Int64)), L_X4_isText_15  fu a1 σ = some res → ∀ ls : Array Slot, lv_has ls 2 [(0, .ref (ad 0)), (1, .int a1)] → GW D (wM ay ad) (AM ad) p l e ({ frames := 3, cells := 0, slots := 0, locals := 72 } : Room) s m args below meth c Q σ (F0 m 15 ls []) := by
  intro fu
  induction fu with
  | zero =>
    intro a1 σ hF ls hl
    rw [L_X4_isText_15] at hF
    cases hF
  | succ fu ih =>
    intro a1 σ hF ls hl
    rw [L_X4_isText_15] at hF
    refine g_iload_n X dX4_isText_15 rfl (lv_at hl 1 rfl) ?_
    refine g_if_eq (tgt := 36) X dX4_isText_16 (by decide) (fun hc16 => ?_) (fun hc16 => ?_)
    · have hF := ite_t hF hc16
      have e15 := some_inj hF
      subst e15
      exact K ls (lv_sub hl [0, 1] rfl)
    · have hF := ite_f hF hc16
      refine g_aload_n X dX4_isText_19 rfl (lv_at hl 0 rfl) ?_
      refine g_bipush (v := 59) X dX4_isText_20 (by decide) ?_
      obtain ⟨r22, hr22, hF⟩ := obind hF
      refine k_Vze X (As := [.int (59 : Int32)]) (rest := []) (c_X4_takes hI hr22) (cwV 1 X.ts gX4_isText_X4_takes rfl rfl rfl (by decide +kernel) ⟨Nat.le_of_ble_eq_true rfl, Nat.le_of_ble_eq_true rfl⟩) ⟨0, 4, _, _, mo_obj, rfl, rfl⟩ rfl hl.1 rfl (Nat.le_of_ble_eq_true rfl) dX4_isText_22 (fun hz22 => ?_)
      refine g_if_eq (tgt := 36) X dX4_isText_25 (by decide) (fun hc25 => ?_) (fun hc25 => ?_)
      · have hF := ite_t hF hc25
        have e15 := some_inj hF
        subst e15
        exact K ls (lv_sub hl [0, 1] rfl)
      · have hF := ite_f hF hc25
        refine g_aload_n X dX4_isText_28 rfl (lv_at hl 0 rfl) ?_
        obtain ⟨r29, hr29, hF⟩ := obind hF
        refine k_Vze X (As := []) (rest := []) (c_X4_isOne hI hr29) (cwV 0 X.ts gX4_isText_X4_isOne rfl rfl rfl (by decide +kernel) ⟨Nat.le_of_ble_eq_true rfl, Nat.le_of_ble_eq_true rfl⟩) ⟨0, 4, _, _, mo_obj, rfl, rfl⟩ rfl hl.1 rfl (Nat.le_of_ble_eq_true rfl) dX4_isText_29 (fun hz29 => ?_)
        refine g_istore_n (lv' := [(1, _), (0, _)]) X dX4_isText_32 rfl hl (by decide) rfl (fun ls hl => ?_)
        refine g_goto (tgt := 15) X dX4_isText_33 (by decide) ?_
        exact ih r29.1 r29.2 hF ls (lv_sub hl [1, 0] rfl)
def F_X4_isText (σ : (Mem × Int64)) : Option (Int32 × (Mem × Int64)) := Option.bind (F_X4_isOne (up2 (up2 σ.1 0 14 (0 : Int32)) 0 15 (0 : Int32), σ.2)) (fun r11 => Option.bind (L_X4_isText_15  FU r11.1 r11.2) (fun v15 : Int32 × (Mem × Int64) => (if v15.1 = 0 then some ((0 : Int32), v15.2) else (if ¬ (v15.2.1 0 14) = (v15.2.1 0 4) then some ((0 : Int32), v15.2) else some ((1 : Int32), v15.2)))))
set_option maxHeartbeats 4000000 in
set_option maxRecDepth 100000 in
theorem c_X4_isText {l : Launch} {D : va_G} {ay : Nat → ClassId} {ad : Nat → Nat} {σ : (Mem × Int64)} {res : Int32 × (Mem × Int64)} (hI : amOK ad) (hF : F_X4_isText  σ = some res) : Met l yX4_isText wsX4_isText ({ frames := 3, cells := 0, slots := 0, locals := 72 } : Room) (va_Pc [.ref (ad 0)] (PP D ay (wM ay ad σ))) (va_Qi (pF res) (fun τ => PP D ay (wM ay ad τ)) (AM ad)) 0 0 (AM ad) := by
  refine g_start (wd := wM ay ad) (A := AM ad) (own := RX4) (mL := 2) (rt := (some .boolean)) (by decide) rfl rfl (Nat.le_of_ble_eq_true rfl) ?_
  intro p e s m below meth c ls X hl
  have hl : lv_has ls 2 [(0, .ref (ad 0))] := hl
  rw [F_X4_isText] at hF
  refine g_aload_n X dX4_isText_0 rfl (lv_at hl 0 rfl) ?_
  refine g_iconst (v := 0) X dX4_isText_1 (by decide) ?_
  refine g_put X (wM_D hI) ((up2 σ.1 0 14 (0 : Int32), σ.2)) 0 (mo_obj) 14 (set_mo14) tyX4 tyX4_ok nmX4 in_X4_isText_X4 rfl (by decide) (X.ts (.fieldLink RX4 137 "LeadTimesModel" "place" "I") (by decide +kernel)) rfl rfl rfl rfl rfl (Nat.le_of_ble_eq_true rfl) dX4_isText_2 ?_
  refine g_aload_n X dX4_isText_5 rfl (lv_at hl 0 rfl) ?_
  refine g_iconst (v := 0) X dX4_isText_6 (by decide) ?_
  refine g_put X (wM_D hI) ((up2 (up2 σ.1 0 14 (0 : Int32)) 0 15 (0 : Int32), σ.2)) 0 (mo_obj) 15 (set_mo15) tyX4 tyX4_ok nmX4 in_X4_isText_X4 rfl (by decide) (X.ts (.fieldLink RX4 143 "LeadTimesModel" "told" "I") (by decide +kernel)) rfl rfl rfl rfl rfl (Nat.le_of_ble_eq_true rfl) dX4_isText_7 ?_
  refine g_aload_n X dX4_isText_10 rfl (lv_at hl 0 rfl) ?_
  obtain ⟨r11, hr11, hF⟩ := obind hF
  refine k_Vze X (As := []) (rest := []) (c_X4_isOne hI hr11) (cwV 0 X.ts gX4_isText_X4_isOne rfl rfl rfl (by decide +kernel) ⟨Nat.le_of_ble_eq_true rfl, Nat.le_of_ble_eq_true rfl⟩) ⟨0, 4, _, _, mo_obj, rfl, rfl⟩ rfl hl.1 rfl (Nat.le_of_ble_eq_true rfl) dX4_isText_11 (fun hz11 => ?_)
  refine g_istore_n (lv' := [(1, _), (0, _)]) X dX4_isText_14 rfl hl (by decide) rfl (fun ls hl => ?_)
  obtain ⟨v15, hL15, hF⟩ := obind hF
  refine w_X4_isText_15 X hI (fun ls hl => ?_) FU r11.1 r11.2 hL15 ls (lv_sub hl [1, 0] rfl)
  refine g_iload_n X dX4_isText_36 rfl (lv_at hl 1 rfl) ?_
  refine g_if_eq (tgt := 55) X dX4_isText_37 (by decide) (fun hc37 => ?_) (fun hc37 => ?_)
  · have hF := ite_t hF hc37
    refine g_iconst (v := 0) X dX4_isText_55 (by decide) ?_
    exact g_zret X rfl (pF_mk (some_inj hF) rfl) dX4_isText_56
  · have hF := ite_f hF hc37
    refine g_aload_n X dX4_isText_40 rfl (lv_at hl 0 rfl) ?_
    refine g_get X 0 (mo_obj) in_X4_isText_X4 rfl 14 (by decide) (X.ts (.fieldLink RX4 137 "LeadTimesModel" "place" "I") (by decide +kernel)) rfl rfl dX4_isText_41 ?_
    refine g_aload_n X dX4_isText_44 rfl (lv_at hl 0 rfl) ?_
    refine g_get X 0 (mo_obj) in_X4_isText_X4 rfl 4 (by decide) (X.ts (.fieldLink RX4 134 "LeadTimesModel" "bufferMany" "I") (by decide +kernel)) rfl rfl dX4_isText_45 ?_
    refine g_icmp_ne (tgt := 55) X dX4_isText_48 (by decide) (fun hc48 => ?_) (fun hc48 => ?_)
    · have hF := ite_t hF hc48
      refine g_iconst (v := 0) X dX4_isText_55 (by decide) ?_
      exact g_zret X rfl (pF_mk (some_inj hF) rfl) dX4_isText_56
    · have hF := ite_n hF hc48
      refine g_iconst (v := 1) X dX4_isText_51 (by decide) ?_
      refine g_goto (tgt := 56) X dX4_isText_52 (by decide) ?_
      exact g_zret X rfl (pF_mk (some_inj hF) rfl) dX4_isText_56
theorem in_X4_firstError_X4 : ∀ w ∈ wsX40, w ∈ wsX4_firstError := by decide +kernel
def F_X4_firstError (σ : (Mem × Int64)) : Option (Int32 × (Mem × Int64)) := Option.bind (F_X4_isText (up2 σ.1 0 5 (0 : Int32), σ.2)) (fun r6 => (if r6.1 = 0 then some (r6.2.1 0 14, r6.2) else some (r6.2.1 0 4, r6.2)))
set_option maxHeartbeats 4000000 in
set_option maxRecDepth 100000 in
theorem c_X4_firstError {l : Launch} {D : va_G} {ay : Nat → ClassId} {ad : Nat → Nat} {σ : (Mem × Int64)} {res : Int32 × (Mem × Int64)} (hI : amOK ad) (hF : F_X4_firstError  σ = some res) : Met l yX4_firstError wsX4_firstError ({ frames := 4, cells := 0, slots := 0, locals := 93 } : Room) (va_Pc [.ref (ad 0)] (PP D ay (wM ay ad σ))) (va_Qi (pE res) (fun τ => PP D ay (wM ay ad τ)) (AM ad)) 0 0 (AM ad) := by
  refine g_start (wd := wM ay ad) (A := AM ad) (own := RX4) (mL := 1) (rt := (some .int)) (by decide) rfl rfl (Nat.le_of_ble_eq_true rfl) ?_
  intro p e s m below meth c ls X hl
  have hl : lv_has ls 1 [(0, .ref (ad 0))] := hl
  rw [F_X4_firstError] at hF
  refine g_aload_n X dX4_firstError_0 rfl (lv_at hl 0 rfl) ?_
  refine g_iconst (v := 0) X dX4_firstError_1 (by decide) ?_
  refine g_put X (wM_D hI) ((up2 σ.1 0 5 (0 : Int32), σ.2)) 0 (mo_obj) 5 (set_mo5) tyX4 tyX4_ok nmX4 in_X4_firstError_X4 rfl (by decide) (X.ts (.fieldLink RX4 34 "LeadTimesModel" "thrown" "I") (by decide +kernel)) rfl rfl rfl rfl rfl (Nat.le_of_ble_eq_true rfl) dX4_firstError_2 ?_
  refine g_aload_n X dX4_firstError_5 rfl (lv_at hl 0 rfl) ?_
  obtain ⟨r6, hr6, hF⟩ := obind hF
  refine k_Vze X (As := []) (rest := []) (c_X4_isText hI hr6) (cwV 0 X.ts gX4_firstError_X4_isText rfl rfl rfl (by decide +kernel) ⟨Nat.le_of_ble_eq_true rfl, Nat.le_of_ble_eq_true rfl⟩) ⟨0, 4, _, _, mo_obj, rfl, rfl⟩ rfl hl.1 rfl (Nat.le_of_ble_eq_true rfl) dX4_firstError_6 (fun hz6 => ?_)
  refine g_if_eq (tgt := 19) X dX4_firstError_9 (by decide) (fun hc9 => ?_) (fun hc9 => ?_)
  · have hF := ite_t hF hc9
    refine g_aload_n X dX4_firstError_19 rfl (lv_at hl 0 rfl) ?_
    refine g_get X 0 (mo_obj) in_X4_firstError_X4 rfl 14 (by decide) (X.ts (.fieldLink RX4 137 "LeadTimesModel" "place" "I") (by decide +kernel)) rfl rfl dX4_firstError_20 ?_
    exact g_iret X (pE_mk (some_inj hF)) dX4_firstError_23
  · have hF := ite_f hF hc9
    refine g_aload_n X dX4_firstError_12 rfl (lv_at hl 0 rfl) ?_
    refine g_get X 0 (mo_obj) in_X4_firstError_X4 rfl 4 (by decide) (X.ts (.fieldLink RX4 134 "LeadTimesModel" "bufferMany" "I") (by decide +kernel)) rfl rfl dX4_firstError_13 ?_
    refine g_goto (tgt := 23) X dX4_firstError_16 (by decide) ?_
    exact g_iret X (pE_mk (some_inj hF)) dX4_firstError_23
theorem in_X4_addAll_X4 : ∀ w ∈ wsX40, w ∈ wsX4_addAll := by decide +kernel
def L_X4_addAll_44 : Nat → Int32 → (Mem × Int64) → Option (Mem × Int64)
  | 0, _, _ => none
  | fu + 1, a1, σ => (if (σ.1 0 15) ≤ a1 then some σ else if inb ((2 : Int32) * a1) 44 then (if inb (((2 : Int32) * a1) + (1 : Int32)) 44 then (Option.bind (F_X4_addNow (σ.1 5 (((2 : Int32) * a1).toNatClampNeg)) (σ.1 5 ((((2 : Int32) * a1) + (1 : Int32)).toNatClampNeg)) σ) (fun r71 => L_X4_addAll_44  fu (a1 + 1) r71.2)) else none) else none)
set_option maxHeartbeats 4000000 in
set_option maxRecDepth 100000 in
theorem w_X4_addAll_44 {D : va_G} {ay : Nat → ClassId} {ad : Nat → Nat} {p : Program} {l : Launch} {e : Env} {s : State} {m : MethodId} {args : Array Value} {below : List Frame} {meth : Method} {c : Code} {Q : State → Prop} {res : (Mem × Int64)} (X : CX D ay p s m args meth c cX4_addAll 2 RX4 (some .int) wsX4_addAll) (hI : amOK ad) (K : ∀ ls : Array Slot, lv_has ls 2 [(0, .ref (ad 0))] → GW D (wM ay ad) (AM ad) p l e ({ frames := 4, cells := 0, slots := 0, locals := 93 } : Room) s m args below meth c Q res (F0 m 81 ls [])) : ∀ (fu : Nat) (a1 : Int32) (σ : (Mem × Int64)), L_X4_addAll_44  fu a1 σ = some res → ∀ ls : Array Slot, lv_has ls 2 [(0, .ref (ad 0)), (1, .int a1)] → GW D (wM ay ad) (AM ad) p l e ({ frames := 4, cells := 0, slots := 0, locals := 93 } : Room) s m args below meth c Q σ (F0 m 44 ls []) := by
  intro fu
  induction fu with
  | zero =>
    intro a1 σ hF ls hl
    rw [L_X4_addAll_44] at hF
    cases hF
  | succ fu ih =>
    intro a1 σ hF ls hl
    rw [L_X4_addAll_44] at hF
    refine g_iload_n X dX4_addAll_44 rfl (lv_at hl 1 rfl) ?_
    refine g_aload_n X dX4_addAll_45 rfl (lv_at hl 0 rfl) ?_
    refine g_get X 0 (mo_obj) in_X4_addAll_X4 rfl 15 (by decide) (X.ts (.fieldLink RX4 143 "LeadTimesModel" "told" "I") (by decide +kernel)) rfl rfl dX4_addAll_46 ?_
    refine g_icmp_ge (tgt := 81) X dX4_addAll_49 (by decide) (fun hc49 => ?_) (fun hc49 => ?_)
    · have hF := ite_t hF hc49
      have e44 := some_inj hF
      subst e44
      exact K ls (lv_sub hl [0] rfl)
    · have hF := ite_f hF hc49
      refine g_aload_n X dX4_addAll_52 rfl (lv_at hl 0 rfl) ?_
      refine g_aload_n X dX4_addAll_53 rfl (lv_at hl 0 rfl) ?_
      refine g_get X 0 (mo_obj) in_X4_addAll_X4 rfl 16 (by decide) (X.ts (.fieldLink RX4 22 "LeadTimesModel" "read" "[I") (by decide +kernel)) rfl rfl dX4_addAll_54 ?_
      refine g_iconst (v := 2) X dX4_addAll_57 (by decide) ?_
      refine g_iload_n X dX4_addAll_58 rfl (lv_at hl 1 rfl) ?_
      refine g_imul X dX4_addAll_59 ?_
      obtain ⟨h60, hF⟩ := itn hF
      refine g_iald X 5 (j := ((2 : Int32) * a1).toNatClampNeg) (mo_arr5) (by first | rfl | decide) (inb_in h60) dX4_addAll_60 ?_
      refine g_aload_n X dX4_addAll_61 rfl (lv_at hl 0 rfl) ?_
      refine g_get X 0 (mo_obj) in_X4_addAll_X4 rfl 16 (by decide) (X.ts (.fieldLink RX4 22 "LeadTimesModel" "read" "[I") (by decide +kernel)) rfl rfl dX4_addAll_62 ?_
      refine g_iconst (v := 2) X dX4_addAll_65 (by decide) ?_
      refine g_iload_n X dX4_addAll_66 rfl (lv_at hl 1 rfl) ?_
      refine g_imul X dX4_addAll_67 ?_
      refine g_iconst (v := 1) X dX4_addAll_68 (by decide) ?_
      refine g_iadd X dX4_addAll_69 ?_
      obtain ⟨h70, hF⟩ := itn hF
      refine g_iald X 5 (j := (((2 : Int32) * a1) + (1 : Int32)).toNatClampNeg) (mo_arr5) (by first | rfl | decide) (inb_in h70) dX4_addAll_70 ?_
      obtain ⟨r71, hr71, hF⟩ := obind hF
      refine k_Vie X (As := [.int (σ.1 5 (((2 : Int32) * a1).toNatClampNeg)), .int (σ.1 5 ((((2 : Int32) * a1) + (1 : Int32)).toNatClampNeg))]) (rest := []) (c_X4_addNow hI hr71) (cwV 2 X.ts gX4_addAll_X4_addNow rfl rfl rfl (by decide +kernel) ⟨Nat.le_of_ble_eq_true rfl, Nat.le_of_ble_eq_true rfl⟩) ⟨0, 4, _, _, mo_obj, rfl, rfl⟩ rfl hl.1 rfl (Nat.le_of_ble_eq_true rfl) dX4_addAll_71 ?_
      refine g_pop X dX4_addAll_74 rfl ?_
      refine g_iinc (v := a1 + 1) (lv' := [(1, _), (0, _)]) X dX4_addAll_75 hl (k := 1) rfl rfl (by decide) rfl (fun ls hl => ?_)
      refine g_goto (tgt := 44) X dX4_addAll_78 (by decide) ?_
      exact ih (a1 + 1) r71.2 hF ls (lv_sub hl [1, 0] rfl)
def F_X4_addAll (σ : (Mem × Int64)) : Option (Int32 × (Mem × Int64)) := Option.bind (F_X4_isText (up2 σ.1 0 5 (0 : Int32), σ.2)) (fun r6 => (if ¬ r6.1 = 0 then Option.bind (F_X4_movers r6.2) (fun r19 => (if (r19 + (r6.2.1 0 15)) ≤ (16 : Int32) then Option.bind (F_X4_save r6.2) (fun r39 => Option.bind (L_X4_addAll_44  FU (0 : Int32) r39) (fun v44 : (Mem × Int64) => Option.bind (F_X4_movers (up2 v44.1 0 4 (0 : Int32), v44.2)) (fun r87 => some (r87, (up2 v44.1 0 4 (0 : Int32), v44.2))))) else Option.bind (F_X4_fails (2 : Int32) r6.2) (fun r34 => some (r34.1, r34.2)))) else Option.bind (F_X4_fails (1 : Int32) r6.2) (fun r14 => some (r14.1, r14.2))))
set_option maxHeartbeats 4000000 in
set_option maxRecDepth 100000 in
theorem c_X4_addAll {l : Launch} {D : va_G} {ay : Nat → ClassId} {ad : Nat → Nat} {σ : (Mem × Int64)} {res : Int32 × (Mem × Int64)} (hI : amOK ad) (hF : F_X4_addAll  σ = some res) : Met l yX4_addAll wsX4_addAll ({ frames := 4, cells := 0, slots := 0, locals := 93 } : Room) (va_Pc [.ref (ad 0)] (PP D ay (wM ay ad σ))) (va_Qi (pE res) (fun τ => PP D ay (wM ay ad τ)) (AM ad)) 0 0 (AM ad) := by
  refine g_start (wd := wM ay ad) (A := AM ad) (own := RX4) (mL := 2) (rt := (some .int)) (by decide) rfl rfl (Nat.le_of_ble_eq_true rfl) ?_
  intro p e s m below meth c ls X hl
  have hl : lv_has ls 2 [(0, .ref (ad 0))] := hl
  rw [F_X4_addAll] at hF
  refine g_aload_n X dX4_addAll_0 rfl (lv_at hl 0 rfl) ?_
  refine g_iconst (v := 0) X dX4_addAll_1 (by decide) ?_
  refine g_put X (wM_D hI) ((up2 σ.1 0 5 (0 : Int32), σ.2)) 0 (mo_obj) 5 (set_mo5) tyX4 tyX4_ok nmX4 in_X4_addAll_X4 rfl (by decide) (X.ts (.fieldLink RX4 34 "LeadTimesModel" "thrown" "I") (by decide +kernel)) rfl rfl rfl rfl rfl (Nat.le_of_ble_eq_true rfl) dX4_addAll_2 ?_
  refine g_aload_n X dX4_addAll_5 rfl (lv_at hl 0 rfl) ?_
  obtain ⟨r6, hr6, hF⟩ := obind hF
  refine k_Vze X (As := []) (rest := []) (c_X4_isText hI hr6) (cwV 0 X.ts gX4_addAll_X4_isText rfl rfl rfl (by decide +kernel) ⟨Nat.le_of_ble_eq_true rfl, Nat.le_of_ble_eq_true rfl⟩) ⟨0, 4, _, _, mo_obj, rfl, rfl⟩ rfl hl.1 rfl (Nat.le_of_ble_eq_true rfl) dX4_addAll_6 (fun hz6 => ?_)
  refine g_if_ne (tgt := 18) X dX4_addAll_9 (by decide) (fun hc9 => ?_) (fun hc9 => ?_)
  · have hF := ite_t hF hc9
    refine g_aload_n X dX4_addAll_18 rfl (lv_at hl 0 rfl) ?_
    obtain ⟨r19, hr19, hF⟩ := obind hF
    refine k_Vi X (As := []) (rest := []) (c_X4_movers hI hr19) (cwV 0 X.ts gX4_addAll_X4_movers rfl rfl rfl (by decide +kernel) ⟨Nat.le_of_ble_eq_true rfl, Nat.le_of_ble_eq_true rfl⟩) ⟨0, 4, _, _, mo_obj, rfl, rfl⟩ rfl hl.1 rfl (Nat.le_of_ble_eq_true rfl) dX4_addAll_19 ?_
    refine g_aload_n X dX4_addAll_22 rfl (lv_at hl 0 rfl) ?_
    refine g_get X 0 (mo_obj) in_X4_addAll_X4 rfl 15 (by decide) (X.ts (.fieldLink RX4 143 "LeadTimesModel" "told" "I") (by decide +kernel)) rfl rfl dX4_addAll_23 ?_
    refine g_iadd X dX4_addAll_26 ?_
    refine g_bipush (v := 16) X dX4_addAll_27 (by decide) ?_
    refine g_icmp_le (tgt := 38) X dX4_addAll_29 (by decide) (fun hc29 => ?_) (fun hc29 => ?_)
    · have hF := ite_t hF hc29
      refine g_aload_n X dX4_addAll_38 rfl (lv_at hl 0 rfl) ?_
      obtain ⟨r39, hr39, hF⟩ := obind hF
      refine k_Vv X (As := []) (rest := []) (c_X4_save hI hr39) (cwV 0 X.ts gX4_addAll_X4_save rfl rfl rfl (by decide +kernel) ⟨Nat.le_of_ble_eq_true rfl, Nat.le_of_ble_eq_true rfl⟩) ⟨0, 4, _, _, mo_obj, rfl, rfl⟩ rfl hl.1 rfl (Nat.le_of_ble_eq_true rfl) dX4_addAll_39 ?_
      refine g_iconst (v := 0) X dX4_addAll_42 (by decide) ?_
      refine g_istore_n (lv' := [(1, _), (0, _)]) X dX4_addAll_43 rfl hl (by decide) rfl (fun ls hl => ?_)
      obtain ⟨v44, hL44, hF⟩ := obind hF
      refine w_X4_addAll_44 X hI (fun ls hl => ?_) FU (0 : Int32) r39 hL44 ls (lv_sub hl [1, 0] rfl)
      refine g_aload_n X dX4_addAll_81 rfl (lv_at hl 0 rfl) ?_
      refine g_iconst (v := 0) X dX4_addAll_82 (by decide) ?_
      refine g_put X (wM_D hI) ((up2 v44.1 0 4 (0 : Int32), v44.2)) 0 (mo_obj) 4 (set_mo4) tyX4 tyX4_ok nmX4 in_X4_addAll_X4 rfl (by decide) (X.ts (.fieldLink RX4 134 "LeadTimesModel" "bufferMany" "I") (by decide +kernel)) rfl rfl rfl rfl rfl (Nat.le_of_ble_eq_true rfl) dX4_addAll_83 ?_
      refine g_aload_n X dX4_addAll_86 rfl (lv_at hl 0 rfl) ?_
      obtain ⟨r87, hr87, hF⟩ := obind hF
      refine k_Vi X (As := []) (rest := []) (c_X4_movers hI hr87) (cwV 0 X.ts gX4_addAll_X4_movers rfl rfl rfl (by decide +kernel) ⟨Nat.le_of_ble_eq_true rfl, Nat.le_of_ble_eq_true rfl⟩) ⟨0, 4, _, _, mo_obj, rfl, rfl⟩ rfl hl.1 rfl (Nat.le_of_ble_eq_true rfl) dX4_addAll_87 ?_
      exact g_iret X (pE_mk (some_inj hF)) dX4_addAll_90
    · have hF := ite_f hF hc29
      refine g_aload_n X dX4_addAll_32 rfl (lv_at hl 0 rfl) ?_
      refine g_iconst (v := 2) X dX4_addAll_33 (by decide) ?_
      obtain ⟨r34, hr34, hF⟩ := obind hF
      refine k_Vie X (As := [.int (2 : Int32)]) (rest := []) (c_X4_fails hI hr34) (cwV 1 X.ts gX4_addAll_X4_fails rfl rfl rfl (by decide +kernel) ⟨Nat.le_of_ble_eq_true rfl, Nat.le_of_ble_eq_true rfl⟩) ⟨0, 4, _, _, mo_obj, rfl, rfl⟩ rfl hl.1 rfl (Nat.le_of_ble_eq_true rfl) dX4_addAll_34 ?_
      exact g_iret X (pE_mk (some_inj hF)) dX4_addAll_37
  · have hF := ite_n hF hc9
    refine g_aload_n X dX4_addAll_12 rfl (lv_at hl 0 rfl) ?_
    refine g_iconst (v := 1) X dX4_addAll_13 (by decide) ?_
    obtain ⟨r14, hr14, hF⟩ := obind hF
    refine k_Vie X (As := [.int (1 : Int32)]) (rest := []) (c_X4_fails hI hr14) (cwV 1 X.ts gX4_addAll_X4_fails rfl rfl rfl (by decide +kernel) ⟨Nat.le_of_ble_eq_true rfl, Nat.le_of_ble_eq_true rfl⟩) ⟨0, 4, _, _, mo_obj, rfl, rfl⟩ rfl hl.1 rfl (Nat.le_of_ble_eq_true rfl) dX4_addAll_14 ?_
    exact g_iret X (pE_mk (some_inj hF)) dX4_addAll_17
theorem in_X4_undo_X4 : ∀ w ∈ wsX40, w ∈ wsX4_undo := by decide +kernel
def L_X4_undo_30 : Nat → Int32 → (Mem × Int64) → Option (Mem × Int64)
  | 0, _, _ => none
  | fu + 1, a1, σ => (if (84 : Int32) ≤ a1 then some σ else if inb (((84 : Int32) * (σ.1 0 2)) + a1) 504 then (if inb a1 84 then (L_X4_undo_30  fu (a1 + 1) (up2 σ.1 1 a1.toNatClampNeg (σ.1 2 ((((84 : Int32) * (σ.1 0 2)) + a1).toNatClampNeg)), σ.2)) else none) else none)
set_option maxHeartbeats 4000000 in
set_option maxRecDepth 100000 in
theorem w_X4_undo_30 {D : va_G} {ay : Nat → ClassId} {ad : Nat → Nat} {p : Program} {l : Launch} {e : Env} {s : State} {m : MethodId} {args : Array Value} {below : List Frame} {meth : Method} {c : Code} {Q : State → Prop} {res : (Mem × Int64)} (X : CX D ay p s m args meth c cX4_undo 2 RX4 (some .int) wsX4_undo) (hI : amOK ad) (K : ∀ ls : Array Slot, lv_has ls 2 [(0, .ref (ad 0))] → GW D (wM ay ad) (AM ad) p l e ({ frames := 1, cells := 0, slots := 0, locals := 21 } : Room) s m args below meth c Q res (F0 m 62 ls [])) : ∀ (fu : Nat) (a1 : Int32) (σ : (Mem × Int64)), L_X4_undo_30  fu a1 σ = some res → ∀ ls : Array Slot, lv_has ls 2 [(0, .ref (ad 0)), (1, .int a1)] → GW D (wM ay ad) (AM ad) p l e ({ frames := 1, cells := 0, slots := 0, locals := 21 } : Room) s m args below meth c Q σ (F0 m 30 ls []) := by
  intro fu
  induction fu with
  | zero =>
    intro a1 σ hF ls hl
    rw [L_X4_undo_30] at hF
    cases hF
  | succ fu ih =>
    intro a1 σ hF ls hl
    rw [L_X4_undo_30] at hF
    refine g_iload_n X dX4_undo_30 rfl (lv_at hl 1 rfl) ?_
    refine g_bipush (v := 84) X dX4_undo_31 (by decide) ?_
    refine g_icmp_ge (tgt := 62) X dX4_undo_33 (by decide) (fun hc33 => ?_) (fun hc33 => ?_)
    · have hF := ite_t hF hc33
      have e30 := some_inj hF
      subst e30
      exact K ls (lv_sub hl [0] rfl)
    · have hF := ite_f hF hc33
      refine g_aload_n X dX4_undo_36 rfl (lv_at hl 0 rfl) ?_
      refine g_get X 0 (mo_obj) in_X4_undo_X4 rfl 0 (by decide) (X.ts (.fieldLink RX4 7 "LeadTimesModel" "z" "[I") (by decide +kernel)) rfl rfl dX4_undo_37 ?_
      refine g_iload_n X dX4_undo_40 rfl (lv_at hl 1 rfl) ?_
      refine g_aload_n X dX4_undo_41 rfl (lv_at hl 0 rfl) ?_
      refine g_get X 0 (mo_obj) in_X4_undo_X4 rfl 1 (by decide) (X.ts (.fieldLink RX4 13 "LeadTimesModel" "rows" "[I") (by decide +kernel)) rfl rfl dX4_undo_42 ?_
      refine g_bipush (v := 84) X dX4_undo_45 (by decide) ?_
      refine g_aload_n X dX4_undo_47 rfl (lv_at hl 0 rfl) ?_
      refine g_get X 0 (mo_obj) in_X4_undo_X4 rfl 2 (by decide) (X.ts (.fieldLink RX4 38 "LeadTimesModel" "savedMany" "I") (by decide +kernel)) rfl rfl dX4_undo_48 ?_
      refine g_imul X dX4_undo_51 ?_
      refine g_iload_n X dX4_undo_52 rfl (lv_at hl 1 rfl) ?_
      refine g_iadd X dX4_undo_53 ?_
      obtain ⟨h54, hF⟩ := itn hF
      refine g_iald X 2 (j := (((84 : Int32) * (σ.1 0 2)) + a1).toNatClampNeg) (mo_arr2) (by first | rfl | decide) (inb_in h54) dX4_undo_54 ?_
      obtain ⟨h55, hF⟩ := itn hF
      refine g_iast X (wM_D hI) ((up2 σ.1 1 a1.toNatClampNeg (σ.1 2 ((((84 : Int32) * (σ.1 0 2)) + a1).toNatClampNeg)), σ.2)) 1 (j := a1.toNatClampNeg) (mo_arr1) (by first | rfl | decide) (set_arrM (a := 0) (n := 84) (fun τ => mo_arr1)) (inb_in h55) dX4_undo_55 ?_
      refine g_iinc (v := a1 + 1) (lv' := [(1, _), (0, _)]) X dX4_undo_56 hl (k := 1) rfl rfl (by decide) rfl (fun ls hl => ?_)
      refine g_goto (tgt := 30) X dX4_undo_59 (by decide) ?_
      exact ih (a1 + 1) (up2 σ.1 1 a1.toNatClampNeg (σ.1 2 ((((84 : Int32) * (σ.1 0 2)) + a1).toNatClampNeg)), σ.2) hF ls (lv_sub hl [1, 0] rfl)
def F_X4_undo (σ : (Mem × Int64)) : Option (Int32 × (Mem × Int64)) := (if ¬ ((up2 σ.1 0 5 (0 : Int32)) 0 2) = 0 then Option.bind (L_X4_undo_30  FU (0 : Int32) (up2 (up2 σ.1 0 5 (0 : Int32)) 0 2 (((up2 σ.1 0 5 (0 : Int32)) 0 2) - (1 : Int32)), σ.2)) (fun v30 : (Mem × Int64) => some (v30.1 0 2, v30)) else Option.bind (F_X4_fails (1 : Int32) (up2 σ.1 0 5 (0 : Int32), σ.2)) (fun r14 => some (r14.1, r14.2)))
set_option maxHeartbeats 4000000 in
set_option maxRecDepth 100000 in
theorem c_X4_undo {l : Launch} {D : va_G} {ay : Nat → ClassId} {ad : Nat → Nat} {σ : (Mem × Int64)} {res : Int32 × (Mem × Int64)} (hI : amOK ad) (hF : F_X4_undo  σ = some res) : Met l yX4_undo wsX4_undo ({ frames := 1, cells := 0, slots := 0, locals := 21 } : Room) (va_Pc [.ref (ad 0)] (PP D ay (wM ay ad σ))) (va_Qi (pE res) (fun τ => PP D ay (wM ay ad τ)) (AM ad)) 0 0 (AM ad) := by
  refine g_start (wd := wM ay ad) (A := AM ad) (own := RX4) (mL := 2) (rt := (some .int)) (by decide) rfl rfl (Nat.le_of_ble_eq_true rfl) ?_
  intro p e s m below meth c ls X hl
  have hl : lv_has ls 2 [(0, .ref (ad 0))] := hl
  rw [F_X4_undo] at hF
  refine g_aload_n X dX4_undo_0 rfl (lv_at hl 0 rfl) ?_
  refine g_iconst (v := 0) X dX4_undo_1 (by decide) ?_
  refine g_put X (wM_D hI) ((up2 σ.1 0 5 (0 : Int32), σ.2)) 0 (mo_obj) 5 (set_mo5) tyX4 tyX4_ok nmX4 in_X4_undo_X4 rfl (by decide) (X.ts (.fieldLink RX4 34 "LeadTimesModel" "thrown" "I") (by decide +kernel)) rfl rfl rfl rfl rfl (Nat.le_of_ble_eq_true rfl) dX4_undo_2 ?_
  refine g_aload_n X dX4_undo_5 rfl (lv_at hl 0 rfl) ?_
  refine g_get X 0 (mo_obj) in_X4_undo_X4 rfl 2 (by decide) (X.ts (.fieldLink RX4 38 "LeadTimesModel" "savedMany" "I") (by decide +kernel)) rfl rfl dX4_undo_6 ?_
  refine g_if_ne (tgt := 18) X dX4_undo_9 (by decide) (fun hc9 => ?_) (fun hc9 => ?_)
  · have hF := ite_t hF hc9
    refine g_aload_n X dX4_undo_18 rfl (lv_at hl 0 rfl) ?_
    refine g_dup X dX4_undo_19 rfl ?_
    refine g_get X 0 (mo_obj) in_X4_undo_X4 rfl 2 (by decide) (X.ts (.fieldLink RX4 38 "LeadTimesModel" "savedMany" "I") (by decide +kernel)) rfl rfl dX4_undo_20 ?_
    refine g_iconst (v := 1) X dX4_undo_23 (by decide) ?_
    refine g_isub X dX4_undo_24 ?_
    refine g_put X (wM_D hI) ((up2 (up2 σ.1 0 5 (0 : Int32)) 0 2 (((up2 σ.1 0 5 (0 : Int32)) 0 2) - (1 : Int32)), σ.2)) 0 (mo_obj) 2 (set_mo2) tyX4 tyX4_ok nmX4 in_X4_undo_X4 rfl (by decide) (X.ts (.fieldLink RX4 38 "LeadTimesModel" "savedMany" "I") (by decide +kernel)) rfl rfl rfl rfl rfl (Nat.le_of_ble_eq_true rfl) dX4_undo_25 ?_
    refine g_iconst (v := 0) X dX4_undo_28 (by decide) ?_
    refine g_istore_n (lv' := [(1, _), (0, _)]) X dX4_undo_29 rfl hl (by decide) rfl (fun ls hl => ?_)
    obtain ⟨v30, hL30, hF⟩ := obind hF
    refine w_X4_undo_30 X hI (fun ls hl => ?_) FU (0 : Int32) (up2 (up2 σ.1 0 5 (0 : Int32)) 0 2 (((up2 σ.1 0 5 (0 : Int32)) 0 2) - (1 : Int32)), σ.2) hL30 ls (lv_sub hl [1, 0] rfl)
    refine g_aload_n X dX4_undo_62 rfl (lv_at hl 0 rfl) ?_
    refine g_get X 0 (mo_obj) in_X4_undo_X4 rfl 2 (by decide) (X.ts (.fieldLink RX4 38 "LeadTimesModel" "savedMany" "I") (by decide +kernel)) rfl rfl dX4_undo_63 ?_
    exact g_iret X (pE_mk (some_inj hF)) dX4_undo_66
  · have hF := ite_n hF hc9
    refine g_aload_n X dX4_undo_12 rfl (lv_at hl 0 rfl) ?_
    refine g_iconst (v := 1) X dX4_undo_13 (by decide) ?_
    obtain ⟨r14, hr14, hF⟩ := obind hF
    refine k_Vie X (As := [.int (1 : Int32)]) (rest := []) (c_X4_fails hI hr14) (cwV 1 X.ts gX4_undo_X4_fails rfl rfl rfl (by decide +kernel) ⟨Nat.le_of_ble_eq_true rfl, Nat.le_of_ble_eq_true rfl⟩) ⟨0, 4, _, _, mo_obj, rfl, rfl⟩ rfl hl.1 rfl (Nat.le_of_ble_eq_true rfl) dX4_undo_14 ?_
    exact g_iret X (pE_mk (some_inj hF)) dX4_undo_17
theorem in_X4_laySpans_X4 : ∀ w ∈ wsX40, w ∈ wsX4_laySpans := by decide +kernel
def L_X4_laySpans_24 : Nat → (Mem × Int64) → Option (Mem × Int64)
  | 0, _ => none
  | fu + 1, σ => (if (σ.1 0 8) = (-1 : Int32) then some σ else if inb (σ.1 0 20) 16 then (if inb ((up2 σ.1 6 ((σ.1 0 20).toNatClampNeg) (σ.1 0 8)) 0 20) 16 then (if inb ((up2 (up2 σ.1 6 ((σ.1 0 20).toNatClampNeg) (σ.1 0 8)) 7 (((up2 σ.1 6 ((σ.1 0 20).toNatClampNeg) (σ.1 0 8)) 0 20).toNatClampNeg) ((up2 σ.1 6 ((σ.1 0 20).toNatClampNeg) (σ.1 0 8)) 0 6)) 0 20) 16 then (Option.bind (F_X4_layNext (1 : Int32) ((up2 (up2 (up2 (up2 σ.1 6 ((σ.1 0 20).toNatClampNeg) (σ.1 0 8)) 7 (((up2 σ.1 6 ((σ.1 0 20).toNatClampNeg) (σ.1 0 8)) 0 20).toNatClampNeg) ((up2 σ.1 6 ((σ.1 0 20).toNatClampNeg) (σ.1 0 8)) 0 6)) 8 (((up2 (up2 σ.1 6 ((σ.1 0 20).toNatClampNeg) (σ.1 0 8)) 7 (((up2 σ.1 6 ((σ.1 0 20).toNatClampNeg) (σ.1 0 8)) 0 20).toNatClampNeg) ((up2 σ.1 6 ((σ.1 0 20).toNatClampNeg) (σ.1 0 8)) 0 6)) 0 20).toNatClampNeg) ((up2 (up2 σ.1 6 ((σ.1 0 20).toNatClampNeg) (σ.1 0 8)) 7 (((up2 σ.1 6 ((σ.1 0 20).toNatClampNeg) (σ.1 0 8)) 0 20).toNatClampNeg) ((up2 σ.1 6 ((σ.1 0 20).toNatClampNeg) (σ.1 0 8)) 0 6)) 0 7)) 0 20 (((up2 (up2 (up2 σ.1 6 ((σ.1 0 20).toNatClampNeg) (σ.1 0 8)) 7 (((up2 σ.1 6 ((σ.1 0 20).toNatClampNeg) (σ.1 0 8)) 0 20).toNatClampNeg) ((up2 σ.1 6 ((σ.1 0 20).toNatClampNeg) (σ.1 0 8)) 0 6)) 8 (((up2 (up2 σ.1 6 ((σ.1 0 20).toNatClampNeg) (σ.1 0 8)) 7 (((up2 σ.1 6 ((σ.1 0 20).toNatClampNeg) (σ.1 0 8)) 0 20).toNatClampNeg) ((up2 σ.1 6 ((σ.1 0 20).toNatClampNeg) (σ.1 0 8)) 0 6)) 0 20).toNatClampNeg) ((up2 (up2 σ.1 6 ((σ.1 0 20).toNatClampNeg) (σ.1 0 8)) 7 (((up2 σ.1 6 ((σ.1 0 20).toNatClampNeg) (σ.1 0 8)) 0 20).toNatClampNeg) ((up2 σ.1 6 ((σ.1 0 20).toNatClampNeg) (σ.1 0 8)) 0 6)) 0 7)) 0 20) + (1 : Int32))) 0 8) (up2 (up2 (up2 (up2 σ.1 6 ((σ.1 0 20).toNatClampNeg) (σ.1 0 8)) 7 (((up2 σ.1 6 ((σ.1 0 20).toNatClampNeg) (σ.1 0 8)) 0 20).toNatClampNeg) ((up2 σ.1 6 ((σ.1 0 20).toNatClampNeg) (σ.1 0 8)) 0 6)) 8 (((up2 (up2 σ.1 6 ((σ.1 0 20).toNatClampNeg) (σ.1 0 8)) 7 (((up2 σ.1 6 ((σ.1 0 20).toNatClampNeg) (σ.1 0 8)) 0 20).toNatClampNeg) ((up2 σ.1 6 ((σ.1 0 20).toNatClampNeg) (σ.1 0 8)) 0 6)) 0 20).toNatClampNeg) ((up2 (up2 σ.1 6 ((σ.1 0 20).toNatClampNeg) (σ.1 0 8)) 7 (((up2 σ.1 6 ((σ.1 0 20).toNatClampNeg) (σ.1 0 8)) 0 20).toNatClampNeg) ((up2 σ.1 6 ((σ.1 0 20).toNatClampNeg) (σ.1 0 8)) 0 6)) 0 7)) 0 20 (((up2 (up2 (up2 σ.1 6 ((σ.1 0 20).toNatClampNeg) (σ.1 0 8)) 7 (((up2 σ.1 6 ((σ.1 0 20).toNatClampNeg) (σ.1 0 8)) 0 20).toNatClampNeg) ((up2 σ.1 6 ((σ.1 0 20).toNatClampNeg) (σ.1 0 8)) 0 6)) 8 (((up2 (up2 σ.1 6 ((σ.1 0 20).toNatClampNeg) (σ.1 0 8)) 7 (((up2 σ.1 6 ((σ.1 0 20).toNatClampNeg) (σ.1 0 8)) 0 20).toNatClampNeg) ((up2 σ.1 6 ((σ.1 0 20).toNatClampNeg) (σ.1 0 8)) 0 6)) 0 20).toNatClampNeg) ((up2 (up2 σ.1 6 ((σ.1 0 20).toNatClampNeg) (σ.1 0 8)) 7 (((up2 σ.1 6 ((σ.1 0 20).toNatClampNeg) (σ.1 0 8)) 0 20).toNatClampNeg) ((up2 σ.1 6 ((σ.1 0 20).toNatClampNeg) (σ.1 0 8)) 0 6)) 0 7)) 0 20) + (1 : Int32)), σ.2)) (fun r87 => L_X4_laySpans_24  fu r87)) else none) else none) else none)
set_option maxHeartbeats 4000000 in
set_option maxRecDepth 100000 in
theorem w_X4_laySpans_24 {D : va_G} {ay : Nat → ClassId} {ad : Nat → Nat} {p : Program} {l : Launch} {e : Env} {s : State} {m : MethodId} {args : Array Value} {below : List Frame} {meth : Method} {c : Code} {res : (Mem × Int64)} (X : CX D ay p s m args meth c cX4_laySpans 1 RX4 none wsX4_laySpans) (hI : amOK ad) : ∀ (fu : Nat) (σ : (Mem × Int64)), L_X4_laySpans_24  fu σ = some res → ∀ ls : Array Slot, lv_has ls 1 [(0, .ref (ad 0))] → GW D (wM ay ad) (AM ad) p l e ({ frames := 4, cells := 0, slots := 0, locals := 98 } : Room) s m args below meth c (MQ below (va_Qv (pV res) (fun τ => PP D ay (wM ay ad τ)) (AM ad)) args s 0 0 (AM ad)) σ (F0 m 24 ls []) := by
  intro fu
  induction fu with
  | zero =>
    intro σ hF ls hl
    rw [L_X4_laySpans_24] at hF
    cases hF
  | succ fu ih =>
    intro σ hF ls hl
    rw [L_X4_laySpans_24] at hF
    refine g_aload_n X dX4_laySpans_24 rfl (lv_at hl 0 rfl) ?_
    refine g_get X 0 (mo_obj) in_X4_laySpans_X4 rfl 8 (by decide) (X.ts (.fieldLink RX4 67 "LeadTimesModel" "nextWho" "I") (by decide +kernel)) rfl rfl dX4_laySpans_25 ?_
    refine g_iconst (v := -1) X dX4_laySpans_28 (by decide) ?_
    refine g_icmp_eq (tgt := 93) X dX4_laySpans_29 (by decide) (fun hc29 => ?_) (fun hc29 => ?_)
    · have hF := ite_t hF hc29
      exact g_vret X (pV_mk (some_inj hF)) dX4_laySpans_93
    · have hF := ite_f hF hc29
      refine g_aload_n X dX4_laySpans_32 rfl (lv_at hl 0 rfl) ?_
      refine g_get X 0 (mo_obj) in_X4_laySpans_X4 rfl 17 (by decide) (X.ts (.fieldLink RX4 25 "LeadTimesModel" "spanWho" "[I") (by decide +kernel)) rfl rfl dX4_laySpans_33 ?_
      refine g_aload_n X dX4_laySpans_36 rfl (lv_at hl 0 rfl) ?_
      refine g_get X 0 (mo_obj) in_X4_laySpans_X4 rfl 20 (by decide) (X.ts (.fieldLink RX4 162 "LeadTimesModel" "spans" "I") (by decide +kernel)) rfl rfl dX4_laySpans_37 ?_
      refine g_aload_n X dX4_laySpans_40 rfl (lv_at hl 0 rfl) ?_
      refine g_get X 0 (mo_obj) in_X4_laySpans_X4 rfl 8 (by decide) (X.ts (.fieldLink RX4 67 "LeadTimesModel" "nextWho" "I") (by decide +kernel)) rfl rfl dX4_laySpans_41 ?_
      obtain ⟨h44, hF⟩ := itn hF
      refine g_iast X (wM_D hI) ((up2 σ.1 6 ((σ.1 0 20).toNatClampNeg) (σ.1 0 8), σ.2)) 6 (j := (σ.1 0 20).toNatClampNeg) (mo_arr6) (by first | rfl | decide) (set_arrM (a := 0) (n := 16) (fun τ => mo_arr6)) (inb_in h44) dX4_laySpans_44 ?_
      refine g_aload_n X dX4_laySpans_45 rfl (lv_at hl 0 rfl) ?_
      refine g_get X 0 (mo_obj) in_X4_laySpans_X4 rfl 18 (by decide) (X.ts (.fieldLink RX4 28 "LeadTimesModel" "spanA" "[I") (by decide +kernel)) rfl rfl dX4_laySpans_46 ?_
      refine g_aload_n X dX4_laySpans_49 rfl (lv_at hl 0 rfl) ?_
      refine g_get X 0 (mo_obj) in_X4_laySpans_X4 rfl 20 (by decide) (X.ts (.fieldLink RX4 162 "LeadTimesModel" "spans" "I") (by decide +kernel)) rfl rfl dX4_laySpans_50 ?_
      refine g_aload_n X dX4_laySpans_53 rfl (lv_at hl 0 rfl) ?_
      refine g_get X 0 (mo_obj) in_X4_laySpans_X4 rfl 6 (by decide) (X.ts (.fieldLink RX4 70 "LeadTimesModel" "nextA" "I") (by decide +kernel)) rfl rfl dX4_laySpans_54 ?_
      obtain ⟨h57, hF⟩ := itn hF
      refine g_iast X (wM_D hI) ((up2 (up2 σ.1 6 ((σ.1 0 20).toNatClampNeg) (σ.1 0 8)) 7 (((up2 σ.1 6 ((σ.1 0 20).toNatClampNeg) (σ.1 0 8)) 0 20).toNatClampNeg) ((up2 σ.1 6 ((σ.1 0 20).toNatClampNeg) (σ.1 0 8)) 0 6), σ.2)) 7 (j := ((up2 σ.1 6 ((σ.1 0 20).toNatClampNeg) (σ.1 0 8)) 0 20).toNatClampNeg) (mo_arr7) (by first | rfl | decide) (set_arrM (a := 0) (n := 16) (fun τ => mo_arr7)) (inb_in h57) dX4_laySpans_57 ?_
      refine g_aload_n X dX4_laySpans_58 rfl (lv_at hl 0 rfl) ?_
      refine g_get X 0 (mo_obj) in_X4_laySpans_X4 rfl 19 (by decide) (X.ts (.fieldLink RX4 31 "LeadTimesModel" "spanB" "[I") (by decide +kernel)) rfl rfl dX4_laySpans_59 ?_
      refine g_aload_n X dX4_laySpans_62 rfl (lv_at hl 0 rfl) ?_
      refine g_get X 0 (mo_obj) in_X4_laySpans_X4 rfl 20 (by decide) (X.ts (.fieldLink RX4 162 "LeadTimesModel" "spans" "I") (by decide +kernel)) rfl rfl dX4_laySpans_63 ?_
      refine g_aload_n X dX4_laySpans_66 rfl (lv_at hl 0 rfl) ?_
      refine g_get X 0 (mo_obj) in_X4_laySpans_X4 rfl 7 (by decide) (X.ts (.fieldLink RX4 73 "LeadTimesModel" "nextB" "I") (by decide +kernel)) rfl rfl dX4_laySpans_67 ?_
      obtain ⟨h70, hF⟩ := itn hF
      refine g_iast X (wM_D hI) ((up2 (up2 (up2 σ.1 6 ((σ.1 0 20).toNatClampNeg) (σ.1 0 8)) 7 (((up2 σ.1 6 ((σ.1 0 20).toNatClampNeg) (σ.1 0 8)) 0 20).toNatClampNeg) ((up2 σ.1 6 ((σ.1 0 20).toNatClampNeg) (σ.1 0 8)) 0 6)) 8 (((up2 (up2 σ.1 6 ((σ.1 0 20).toNatClampNeg) (σ.1 0 8)) 7 (((up2 σ.1 6 ((σ.1 0 20).toNatClampNeg) (σ.1 0 8)) 0 20).toNatClampNeg) ((up2 σ.1 6 ((σ.1 0 20).toNatClampNeg) (σ.1 0 8)) 0 6)) 0 20).toNatClampNeg) ((up2 (up2 σ.1 6 ((σ.1 0 20).toNatClampNeg) (σ.1 0 8)) 7 (((up2 σ.1 6 ((σ.1 0 20).toNatClampNeg) (σ.1 0 8)) 0 20).toNatClampNeg) ((up2 σ.1 6 ((σ.1 0 20).toNatClampNeg) (σ.1 0 8)) 0 6)) 0 7), σ.2)) 8 (j := ((up2 (up2 σ.1 6 ((σ.1 0 20).toNatClampNeg) (σ.1 0 8)) 7 (((up2 σ.1 6 ((σ.1 0 20).toNatClampNeg) (σ.1 0 8)) 0 20).toNatClampNeg) ((up2 σ.1 6 ((σ.1 0 20).toNatClampNeg) (σ.1 0 8)) 0 6)) 0 20).toNatClampNeg) (mo_arr8) (by first | rfl | decide) (set_arrM (a := 0) (n := 16) (fun τ => mo_arr8)) (inb_in h70) dX4_laySpans_70 ?_
      refine g_aload_n X dX4_laySpans_71 rfl (lv_at hl 0 rfl) ?_
      refine g_dup X dX4_laySpans_72 rfl ?_
      refine g_get X 0 (mo_obj) in_X4_laySpans_X4 rfl 20 (by decide) (X.ts (.fieldLink RX4 162 "LeadTimesModel" "spans" "I") (by decide +kernel)) rfl rfl dX4_laySpans_73 ?_
      refine g_iconst (v := 1) X dX4_laySpans_76 (by decide) ?_
      refine g_iadd X dX4_laySpans_77 ?_
      refine g_put X (wM_D hI) ((up2 (up2 (up2 (up2 σ.1 6 ((σ.1 0 20).toNatClampNeg) (σ.1 0 8)) 7 (((up2 σ.1 6 ((σ.1 0 20).toNatClampNeg) (σ.1 0 8)) 0 20).toNatClampNeg) ((up2 σ.1 6 ((σ.1 0 20).toNatClampNeg) (σ.1 0 8)) 0 6)) 8 (((up2 (up2 σ.1 6 ((σ.1 0 20).toNatClampNeg) (σ.1 0 8)) 7 (((up2 σ.1 6 ((σ.1 0 20).toNatClampNeg) (σ.1 0 8)) 0 20).toNatClampNeg) ((up2 σ.1 6 ((σ.1 0 20).toNatClampNeg) (σ.1 0 8)) 0 6)) 0 20).toNatClampNeg) ((up2 (up2 σ.1 6 ((σ.1 0 20).toNatClampNeg) (σ.1 0 8)) 7 (((up2 σ.1 6 ((σ.1 0 20).toNatClampNeg) (σ.1 0 8)) 0 20).toNatClampNeg) ((up2 σ.1 6 ((σ.1 0 20).toNatClampNeg) (σ.1 0 8)) 0 6)) 0 7)) 0 20 (((up2 (up2 (up2 σ.1 6 ((σ.1 0 20).toNatClampNeg) (σ.1 0 8)) 7 (((up2 σ.1 6 ((σ.1 0 20).toNatClampNeg) (σ.1 0 8)) 0 20).toNatClampNeg) ((up2 σ.1 6 ((σ.1 0 20).toNatClampNeg) (σ.1 0 8)) 0 6)) 8 (((up2 (up2 σ.1 6 ((σ.1 0 20).toNatClampNeg) (σ.1 0 8)) 7 (((up2 σ.1 6 ((σ.1 0 20).toNatClampNeg) (σ.1 0 8)) 0 20).toNatClampNeg) ((up2 σ.1 6 ((σ.1 0 20).toNatClampNeg) (σ.1 0 8)) 0 6)) 0 20).toNatClampNeg) ((up2 (up2 σ.1 6 ((σ.1 0 20).toNatClampNeg) (σ.1 0 8)) 7 (((up2 σ.1 6 ((σ.1 0 20).toNatClampNeg) (σ.1 0 8)) 0 20).toNatClampNeg) ((up2 σ.1 6 ((σ.1 0 20).toNatClampNeg) (σ.1 0 8)) 0 6)) 0 7)) 0 20) + (1 : Int32)), σ.2)) 0 (mo_obj) 20 (set_mo20) tyX4 tyX4_ok nmX4 in_X4_laySpans_X4 rfl (by decide) (X.ts (.fieldLink RX4 162 "LeadTimesModel" "spans" "I") (by decide +kernel)) rfl rfl rfl rfl rfl (Nat.le_of_ble_eq_true rfl) dX4_laySpans_78 ?_
      refine g_aload_n X dX4_laySpans_81 rfl (lv_at hl 0 rfl) ?_
      refine g_iconst (v := 1) X dX4_laySpans_82 (by decide) ?_
      refine g_aload_n X dX4_laySpans_83 rfl (lv_at hl 0 rfl) ?_
      refine g_get X 0 (mo_obj) in_X4_laySpans_X4 rfl 8 (by decide) (X.ts (.fieldLink RX4 67 "LeadTimesModel" "nextWho" "I") (by decide +kernel)) rfl rfl dX4_laySpans_84 ?_
      obtain ⟨r87, hr87, hF⟩ := obind hF
      refine k_Vv X (As := [.int (1 : Int32), .int ((up2 (up2 (up2 (up2 σ.1 6 ((σ.1 0 20).toNatClampNeg) (σ.1 0 8)) 7 (((up2 σ.1 6 ((σ.1 0 20).toNatClampNeg) (σ.1 0 8)) 0 20).toNatClampNeg) ((up2 σ.1 6 ((σ.1 0 20).toNatClampNeg) (σ.1 0 8)) 0 6)) 8 (((up2 (up2 σ.1 6 ((σ.1 0 20).toNatClampNeg) (σ.1 0 8)) 7 (((up2 σ.1 6 ((σ.1 0 20).toNatClampNeg) (σ.1 0 8)) 0 20).toNatClampNeg) ((up2 σ.1 6 ((σ.1 0 20).toNatClampNeg) (σ.1 0 8)) 0 6)) 0 20).toNatClampNeg) ((up2 (up2 σ.1 6 ((σ.1 0 20).toNatClampNeg) (σ.1 0 8)) 7 (((up2 σ.1 6 ((σ.1 0 20).toNatClampNeg) (σ.1 0 8)) 0 20).toNatClampNeg) ((up2 σ.1 6 ((σ.1 0 20).toNatClampNeg) (σ.1 0 8)) 0 6)) 0 7)) 0 20 (((up2 (up2 (up2 σ.1 6 ((σ.1 0 20).toNatClampNeg) (σ.1 0 8)) 7 (((up2 σ.1 6 ((σ.1 0 20).toNatClampNeg) (σ.1 0 8)) 0 20).toNatClampNeg) ((up2 σ.1 6 ((σ.1 0 20).toNatClampNeg) (σ.1 0 8)) 0 6)) 8 (((up2 (up2 σ.1 6 ((σ.1 0 20).toNatClampNeg) (σ.1 0 8)) 7 (((up2 σ.1 6 ((σ.1 0 20).toNatClampNeg) (σ.1 0 8)) 0 20).toNatClampNeg) ((up2 σ.1 6 ((σ.1 0 20).toNatClampNeg) (σ.1 0 8)) 0 6)) 0 20).toNatClampNeg) ((up2 (up2 σ.1 6 ((σ.1 0 20).toNatClampNeg) (σ.1 0 8)) 7 (((up2 σ.1 6 ((σ.1 0 20).toNatClampNeg) (σ.1 0 8)) 0 20).toNatClampNeg) ((up2 σ.1 6 ((σ.1 0 20).toNatClampNeg) (σ.1 0 8)) 0 6)) 0 7)) 0 20) + (1 : Int32))) 0 8)]) (rest := []) (c_X4_layNext hI hr87) (cwV 2 X.ts gX4_laySpans_X4_layNext rfl rfl rfl (by decide +kernel) ⟨Nat.le_of_ble_eq_true rfl, Nat.le_of_ble_eq_true rfl⟩) ⟨0, 4, _, _, mo_obj, rfl, rfl⟩ rfl hl.1 rfl (Nat.le_of_ble_eq_true rfl) dX4_laySpans_87 ?_
      refine g_goto (tgt := 24) X dX4_laySpans_90 (by decide) ?_
      exact ih r87 hF ls (lv_sub hl [0] rfl)
def F_X4_laySpans (σ : (Mem × Int64)) : Option (Mem × Int64) := Option.bind (F_X4_winnerOf (1 : Int32) (up2 σ.1 0 20 (0 : Int32), σ.2)) (fun r8 => L_X4_laySpans_24  FU (up2 (up2 (up2 (up2 σ.1 0 20 (0 : Int32)) 0 8 r8) 0 6 (0 : Int32)) 0 7 (1 : Int32), σ.2))
set_option maxHeartbeats 4000000 in
set_option maxRecDepth 100000 in
theorem c_X4_laySpans {l : Launch} {D : va_G} {ay : Nat → ClassId} {ad : Nat → Nat} {σ : (Mem × Int64)} {res : (Mem × Int64)} (hI : amOK ad) (hF : F_X4_laySpans  σ = some res) : Met l yX4_laySpans wsX4_laySpans ({ frames := 4, cells := 0, slots := 0, locals := 98 } : Room) (va_Pc [.ref (ad 0)] (PP D ay (wM ay ad σ))) (va_Qv (pV res) (fun τ => PP D ay (wM ay ad τ)) (AM ad)) 0 0 (AM ad) := by
  refine g_start (wd := wM ay ad) (A := AM ad) (own := RX4) (mL := 1) (rt := none) (by decide) rfl rfl (Nat.le_of_ble_eq_true rfl) ?_
  intro p e s m below meth c ls X hl
  have hl : lv_has ls 1 [(0, .ref (ad 0))] := hl
  rw [F_X4_laySpans] at hF
  refine g_aload_n X dX4_laySpans_0 rfl (lv_at hl 0 rfl) ?_
  refine g_iconst (v := 0) X dX4_laySpans_1 (by decide) ?_
  refine g_put X (wM_D hI) ((up2 σ.1 0 20 (0 : Int32), σ.2)) 0 (mo_obj) 20 (set_mo20) tyX4 tyX4_ok nmX4 in_X4_laySpans_X4 rfl (by decide) (X.ts (.fieldLink RX4 162 "LeadTimesModel" "spans" "I") (by decide +kernel)) rfl rfl rfl rfl rfl (Nat.le_of_ble_eq_true rfl) dX4_laySpans_2 ?_
  refine g_aload_n X dX4_laySpans_5 rfl (lv_at hl 0 rfl) ?_
  refine g_aload_n X dX4_laySpans_6 rfl (lv_at hl 0 rfl) ?_
  refine g_iconst (v := 1) X dX4_laySpans_7 (by decide) ?_
  obtain ⟨r8, hr8, hF⟩ := obind hF
  refine k_Vi X (As := [.int (1 : Int32)]) (rest := [.ref (ad 0)]) (c_X4_winnerOf hI hr8) (cwV 1 X.ts gX4_laySpans_X4_winnerOf rfl rfl rfl (by decide +kernel) ⟨Nat.le_of_ble_eq_true rfl, Nat.le_of_ble_eq_true rfl⟩) ⟨0, 4, _, _, mo_obj, rfl, rfl⟩ rfl hl.1 rfl (Nat.le_of_ble_eq_true rfl) dX4_laySpans_8 ?_
  refine g_put X (wM_D hI) ((up2 (up2 σ.1 0 20 (0 : Int32)) 0 8 r8, σ.2)) 0 (mo_obj) 8 (set_mo8) tyX4 tyX4_ok nmX4 in_X4_laySpans_X4 rfl (by decide) (X.ts (.fieldLink RX4 67 "LeadTimesModel" "nextWho" "I") (by decide +kernel)) rfl rfl rfl rfl rfl (Nat.le_of_ble_eq_true rfl) dX4_laySpans_11 ?_
  refine g_aload_n X dX4_laySpans_14 rfl (lv_at hl 0 rfl) ?_
  refine g_iconst (v := 0) X dX4_laySpans_15 (by decide) ?_
  refine g_put X (wM_D hI) ((up2 (up2 (up2 σ.1 0 20 (0 : Int32)) 0 8 r8) 0 6 (0 : Int32), σ.2)) 0 (mo_obj) 6 (set_mo6) tyX4 tyX4_ok nmX4 in_X4_laySpans_X4 rfl (by decide) (X.ts (.fieldLink RX4 70 "LeadTimesModel" "nextA" "I") (by decide +kernel)) rfl rfl rfl rfl rfl (Nat.le_of_ble_eq_true rfl) dX4_laySpans_16 ?_
  refine g_aload_n X dX4_laySpans_19 rfl (lv_at hl 0 rfl) ?_
  refine g_iconst (v := 1) X dX4_laySpans_20 (by decide) ?_
  refine g_put X (wM_D hI) ((up2 (up2 (up2 (up2 σ.1 0 20 (0 : Int32)) 0 8 r8) 0 6 (0 : Int32)) 0 7 (1 : Int32), σ.2)) 0 (mo_obj) 7 (set_mo7) tyX4 tyX4_ok nmX4 in_X4_laySpans_X4 rfl (by decide) (X.ts (.fieldLink RX4 73 "LeadTimesModel" "nextB" "I") (by decide +kernel)) rfl rfl rfl rfl rfl (Nat.le_of_ble_eq_true rfl) dX4_laySpans_21 ?_
  exact w_X4_laySpans_24 X hI FU (up2 (up2 (up2 (up2 σ.1 0 20 (0 : Int32)) 0 8 r8) 0 6 (0 : Int32)) 0 7 (1 : Int32), σ.2) hF ls (lv_sub hl [0] rfl)
theorem in_X4_spanOf_X4 : ∀ w ∈ wsX40, w ∈ wsX4_spanOf := by decide +kernel
def L_X4_spanOf_6 (a1 : Int32) (σ : (Mem × Int64)) : Nat → Int32 → Option (Int32 × (Mem × Int64))
  | 0, _ => none
  | fu + 1, a2 => (if (σ.1 0 20) ≤ a2 then some ((-1 : Int32), σ) else if inb a2 16 then ((if ¬ (σ.1 6 a2.toNatClampNeg) = a1 then L_X4_spanOf_6 a1 σ fu (a2 + 1) else some (a2, σ))) else none)
set_option maxHeartbeats 4000000 in
set_option maxRecDepth 100000 in
theorem w_X4_spanOf_6 {D : va_G} {ay : Nat → ClassId} {ad : Nat → Nat} {p : Program} {l : Launch} {e : Env} {s : State} {m : MethodId} {args : Array Value} {below : List Frame} {meth : Method} {c : Code} {a1 : Int32} {σ : (Mem × Int64)} {res : Int32 × (Mem × Int64)} (X : CX D ay p s m args meth c cX4_spanOf 3 RX4 (some .int) wsX4_spanOf) (hI : amOK ad) : ∀ (fu : Nat) (a2 : Int32), L_X4_spanOf_6 a1 σ fu a2 = some res → ∀ ls : Array Slot, lv_has ls 3 [(0, .ref (ad 0)), (1, .int a1), (2, .int a2)] → GW D (wM ay ad) (AM ad) p l e ({ frames := 5, cells := 0, slots := 0, locals := 118 } : Room) s m args below meth c (MQ below (va_Qi (pE res) (fun τ => PP D ay (wM ay ad τ)) (AM ad)) args s 0 0 (AM ad)) σ (F0 m 6 ls []) := by
  intro fu
  induction fu with
  | zero =>
    intro a2 hF ls hl
    rw [L_X4_spanOf_6] at hF
    cases hF
  | succ fu ih =>
    intro a2 hF ls hl
    rw [L_X4_spanOf_6] at hF
    refine g_iload_n X dX4_spanOf_6 rfl (lv_at hl 2 rfl) ?_
    refine g_aload_n X dX4_spanOf_7 rfl (lv_at hl 0 rfl) ?_
    refine g_get X 0 (mo_obj) in_X4_spanOf_X4 rfl 20 (by decide) (X.ts (.fieldLink RX4 162 "LeadTimesModel" "spans" "I") (by decide +kernel)) rfl rfl dX4_spanOf_8 ?_
    refine g_icmp_ge (tgt := 32) X dX4_spanOf_11 (by decide) (fun hc11 => ?_) (fun hc11 => ?_)
    · have hF := ite_t hF hc11
      refine g_iconst (v := -1) X dX4_spanOf_32 (by decide) ?_
      exact g_iret X (pE_mk (some_inj hF)) dX4_spanOf_33
    · have hF := ite_f hF hc11
      refine g_aload_n X dX4_spanOf_14 rfl (lv_at hl 0 rfl) ?_
      refine g_get X 0 (mo_obj) in_X4_spanOf_X4 rfl 17 (by decide) (X.ts (.fieldLink RX4 25 "LeadTimesModel" "spanWho" "[I") (by decide +kernel)) rfl rfl dX4_spanOf_15 ?_
      refine g_iload_n X dX4_spanOf_18 rfl (lv_at hl 2 rfl) ?_
      obtain ⟨h19, hF⟩ := itn hF
      refine g_iald X 6 (j := a2.toNatClampNeg) (mo_arr6) (by first | rfl | decide) (inb_in h19) dX4_spanOf_19 ?_
      refine g_iload_n X dX4_spanOf_20 rfl (lv_at hl 1 rfl) ?_
      refine g_icmp_ne (tgt := 26) X dX4_spanOf_21 (by decide) (fun hc21 => ?_) (fun hc21 => ?_)
      · have hF := ite_t hF hc21
        refine g_iinc (v := a2 + 1) (lv' := [(2, _), (0, _), (1, _)]) X dX4_spanOf_26 hl (k := 2) rfl rfl (by decide) rfl (fun ls hl => ?_)
        refine g_goto (tgt := 6) X dX4_spanOf_29 (by decide) ?_
        exact ih (a2 + 1) hF ls (lv_sub hl [1, 2, 0] rfl)
      · have hF := ite_n hF hc21
        refine g_iload_n X dX4_spanOf_24 rfl (lv_at hl 2 rfl) ?_
        exact g_iret X (pE_mk (some_inj hF)) dX4_spanOf_25
def F_X4_spanOf (a1 : Int32) (σ : (Mem × Int64)) : Option (Int32 × (Mem × Int64)) := Option.bind (F_X4_laySpans σ) (fun r1 => L_X4_spanOf_6 a1 r1 FU (0 : Int32))
set_option maxHeartbeats 4000000 in
set_option maxRecDepth 100000 in
theorem c_X4_spanOf {l : Launch} {D : va_G} {ay : Nat → ClassId} {ad : Nat → Nat} {a1 : Int32} {σ : (Mem × Int64)} {res : Int32 × (Mem × Int64)} (hI : amOK ad) (hF : F_X4_spanOf a1 σ = some res) : Met l yX4_spanOf wsX4_spanOf ({ frames := 5, cells := 0, slots := 0, locals := 118 } : Room) (va_Pc [.ref (ad 0), .int a1] (PP D ay (wM ay ad σ))) (va_Qi (pE res) (fun τ => PP D ay (wM ay ad τ)) (AM ad)) 0 0 (AM ad) := by
  refine g_start (wd := wM ay ad) (A := AM ad) (own := RX4) (mL := 3) (rt := (some .int)) (by decide) rfl rfl (Nat.le_of_ble_eq_true rfl) ?_
  intro p e s m below meth c ls X hl
  have hl : lv_has ls 3 [(0, .ref (ad 0)), (1, .int a1)] := hl
  rw [F_X4_spanOf] at hF
  refine g_aload_n X dX4_spanOf_0 rfl (lv_at hl 0 rfl) ?_
  obtain ⟨r1, hr1, hF⟩ := obind hF
  refine k_Vv X (As := []) (rest := []) (c_X4_laySpans hI hr1) (cwV 0 X.ts gX4_spanOf_X4_laySpans rfl rfl rfl (by decide +kernel) ⟨Nat.le_of_ble_eq_true rfl, Nat.le_of_ble_eq_true rfl⟩) ⟨0, 4, _, _, mo_obj, rfl, rfl⟩ rfl hl.1 rfl (Nat.le_of_ble_eq_true rfl) dX4_spanOf_1 ?_
  refine g_iconst (v := 0) X dX4_spanOf_4 (by decide) ?_
  refine g_istore_n (lv' := [(2, _), (0, _), (1, _)]) X dX4_spanOf_5 rfl hl (by decide) rfl (fun ls hl => ?_)
  exact w_X4_spanOf_6 X hI FU (0 : Int32) hF ls (lv_sub hl [1, 2, 0] rfl)
def L_X4_rankOf_4 (a1 : Int32) (σ : (Mem × Int64)) : Nat → Int32 → Int32 → Option Int32
  | 0, _, _ => none
  | fu + 1, a2, a3 => (if (16 : Int32) ≤ a3 then some a2 else (Option.bind (if a3 = a1 then some (0 : Int32) else Option.bind (F_X4_has a3 σ) (fun r18 => (if r18 = 0 then some (0 : Int32) else Option.bind (F_X4_isAhead a3 a1 (0 : Int64) (1 : Int64) σ) (fun r29 => (if r29 = 0 then some (0 : Int32) else some (1 : Int32)))))) (fun v13 : Int32 => L_X4_rankOf_4 a1 σ fu (a2 + v13) (a3 + 1))))
set_option maxHeartbeats 4000000 in
set_option maxRecDepth 100000 in
theorem w_X4_rankOf_4 {D : va_G} {ay : Nat → ClassId} {ad : Nat → Nat} {p : Program} {l : Launch} {e : Env} {s : State} {m : MethodId} {args : Array Value} {below : List Frame} {meth : Method} {c : Code} {Q : State → Prop} {a1 : Int32} {σ : (Mem × Int64)} {res : Int32} (X : CX D ay p s m args meth c cX4_rankOf 4 RX4 (some .int) wsX4_rankOf) (hI : amOK ad) (K : ∀ ls : Array Slot, lv_has ls 4 [(2, .int res)] → GW D (wM ay ad) (AM ad) p l e ({ frames := 2, cells := 0, slots := 0, locals := 49 } : Room) s m args below meth c Q σ (F0 m 48 ls [])) : ∀ (fu : Nat) (a2 : Int32) (a3 : Int32), L_X4_rankOf_4 a1 σ fu a2 a3 = some res → ∀ ls : Array Slot, lv_has ls 4 [(0, .ref (ad 0)), (1, .int a1), (2, .int a2), (3, .int a3)] → GW D (wM ay ad) (AM ad) p l e ({ frames := 2, cells := 0, slots := 0, locals := 49 } : Room) s m args below meth c Q σ (F0 m 4 ls []) := by
  intro fu
  induction fu with
  | zero =>
    intro a2 a3 hF ls hl
    rw [L_X4_rankOf_4] at hF
    cases hF
  | succ fu ih =>
    intro a2 a3 hF ls hl
    rw [L_X4_rankOf_4] at hF
    refine g_iload_n X dX4_rankOf_4 rfl (lv_at hl 3 rfl) ?_
    refine g_bipush (v := 16) X dX4_rankOf_5 (by decide) ?_
    refine g_icmp_ge (tgt := 48) X dX4_rankOf_7 (by decide) (fun hc7 => ?_) (fun hc7 => ?_)
    · have hF := ite_t hF hc7
      have e4 := some_inj hF
      subst e4
      exact K ls (lv_sub hl [2] rfl)
    · have hF := ite_f hF hc7
      refine g_iload_n X dX4_rankOf_10 rfl (lv_at hl 2 rfl) ?_
      refine g_iload_n X dX4_rankOf_11 rfl (lv_at hl 3 rfl) ?_
      refine g_iload_n X dX4_rankOf_12 rfl (lv_at hl 1 rfl) ?_
      obtain ⟨v13, hR13, hF⟩ := obind hF
      refine g_cut (nM := 4) [(0, .ref (ad 0)), (1, .int a1), (3, .int a3)] (σ) 40 [.int v13, .int a2] (fun ls hl => ?_) (fun J13 => ?_)
      · refine g_iadd X dX4_rankOf_40 ?_
        refine g_istore_n (lv' := [(2, _), (0, _), (1, _), (3, _)]) X dX4_rankOf_41 rfl hl (by decide) rfl (fun ls hl => ?_)
        refine g_iinc (v := a3 + 1) (lv' := [(3, _), (2, _), (0, _), (1, _)]) X dX4_rankOf_42 hl (k := 3) rfl rfl (by decide) rfl (fun ls hl => ?_)
        refine g_goto (tgt := 4) X dX4_rankOf_45 (by decide) ?_
        exact ih (a2 + v13) (a3 + 1) hF ls (lv_sub hl [2, 3, 1, 0] rfl)
      · refine g_icmp_eq (tgt := 39) X dX4_rankOf_13 (by decide) (fun hc13 => ?_) (fun hc13 => ?_)
        · have hR13 := ite_t hR13 hc13
          refine g_iconst (v := 0) X dX4_rankOf_39 (by decide) ?_
          have e13 := some_inj hR13
          subst e13
          exact J13 ls (lv_sub hl [0, 1, 3] rfl)
        · have hR13 := ite_f hR13 hc13
          refine g_aload_n X dX4_rankOf_16 rfl (lv_at hl 0 rfl) ?_
          refine g_iload_n X dX4_rankOf_17 rfl (lv_at hl 3 rfl) ?_
          obtain ⟨r18, hr18, hR13⟩ := obind hR13
          refine k_Vz X (As := [.int a3]) (rest := [.int a2]) (c_X4_has hI hr18) (cwV 1 X.ts gX4_rankOf_X4_has rfl rfl rfl (by decide +kernel) ⟨Nat.le_of_ble_eq_true rfl, Nat.le_of_ble_eq_true rfl⟩) ⟨0, 4, _, _, mo_obj, rfl, rfl⟩ rfl hl.1 rfl (Nat.le_of_ble_eq_true rfl) dX4_rankOf_18 (fun hz18 => ?_)
          refine g_if_eq (tgt := 39) X dX4_rankOf_21 (by decide) (fun hc21 => ?_) (fun hc21 => ?_)
          · have hR13 := ite_t hR13 hc21
            refine g_iconst (v := 0) X dX4_rankOf_39 (by decide) ?_
            have e13 := some_inj hR13
            subst e13
            exact J13 ls (lv_sub hl [0, 1, 3] rfl)
          · have hR13 := ite_f hR13 hc21
            refine g_aload_n X dX4_rankOf_24 rfl (lv_at hl 0 rfl) ?_
            refine g_iload_n X dX4_rankOf_25 rfl (lv_at hl 3 rfl) ?_
            refine g_iload_n X dX4_rankOf_26 rfl (lv_at hl 1 rfl) ?_
            refine g_lconst (v := 0) X dX4_rankOf_27 (by decide) ?_
            refine g_lconst (v := 1) X dX4_rankOf_28 (by decide) ?_
            obtain ⟨r29, hr29, hR13⟩ := obind hR13
            refine k_Vz X (As := [.int a3, .int a1, .long (0 : Int64), .long (1 : Int64)]) (rest := [.int a2]) (c_X4_isAhead hI hr29) (cwV 4 X.ts gX4_rankOf_X4_isAhead rfl rfl rfl (by decide +kernel) ⟨Nat.le_of_ble_eq_true rfl, Nat.le_of_ble_eq_true rfl⟩) ⟨0, 4, _, _, mo_obj, rfl, rfl⟩ rfl hl.1 rfl (Nat.le_of_ble_eq_true rfl) dX4_rankOf_29 (fun hz29 => ?_)
            refine g_if_eq (tgt := 39) X dX4_rankOf_32 (by decide) (fun hc32 => ?_) (fun hc32 => ?_)
            · have hR13 := ite_t hR13 hc32
              refine g_iconst (v := 0) X dX4_rankOf_39 (by decide) ?_
              have e13 := some_inj hR13
              subst e13
              exact J13 ls (lv_sub hl [0, 1, 3] rfl)
            · have hR13 := ite_f hR13 hc32
              refine g_iconst (v := 1) X dX4_rankOf_35 (by decide) ?_
              refine g_goto (tgt := 40) X dX4_rankOf_36 (by decide) ?_
              have e13 := some_inj hR13
              subst e13
              exact J13 ls (lv_sub hl [0, 1, 3] rfl)
def F_X4_rankOf (a1 : Int32) (σ : (Mem × Int64)) : Option Int32 := Option.bind (L_X4_rankOf_4 a1 σ FU (0 : Int32) (0 : Int32)) (fun v4 : Int32 => some v4)
set_option maxHeartbeats 4000000 in
set_option maxRecDepth 100000 in
theorem c_X4_rankOf {l : Launch} {D : va_G} {ay : Nat → ClassId} {ad : Nat → Nat} {a1 : Int32} {σ : (Mem × Int64)} {res : Int32} (hI : amOK ad) (hF : F_X4_rankOf a1 σ = some res) : Met l yX4_rankOf wsX4_rankOf ({ frames := 2, cells := 0, slots := 0, locals := 49 } : Room) (va_Pc [.ref (ad 0), .int a1] (PP D ay (wM ay ad σ))) (va_Qi (pP res σ) (fun τ => PP D ay (wM ay ad τ)) (AM ad)) 0 0 (AM ad) := by
  refine g_start (wd := wM ay ad) (A := AM ad) (own := RX4) (mL := 4) (rt := (some .int)) (by decide) rfl rfl (Nat.le_of_ble_eq_true rfl) ?_
  intro p e s m below meth c ls X hl
  have hl : lv_has ls 4 [(0, .ref (ad 0)), (1, .int a1)] := hl
  rw [F_X4_rankOf] at hF
  refine g_iconst (v := 0) X dX4_rankOf_0 (by decide) ?_
  refine g_istore_n (lv' := [(2, _), (0, _), (1, _)]) X dX4_rankOf_1 rfl hl (by decide) rfl (fun ls hl => ?_)
  refine g_iconst (v := 0) X dX4_rankOf_2 (by decide) ?_
  refine g_istore_n (lv' := [(3, _), (2, _), (0, _), (1, _)]) X dX4_rankOf_3 rfl hl (by decide) rfl (fun ls hl => ?_)
  obtain ⟨v4, hL4, hF⟩ := obind hF
  refine w_X4_rankOf_4 X hI (fun ls hl => ?_) FU (0 : Int32) (0 : Int32) hL4 ls (lv_sub hl [2, 3, 1, 0] rfl)
  refine g_iload_n X dX4_rankOf_48 rfl (lv_at hl 0 rfl) ?_
  exact g_iret X (pP_mk (some_inj hF)) dX4_rankOf_49
def L_X4_wins_4 (a1 : Int32) (σ : (Mem × Int64)) : Nat → Int32 → Int32 → Option Int32
  | 0, _, _ => none
  | fu + 1, a2, a3 => (if (15 : Int32) < a3 then some a2 else Option.bind (F_X4_winnerOf a3 σ) (fun r13 => (Option.bind (if ¬ r13 = a1 then some (0 : Int32) else some (1 : Int32)) (fun v17 : Int32 => L_X4_wins_4 a1 σ fu (a2 + v17) (a3 + 1)))))
set_option maxHeartbeats 4000000 in
set_option maxRecDepth 100000 in
theorem w_X4_wins_4 {D : va_G} {ay : Nat → ClassId} {ad : Nat → Nat} {p : Program} {l : Launch} {e : Env} {s : State} {m : MethodId} {args : Array Value} {below : List Frame} {meth : Method} {c : Code} {Q : State → Prop} {a1 : Int32} {σ : (Mem × Int64)} {res : Int32} (X : CX D ay p s m args meth c cX4_wins 4 RX4 (some .int) wsX4_wins) (hI : amOK ad) (K : ∀ ls : Array Slot, lv_has ls 4 [(2, .int res)] → GW D (wM ay ad) (AM ad) p l e ({ frames := 4, cells := 0, slots := 0, locals := 98 } : Room) s m args below meth c Q σ (F0 m 33 ls [])) : ∀ (fu : Nat) (a2 : Int32) (a3 : Int32), L_X4_wins_4 a1 σ fu a2 a3 = some res → ∀ ls : Array Slot, lv_has ls 4 [(0, .ref (ad 0)), (1, .int a1), (2, .int a2), (3, .int a3)] → GW D (wM ay ad) (AM ad) p l e ({ frames := 4, cells := 0, slots := 0, locals := 98 } : Room) s m args below meth c Q σ (F0 m 4 ls []) := by
  intro fu
  induction fu with
  | zero =>
    intro a2 a3 hF ls hl
    rw [L_X4_wins_4] at hF
    cases hF
  | succ fu ih =>
    intro a2 a3 hF ls hl
    rw [L_X4_wins_4] at hF
    refine g_iload_n X dX4_wins_4 rfl (lv_at hl 3 rfl) ?_
    refine g_bipush (v := 15) X dX4_wins_5 (by decide) ?_
    refine g_icmp_gt (tgt := 33) X dX4_wins_7 (by decide) (fun hc7 => ?_) (fun hc7 => ?_)
    · have hF := ite_t hF hc7
      have e4 := some_inj hF
      subst e4
      exact K ls (lv_sub hl [2] rfl)
    · have hF := ite_f hF hc7
      refine g_iload_n X dX4_wins_10 rfl (lv_at hl 2 rfl) ?_
      refine g_aload_n X dX4_wins_11 rfl (lv_at hl 0 rfl) ?_
      refine g_iload_n X dX4_wins_12 rfl (lv_at hl 3 rfl) ?_
      obtain ⟨r13, hr13, hF⟩ := obind hF
      refine k_Vi X (As := [.int a3]) (rest := [.int a2]) (c_X4_winnerOf hI hr13) (cwV 1 X.ts gX4_wins_X4_winnerOf rfl rfl rfl (by decide +kernel) ⟨Nat.le_of_ble_eq_true rfl, Nat.le_of_ble_eq_true rfl⟩) ⟨0, 4, _, _, mo_obj, rfl, rfl⟩ rfl hl.1 rfl (Nat.le_of_ble_eq_true rfl) dX4_wins_13 ?_
      refine g_iload_n X dX4_wins_16 rfl (lv_at hl 1 rfl) ?_
      obtain ⟨v17, hR17, hF⟩ := obind hF
      refine g_cut (nM := 4) [(0, .ref (ad 0)), (1, .int a1), (3, .int a3)] (σ) 25 [.int v17, .int a2] (fun ls hl => ?_) (fun J17 => ?_)
      · refine g_iadd X dX4_wins_25 ?_
        refine g_istore_n (lv' := [(2, _), (0, _), (1, _), (3, _)]) X dX4_wins_26 rfl hl (by decide) rfl (fun ls hl => ?_)
        refine g_iinc (v := a3 + 1) (lv' := [(3, _), (2, _), (0, _), (1, _)]) X dX4_wins_27 hl (k := 3) rfl rfl (by decide) rfl (fun ls hl => ?_)
        refine g_goto (tgt := 4) X dX4_wins_30 (by decide) ?_
        exact ih (a2 + v17) (a3 + 1) hF ls (lv_sub hl [2, 3, 1, 0] rfl)
      · refine g_icmp_ne (tgt := 24) X dX4_wins_17 (by decide) (fun hc17 => ?_) (fun hc17 => ?_)
        · have hR17 := ite_t hR17 hc17
          refine g_iconst (v := 0) X dX4_wins_24 (by decide) ?_
          have e17 := some_inj hR17
          subst e17
          exact J17 ls (lv_sub hl [0, 1, 3] rfl)
        · have hR17 := ite_n hR17 hc17
          refine g_iconst (v := 1) X dX4_wins_20 (by decide) ?_
          refine g_goto (tgt := 25) X dX4_wins_21 (by decide) ?_
          have e17 := some_inj hR17
          subst e17
          exact J17 ls (lv_sub hl [0, 1, 3] rfl)
def F_X4_wins (a1 : Int32) (σ : (Mem × Int64)) : Option Int32 := Option.bind (L_X4_wins_4 a1 σ FU (0 : Int32) (1 : Int32)) (fun v4 : Int32 => some v4)
set_option maxHeartbeats 4000000 in
set_option maxRecDepth 100000 in
theorem c_X4_wins {l : Launch} {D : va_G} {ay : Nat → ClassId} {ad : Nat → Nat} {a1 : Int32} {σ : (Mem × Int64)} {res : Int32} (hI : amOK ad) (hF : F_X4_wins a1 σ = some res) : Met l yX4_wins wsX4_wins ({ frames := 4, cells := 0, slots := 0, locals := 98 } : Room) (va_Pc [.ref (ad 0), .int a1] (PP D ay (wM ay ad σ))) (va_Qi (pP res σ) (fun τ => PP D ay (wM ay ad τ)) (AM ad)) 0 0 (AM ad) := by
  refine g_start (wd := wM ay ad) (A := AM ad) (own := RX4) (mL := 4) (rt := (some .int)) (by decide) rfl rfl (Nat.le_of_ble_eq_true rfl) ?_
  intro p e s m below meth c ls X hl
  have hl : lv_has ls 4 [(0, .ref (ad 0)), (1, .int a1)] := hl
  rw [F_X4_wins] at hF
  refine g_iconst (v := 0) X dX4_wins_0 (by decide) ?_
  refine g_istore_n (lv' := [(2, _), (0, _), (1, _)]) X dX4_wins_1 rfl hl (by decide) rfl (fun ls hl => ?_)
  refine g_iconst (v := 1) X dX4_wins_2 (by decide) ?_
  refine g_istore_n (lv' := [(3, _), (2, _), (0, _), (1, _)]) X dX4_wins_3 rfl hl (by decide) rfl (fun ls hl => ?_)
  obtain ⟨v4, hL4, hF⟩ := obind hF
  refine w_X4_wins_4 X hI (fun ls hl => ?_) FU (0 : Int32) (1 : Int32) hL4 ls (lv_sub hl [2, 3, 1, 0] rfl)
  refine g_iload_n X dX4_wins_33 rfl (lv_at hl 0 rfl) ?_
  exact g_iret X (pP_mk (some_inj hF)) dX4_wins_34
theorem in_X4_leadsAt_X4 : ∀ w ∈ wsX40, w ∈ wsX4_leadsAt := by decide +kernel
def F_X4_leadsAt (a1 : Int32) (a2 : Int32) (σ : (Mem × Int64)) : Option (Int32 × (Mem × Int64)) := Option.bind (F_X4_spanOf a1 σ) (fun r2 => (if ¬ r2.1 = (-1 : Int32) then if inb r2.1 16 then (if inb r2.1 16 then (Option.bind (F_X4_moment (r2.2.1 7 r2.1.toNatClampNeg) (r2.2.1 8 r2.1.toNatClampNeg) a2 r2.2) (fun r29 => some (r29, r2.2))) else none) else none else some ((0 : Int32), r2.2)))
set_option maxHeartbeats 4000000 in
set_option maxRecDepth 100000 in
theorem c_X4_leadsAt {l : Launch} {D : va_G} {ay : Nat → ClassId} {ad : Nat → Nat} {a1 : Int32} {a2 : Int32} {σ : (Mem × Int64)} {res : Int32 × (Mem × Int64)} (hI : amOK ad) (hF : F_X4_leadsAt a1 a2 σ = some res) : Met l yX4_leadsAt wsX4_leadsAt ({ frames := 6, cells := 0, slots := 0, locals := 140 } : Room) (va_Pc [.ref (ad 0), .int a1, .int a2] (PP D ay (wM ay ad σ))) (va_Qi (pE res) (fun τ => PP D ay (wM ay ad τ)) (AM ad)) 0 0 (AM ad) := by
  refine g_start (wd := wM ay ad) (A := AM ad) (own := RX4) (mL := 4) (rt := (some .int)) (by decide) rfl rfl (Nat.le_of_ble_eq_true rfl) ?_
  intro p e s m below meth c ls X hl
  have hl : lv_has ls 4 [(0, .ref (ad 0)), (1, .int a1), (2, .int a2)] := hl
  rw [F_X4_leadsAt] at hF
  refine g_aload_n X dX4_leadsAt_0 rfl (lv_at hl 0 rfl) ?_
  refine g_iload_n X dX4_leadsAt_1 rfl (lv_at hl 1 rfl) ?_
  obtain ⟨r2, hr2, hF⟩ := obind hF
  refine k_Vie X (As := [.int a1]) (rest := []) (c_X4_spanOf hI hr2) (cwV 1 X.ts gX4_leadsAt_X4_spanOf rfl rfl rfl (by decide +kernel) ⟨Nat.le_of_ble_eq_true rfl, Nat.le_of_ble_eq_true rfl⟩) ⟨0, 4, _, _, mo_obj, rfl, rfl⟩ rfl hl.1 rfl (Nat.le_of_ble_eq_true rfl) dX4_leadsAt_2 ?_
  refine g_istore_n (lv' := [(3, _), (0, _), (1, _), (2, _)]) X dX4_leadsAt_5 rfl hl (by decide) rfl (fun ls hl => ?_)
  refine g_iload_n X dX4_leadsAt_6 rfl (lv_at hl 0 rfl) ?_
  refine g_iconst (v := -1) X dX4_leadsAt_7 (by decide) ?_
  refine g_icmp_ne (tgt := 15) X dX4_leadsAt_8 (by decide) (fun hc8 => ?_) (fun hc8 => ?_)
  · have hF := ite_t hF hc8
    refine g_aload_n X dX4_leadsAt_15 rfl (lv_at hl 1 rfl) ?_
    refine g_aload_n X dX4_leadsAt_16 rfl (lv_at hl 1 rfl) ?_
    refine g_get X 0 (mo_obj) in_X4_leadsAt_X4 rfl 18 (by decide) (X.ts (.fieldLink RX4 28 "LeadTimesModel" "spanA" "[I") (by decide +kernel)) rfl rfl dX4_leadsAt_17 ?_
    refine g_iload_n X dX4_leadsAt_20 rfl (lv_at hl 0 rfl) ?_
    obtain ⟨h21, hF⟩ := itn hF
    refine g_iald X 7 (j := r2.1.toNatClampNeg) (mo_arr7) (by first | rfl | decide) (inb_in h21) dX4_leadsAt_21 ?_
    refine g_aload_n X dX4_leadsAt_22 rfl (lv_at hl 1 rfl) ?_
    refine g_get X 0 (mo_obj) in_X4_leadsAt_X4 rfl 19 (by decide) (X.ts (.fieldLink RX4 31 "LeadTimesModel" "spanB" "[I") (by decide +kernel)) rfl rfl dX4_leadsAt_23 ?_
    refine g_iload_n X dX4_leadsAt_26 rfl (lv_at hl 0 rfl) ?_
    obtain ⟨h27, hF⟩ := itn hF
    refine g_iald X 8 (j := r2.1.toNatClampNeg) (mo_arr8) (by first | rfl | decide) (inb_in h27) dX4_leadsAt_27 ?_
    refine g_iload_n X dX4_leadsAt_28 rfl (lv_at hl 3 rfl) ?_
    obtain ⟨r29, hr29, hF⟩ := obind hF
    refine k_Vi X (As := [.int (r2.2.1 7 r2.1.toNatClampNeg), .int (r2.2.1 8 r2.1.toNatClampNeg), .int a2]) (rest := []) (c_X4_moment hI hr29) (cwV 3 X.ts gX4_leadsAt_X4_moment rfl rfl rfl (by decide +kernel) ⟨Nat.le_of_ble_eq_true rfl, Nat.le_of_ble_eq_true rfl⟩) ⟨0, 4, _, _, mo_obj, rfl, rfl⟩ rfl hl.1 rfl (Nat.le_of_ble_eq_true rfl) dX4_leadsAt_29 ?_
    exact g_iret X (pE_mk (some_inj hF)) dX4_leadsAt_32
  · have hF := ite_n hF hc8
    refine g_iconst (v := 0) X dX4_leadsAt_11 (by decide) ?_
    refine g_goto (tgt := 32) X dX4_leadsAt_12 (by decide) ?_
    exact g_iret X (pE_mk (some_inj hF)) dX4_leadsAt_32
theorem in_X4_moverOf_X4 : ∀ w ∈ wsX40, w ∈ wsX4_moverOf := by decide +kernel
def F_X4_moverOf (a1 : Int32) (a2 : Int32) (σ : (Mem × Int64)) : Option (Int32 × (Mem × Int64)) := (if a2 = 0 then Option.bind (F_X4_at a1) (fun r49 => if inb ((r49 + (1 : Int32)) + a2) 84 then (some (σ.1 1 (((r49 + (1 : Int32)) + a2).toNatClampNeg), σ)) else none) else (if a2 = 1 then Option.bind (F_X4_at a1) (fun r49 => if inb ((r49 + (1 : Int32)) + a2) 84 then (some (σ.1 1 (((r49 + (1 : Int32)) + a2).toNatClampNeg), σ)) else none) else (if a2 = 2 then Option.bind (F_X4_rankOf a1 σ) (fun r60 => some (r60, σ)) else (if a2 = 3 then Option.bind (F_X4_wins a1 σ) (fun r66 => some (r66, σ)) else (if a2 = 4 then Option.bind (F_X4_leadsAt a1 (a2 - (4 : Int32)) σ) (fun r87 => some (r87.1, r87.2)) else (if a2 = 5 then Option.bind (F_X4_leadsAt a1 (a2 - (4 : Int32)) σ) (fun r87 => some (r87.1, r87.2)) else (if a2 = 6 then Option.bind (F_X4_at a1) (fun r75 => if inb (r75 + (3 : Int32)) 84 then (some (σ.1 1 ((r75 + (3 : Int32)).toNatClampNeg), σ)) else none) else Option.bind (F_X4_leadsAt a1 (a2 - (4 : Int32)) σ) (fun r87 => some (r87.1, r87.2)))))))))
set_option maxHeartbeats 4000000 in
set_option maxRecDepth 100000 in
theorem c_X4_moverOf {l : Launch} {D : va_G} {ay : Nat → ClassId} {ad : Nat → Nat} {a1 : Int32} {a2 : Int32} {σ : (Mem × Int64)} {res : Int32 × (Mem × Int64)} (hI : amOK ad) (hF : F_X4_moverOf a1 a2 σ = some res) : Met l yX4_moverOf wsX4_moverOf ({ frames := 7, cells := 0, slots := 0, locals := 163 } : Room) (va_Pc [.ref (ad 0), .int a1, .int a2] (PP D ay (wM ay ad σ))) (va_Qi (pE res) (fun τ => PP D ay (wM ay ad τ)) (AM ad)) 0 0 (AM ad) := by
  refine g_start (wd := wM ay ad) (A := AM ad) (own := RX4) (mL := 3) (rt := (some .int)) (by decide) rfl rfl (Nat.le_of_ble_eq_true rfl) ?_
  intro p e s m below meth c ls X hl
  have hl : lv_has ls 3 [(0, .ref (ad 0)), (1, .int a1), (2, .int a2)] := hl
  rw [F_X4_moverOf] at hF
  refine g_iload_n X dX4_moverOf_0 rfl (lv_at hl 2 rfl) ?_
  by_cases hc1_0 : a2 = 0
  · have hF := ite_t hF hc1_0
    refine g_tableIn (tgt := 44) X dX4_moverOf_1 (by rw [hc1_0]; decide) (by rw [hc1_0]; decide) (by rw [hc1_0]; rfl) (by decide) ?_
    refine g_aload_n X dX4_moverOf_44 rfl (lv_at hl 0 rfl) ?_
    refine g_get X 0 (mo_obj) in_X4_moverOf_X4 rfl 0 (by decide) (X.ts (.fieldLink RX4 7 "LeadTimesModel" "z" "[I") (by decide +kernel)) rfl rfl dX4_moverOf_45 ?_
    refine g_iload_n X dX4_moverOf_48 rfl (lv_at hl 1 rfl) ?_
    obtain ⟨r49, hr49, hF⟩ := obind hF
    refine k_Si X (As := [.int a1]) (rest := [.ref (ad 1)]) (c_X4_at hI hr49) (va_cwS 1 X.ts gX4_moverOf_X4_at rfl rfl rfl (by decide +kernel) ⟨Nat.le_of_ble_eq_true rfl, Nat.le_of_ble_eq_true rfl⟩) rfl hl.1 rfl (Nat.le_of_ble_eq_true rfl) dX4_moverOf_49 ?_
    refine g_iconst (v := 1) X dX4_moverOf_52 (by decide) ?_
    refine g_iadd X dX4_moverOf_53 ?_
    refine g_iload_n X dX4_moverOf_54 rfl (lv_at hl 2 rfl) ?_
    refine g_iadd X dX4_moverOf_55 ?_
    obtain ⟨h56, hF⟩ := itn hF
    refine g_iald X 1 (j := ((r49 + (1 : Int32)) + a2).toNatClampNeg) (mo_arr1) (by first | rfl | decide) (inb_in h56) dX4_moverOf_56 ?_
    exact g_iret X (pE_mk (some_inj hF)) dX4_moverOf_57
  have hF := ite_f hF hc1_0
  by_cases hc1_1 : a2 = 1
  · have hF := ite_t hF hc1_1
    refine g_tableIn (tgt := 44) X dX4_moverOf_1 (by rw [hc1_1]; decide) (by rw [hc1_1]; decide) (by rw [hc1_1]; rfl) (by decide) ?_
    refine g_aload_n X dX4_moverOf_44 rfl (lv_at hl 0 rfl) ?_
    refine g_get X 0 (mo_obj) in_X4_moverOf_X4 rfl 0 (by decide) (X.ts (.fieldLink RX4 7 "LeadTimesModel" "z" "[I") (by decide +kernel)) rfl rfl dX4_moverOf_45 ?_
    refine g_iload_n X dX4_moverOf_48 rfl (lv_at hl 1 rfl) ?_
    obtain ⟨r49, hr49, hF⟩ := obind hF
    refine k_Si X (As := [.int a1]) (rest := [.ref (ad 1)]) (c_X4_at hI hr49) (va_cwS 1 X.ts gX4_moverOf_X4_at rfl rfl rfl (by decide +kernel) ⟨Nat.le_of_ble_eq_true rfl, Nat.le_of_ble_eq_true rfl⟩) rfl hl.1 rfl (Nat.le_of_ble_eq_true rfl) dX4_moverOf_49 ?_
    refine g_iconst (v := 1) X dX4_moverOf_52 (by decide) ?_
    refine g_iadd X dX4_moverOf_53 ?_
    refine g_iload_n X dX4_moverOf_54 rfl (lv_at hl 2 rfl) ?_
    refine g_iadd X dX4_moverOf_55 ?_
    obtain ⟨h56, hF⟩ := itn hF
    refine g_iald X 1 (j := ((r49 + (1 : Int32)) + a2).toNatClampNeg) (mo_arr1) (by first | rfl | decide) (inb_in h56) dX4_moverOf_56 ?_
    exact g_iret X (pE_mk (some_inj hF)) dX4_moverOf_57
  have hF := ite_f hF hc1_1
  by_cases hc1_2 : a2 = 2
  · have hF := ite_t hF hc1_2
    refine g_tableIn (tgt := 58) X dX4_moverOf_1 (by rw [hc1_2]; decide) (by rw [hc1_2]; decide) (by rw [hc1_2]; rfl) (by decide) ?_
    refine g_aload_n X dX4_moverOf_58 rfl (lv_at hl 0 rfl) ?_
    refine g_iload_n X dX4_moverOf_59 rfl (lv_at hl 1 rfl) ?_
    obtain ⟨r60, hr60, hF⟩ := obind hF
    refine k_Vi X (As := [.int a1]) (rest := []) (c_X4_rankOf hI hr60) (cwV 1 X.ts gX4_moverOf_X4_rankOf rfl rfl rfl (by decide +kernel) ⟨Nat.le_of_ble_eq_true rfl, Nat.le_of_ble_eq_true rfl⟩) ⟨0, 4, _, _, mo_obj, rfl, rfl⟩ rfl hl.1 rfl (Nat.le_of_ble_eq_true rfl) dX4_moverOf_60 ?_
    exact g_iret X (pE_mk (some_inj hF)) dX4_moverOf_63
  have hF := ite_f hF hc1_2
  by_cases hc1_3 : a2 = 3
  · have hF := ite_t hF hc1_3
    refine g_tableIn (tgt := 64) X dX4_moverOf_1 (by rw [hc1_3]; decide) (by rw [hc1_3]; decide) (by rw [hc1_3]; rfl) (by decide) ?_
    refine g_aload_n X dX4_moverOf_64 rfl (lv_at hl 0 rfl) ?_
    refine g_iload_n X dX4_moverOf_65 rfl (lv_at hl 1 rfl) ?_
    obtain ⟨r66, hr66, hF⟩ := obind hF
    refine k_Vi X (As := [.int a1]) (rest := []) (c_X4_wins hI hr66) (cwV 1 X.ts gX4_moverOf_X4_wins rfl rfl rfl (by decide +kernel) ⟨Nat.le_of_ble_eq_true rfl, Nat.le_of_ble_eq_true rfl⟩) ⟨0, 4, _, _, mo_obj, rfl, rfl⟩ rfl hl.1 rfl (Nat.le_of_ble_eq_true rfl) dX4_moverOf_66 ?_
    exact g_iret X (pE_mk (some_inj hF)) dX4_moverOf_69
  have hF := ite_f hF hc1_3
  by_cases hc1_4 : a2 = 4
  · have hF := ite_t hF hc1_4
    refine g_tableIn (tgt := 82) X dX4_moverOf_1 (by rw [hc1_4]; decide) (by rw [hc1_4]; decide) (by rw [hc1_4]; rfl) (by decide) ?_
    refine g_aload_n X dX4_moverOf_82 rfl (lv_at hl 0 rfl) ?_
    refine g_iload_n X dX4_moverOf_83 rfl (lv_at hl 1 rfl) ?_
    refine g_iload_n X dX4_moverOf_84 rfl (lv_at hl 2 rfl) ?_
    refine g_iconst (v := 4) X dX4_moverOf_85 (by decide) ?_
    refine g_isub X dX4_moverOf_86 ?_
    obtain ⟨r87, hr87, hF⟩ := obind hF
    refine k_Vie X (As := [.int a1, .int (a2 - (4 : Int32))]) (rest := []) (c_X4_leadsAt hI hr87) (cwV 2 X.ts gX4_moverOf_X4_leadsAt rfl rfl rfl (by decide +kernel) ⟨Nat.le_of_ble_eq_true rfl, Nat.le_of_ble_eq_true rfl⟩) ⟨0, 4, _, _, mo_obj, rfl, rfl⟩ rfl hl.1 rfl (Nat.le_of_ble_eq_true rfl) dX4_moverOf_87 ?_
    exact g_iret X (pE_mk (some_inj hF)) dX4_moverOf_90
  have hF := ite_f hF hc1_4
  by_cases hc1_5 : a2 = 5
  · have hF := ite_t hF hc1_5
    refine g_tableIn (tgt := 82) X dX4_moverOf_1 (by rw [hc1_5]; decide) (by rw [hc1_5]; decide) (by rw [hc1_5]; rfl) (by decide) ?_
    refine g_aload_n X dX4_moverOf_82 rfl (lv_at hl 0 rfl) ?_
    refine g_iload_n X dX4_moverOf_83 rfl (lv_at hl 1 rfl) ?_
    refine g_iload_n X dX4_moverOf_84 rfl (lv_at hl 2 rfl) ?_
    refine g_iconst (v := 4) X dX4_moverOf_85 (by decide) ?_
    refine g_isub X dX4_moverOf_86 ?_
    obtain ⟨r87, hr87, hF⟩ := obind hF
    refine k_Vie X (As := [.int a1, .int (a2 - (4 : Int32))]) (rest := []) (c_X4_leadsAt hI hr87) (cwV 2 X.ts gX4_moverOf_X4_leadsAt rfl rfl rfl (by decide +kernel) ⟨Nat.le_of_ble_eq_true rfl, Nat.le_of_ble_eq_true rfl⟩) ⟨0, 4, _, _, mo_obj, rfl, rfl⟩ rfl hl.1 rfl (Nat.le_of_ble_eq_true rfl) dX4_moverOf_87 ?_
    exact g_iret X (pE_mk (some_inj hF)) dX4_moverOf_90
  have hF := ite_f hF hc1_5
  by_cases hc1_6 : a2 = 6
  · have hF := ite_t hF hc1_6
    refine g_tableIn (tgt := 70) X dX4_moverOf_1 (by rw [hc1_6]; decide) (by rw [hc1_6]; decide) (by rw [hc1_6]; rfl) (by decide) ?_
    refine g_aload_n X dX4_moverOf_70 rfl (lv_at hl 0 rfl) ?_
    refine g_get X 0 (mo_obj) in_X4_moverOf_X4 rfl 0 (by decide) (X.ts (.fieldLink RX4 7 "LeadTimesModel" "z" "[I") (by decide +kernel)) rfl rfl dX4_moverOf_71 ?_
    refine g_iload_n X dX4_moverOf_74 rfl (lv_at hl 1 rfl) ?_
    obtain ⟨r75, hr75, hF⟩ := obind hF
    refine k_Si X (As := [.int a1]) (rest := [.ref (ad 1)]) (c_X4_at hI hr75) (va_cwS 1 X.ts gX4_moverOf_X4_at rfl rfl rfl (by decide +kernel) ⟨Nat.le_of_ble_eq_true rfl, Nat.le_of_ble_eq_true rfl⟩) rfl hl.1 rfl (Nat.le_of_ble_eq_true rfl) dX4_moverOf_75 ?_
    refine g_iconst (v := 3) X dX4_moverOf_78 (by decide) ?_
    refine g_iadd X dX4_moverOf_79 ?_
    obtain ⟨h80, hF⟩ := itn hF
    refine g_iald X 1 (j := (r75 + (3 : Int32)).toNatClampNeg) (mo_arr1) (by first | rfl | decide) (inb_in h80) dX4_moverOf_80 ?_
    exact g_iret X (pE_mk (some_inj hF)) dX4_moverOf_81
  have hF := ite_f hF hc1_6
  refine g_tableOut (tgt := 82) X dX4_moverOf_1 (tb_out6 hc1_0 hc1_1 hc1_2 hc1_3 hc1_4 hc1_5 hc1_6) (by decide) ?_
  refine g_aload_n X dX4_moverOf_82 rfl (lv_at hl 0 rfl) ?_
  refine g_iload_n X dX4_moverOf_83 rfl (lv_at hl 1 rfl) ?_
  refine g_iload_n X dX4_moverOf_84 rfl (lv_at hl 2 rfl) ?_
  refine g_iconst (v := 4) X dX4_moverOf_85 (by decide) ?_
  refine g_isub X dX4_moverOf_86 ?_
  obtain ⟨r87, hr87, hF⟩ := obind hF
  refine k_Vie X (As := [.int a1, .int (a2 - (4 : Int32))]) (rest := []) (c_X4_leadsAt hI hr87) (cwV 2 X.ts gX4_moverOf_X4_leadsAt rfl rfl rfl (by decide +kernel) ⟨Nat.le_of_ble_eq_true rfl, Nat.le_of_ble_eq_true rfl⟩) ⟨0, 4, _, _, mo_obj, rfl, rfl⟩ rfl hl.1 rfl (Nat.le_of_ble_eq_true rfl) dX4_moverOf_87 ?_
  exact g_iret X (pE_mk (some_inj hF)) dX4_moverOf_90
theorem in_X4_mover_X4 : ∀ w ∈ wsX40, w ∈ wsX4_mover := by decide +kernel
def F_X4_mover (a1 : Int32) (a2 : Int32) (σ : (Mem × Int64)) : Option (Int32 × (Mem × Int64)) := Option.bind (F_X4_isMover a1 (up2 σ.1 0 5 (0 : Int32), σ.2)) (fun r7 => (if ¬ r7 = 0 then Option.bind (F_X4_in a2 (0 : Int32) (6 : Int32)) (fun r23 => (if r23 = 0 then Option.bind (F_X4_fails (2 : Int32) (up2 σ.1 0 5 (0 : Int32), σ.2)) (fun r40 => some (r40.1, r40.2)) else Option.bind (F_X4_moverOf a1 a2 (up2 σ.1 0 5 (0 : Int32), σ.2)) (fun r32 => some (r32.1, r32.2)))) else Option.bind (F_X4_fails (1 : Int32) (up2 σ.1 0 5 (0 : Int32), σ.2)) (fun r15 => some (r15.1, r15.2))))
set_option maxHeartbeats 4000000 in
set_option maxRecDepth 100000 in
theorem c_X4_mover {l : Launch} {D : va_G} {ay : Nat → ClassId} {ad : Nat → Nat} {a1 : Int32} {a2 : Int32} {σ : (Mem × Int64)} {res : Int32 × (Mem × Int64)} (hI : amOK ad) (hF : F_X4_mover a1 a2 σ = some res) : Met l yX4_mover wsX4_mover ({ frames := 8, cells := 0, slots := 0, locals := 185 } : Room) (va_Pc [.ref (ad 0), .int a1, .int a2] (PP D ay (wM ay ad σ))) (va_Qi (pE res) (fun τ => PP D ay (wM ay ad τ)) (AM ad)) 0 0 (AM ad) := by
  refine g_start (wd := wM ay ad) (A := AM ad) (own := RX4) (mL := 3) (rt := (some .int)) (by decide) rfl rfl (Nat.le_of_ble_eq_true rfl) ?_
  intro p e s m below meth c ls X hl
  have hl : lv_has ls 3 [(0, .ref (ad 0)), (1, .int a1), (2, .int a2)] := hl
  rw [F_X4_mover] at hF
  refine g_aload_n X dX4_mover_0 rfl (lv_at hl 0 rfl) ?_
  refine g_iconst (v := 0) X dX4_mover_1 (by decide) ?_
  refine g_put X (wM_D hI) ((up2 σ.1 0 5 (0 : Int32), σ.2)) 0 (mo_obj) 5 (set_mo5) tyX4 tyX4_ok nmX4 in_X4_mover_X4 rfl (by decide) (X.ts (.fieldLink RX4 34 "LeadTimesModel" "thrown" "I") (by decide +kernel)) rfl rfl rfl rfl rfl (Nat.le_of_ble_eq_true rfl) dX4_mover_2 ?_
  refine g_aload_n X dX4_mover_5 rfl (lv_at hl 0 rfl) ?_
  refine g_iload_n X dX4_mover_6 rfl (lv_at hl 1 rfl) ?_
  obtain ⟨r7, hr7, hF⟩ := obind hF
  refine k_Vz X (As := [.int a1]) (rest := []) (c_X4_isMover hI hr7) (cwV 1 X.ts gX4_mover_X4_isMover rfl rfl rfl (by decide +kernel) ⟨Nat.le_of_ble_eq_true rfl, Nat.le_of_ble_eq_true rfl⟩) ⟨0, 4, _, _, mo_obj, rfl, rfl⟩ rfl hl.1 rfl (Nat.le_of_ble_eq_true rfl) dX4_mover_7 (fun hz7 => ?_)
  refine g_if_ne (tgt := 19) X dX4_mover_10 (by decide) (fun hc10 => ?_) (fun hc10 => ?_)
  · have hF := ite_t hF hc10
    refine g_iload_n X dX4_mover_19 rfl (lv_at hl 2 rfl) ?_
    refine g_iconst (v := 0) X dX4_mover_20 (by decide) ?_
    refine g_bipush (v := 6) X dX4_mover_21 (by decide) ?_
    obtain ⟨r23, hr23, hF⟩ := obind hF
    refine k_Sz X (As := [.int a2, .int (0 : Int32), .int (6 : Int32)]) (rest := []) (c_X4_in hI hr23) (va_cwS 3 X.ts gX4_mover_X4_in rfl rfl rfl (by decide +kernel) ⟨Nat.le_of_ble_eq_true rfl, Nat.le_of_ble_eq_true rfl⟩) rfl hl.1 rfl (Nat.le_of_ble_eq_true rfl) dX4_mover_23 (fun hz23 => ?_)
    refine g_if_eq (tgt := 38) X dX4_mover_26 (by decide) (fun hc26 => ?_) (fun hc26 => ?_)
    · have hF := ite_t hF hc26
      refine g_aload_n X dX4_mover_38 rfl (lv_at hl 0 rfl) ?_
      refine g_iconst (v := 2) X dX4_mover_39 (by decide) ?_
      obtain ⟨r40, hr40, hF⟩ := obind hF
      refine k_Vie X (As := [.int (2 : Int32)]) (rest := []) (c_X4_fails hI hr40) (cwV 1 X.ts gX4_mover_X4_fails rfl rfl rfl (by decide +kernel) ⟨Nat.le_of_ble_eq_true rfl, Nat.le_of_ble_eq_true rfl⟩) ⟨0, 4, _, _, mo_obj, rfl, rfl⟩ rfl hl.1 rfl (Nat.le_of_ble_eq_true rfl) dX4_mover_40 ?_
      exact g_iret X (pE_mk (some_inj hF)) dX4_mover_43
    · have hF := ite_f hF hc26
      refine g_aload_n X dX4_mover_29 rfl (lv_at hl 0 rfl) ?_
      refine g_iload_n X dX4_mover_30 rfl (lv_at hl 1 rfl) ?_
      refine g_iload_n X dX4_mover_31 rfl (lv_at hl 2 rfl) ?_
      obtain ⟨r32, hr32, hF⟩ := obind hF
      refine k_Vie X (As := [.int a1, .int a2]) (rest := []) (c_X4_moverOf hI hr32) (cwV 2 X.ts gX4_mover_X4_moverOf rfl rfl rfl (by decide +kernel) ⟨Nat.le_of_ble_eq_true rfl, Nat.le_of_ble_eq_true rfl⟩) ⟨0, 4, _, _, mo_obj, rfl, rfl⟩ rfl hl.1 rfl (Nat.le_of_ble_eq_true rfl) dX4_mover_32 ?_
      refine g_goto (tgt := 43) X dX4_mover_35 (by decide) ?_
      exact g_iret X (pE_mk (some_inj hF)) dX4_mover_43
  · have hF := ite_n hF hc10
    refine g_aload_n X dX4_mover_13 rfl (lv_at hl 0 rfl) ?_
    refine g_iconst (v := 1) X dX4_mover_14 (by decide) ?_
    obtain ⟨r15, hr15, hF⟩ := obind hF
    refine k_Vie X (As := [.int (1 : Int32)]) (rest := []) (c_X4_fails hI hr15) (cwV 1 X.ts gX4_mover_X4_fails rfl rfl rfl (by decide +kernel) ⟨Nat.le_of_ble_eq_true rfl, Nat.le_of_ble_eq_true rfl⟩) ⟨0, 4, _, _, mo_obj, rfl, rfl⟩ rfl hl.1 rfl (Nat.le_of_ble_eq_true rfl) dX4_mover_15 ?_
    exact g_iret X (pE_mk (some_inj hF)) dX4_mover_18
def F_X4_loserOf (a1 : Int32) (σ : (Mem × Int64)) : Option Int32 := Option.bind (F_X4_winnerOf a1 σ) (fun r2 => (Option.bind (if a1 ≤ (7 : Int32) then Option.bind (F_X4_winnerOf ((2 : Int32) * a1) σ) (fun r23 => some r23) else Option.bind (F_X4_firstOf a1) (fun r13 => some r13)) (fun v9 : Int32 => (Option.bind (if a1 ≤ (7 : Int32) then Option.bind (F_X4_winnerOf (((2 : Int32) * a1) + (1 : Int32)) σ) (fun r48 => some r48) else Option.bind (F_X4_firstOf a1) (fun r34 => some (r34 + (1 : Int32)))) (fun v30 : Int32 => (if ¬ r2 = (-1 : Int32) then (Option.bind (if ¬ r2 = v9 then some v9 else some v30) (fun v62 : Int32 => (if v62 = (-1 : Int32) then some (-1 : Int32) else Option.bind (F_X4_has v62 σ) (fun r82 => (if r82 = 0 then some (-1 : Int32) else some v62))))) else some (-1 : Int32)))))))
set_option maxHeartbeats 4000000 in
set_option maxRecDepth 100000 in
theorem c_X4_loserOf {l : Launch} {D : va_G} {ay : Nat → ClassId} {ad : Nat → Nat} {a1 : Int32} {σ : (Mem × Int64)} {res : Int32} (hI : amOK ad) (hF : F_X4_loserOf a1 σ = some res) : Met l yX4_loserOf wsX4_loserOf ({ frames := 4, cells := 0, slots := 0, locals := 98 } : Room) (va_Pc [.ref (ad 0), .int a1] (PP D ay (wM ay ad σ))) (va_Qi (pP res σ) (fun τ => PP D ay (wM ay ad τ)) (AM ad)) 0 0 (AM ad) := by
  refine g_start (wd := wM ay ad) (A := AM ad) (own := RX4) (mL := 6) (rt := (some .int)) (by decide) rfl rfl (Nat.le_of_ble_eq_true rfl) ?_
  intro p e s m below meth c ls X hl
  have hl : lv_has ls 6 [(0, .ref (ad 0)), (1, .int a1)] := hl
  rw [F_X4_loserOf] at hF
  refine g_aload_n X dX4_loserOf_0 rfl (lv_at hl 0 rfl) ?_
  refine g_iload_n X dX4_loserOf_1 rfl (lv_at hl 1 rfl) ?_
  obtain ⟨r2, hr2, hF⟩ := obind hF
  refine k_Vi X (As := [.int a1]) (rest := []) (c_X4_winnerOf hI hr2) (cwV 1 X.ts gX4_loserOf_X4_winnerOf rfl rfl rfl (by decide +kernel) ⟨Nat.le_of_ble_eq_true rfl, Nat.le_of_ble_eq_true rfl⟩) ⟨0, 4, _, _, mo_obj, rfl, rfl⟩ rfl hl.1 rfl (Nat.le_of_ble_eq_true rfl) dX4_loserOf_2 ?_
  refine g_istore_n (lv' := [(2, _), (0, _), (1, _)]) X dX4_loserOf_5 rfl hl (by decide) rfl (fun ls hl => ?_)
  refine g_iload_n X dX4_loserOf_6 rfl (lv_at hl 2 rfl) ?_
  refine g_bipush (v := 7) X dX4_loserOf_7 (by decide) ?_
  obtain ⟨v9, hR9, hF⟩ := obind hF
  refine g_cut (nM := 6) [(0, .ref (ad 0)), (1, .int a1), (2, .int r2)] (σ) 26 [.int v9] (fun ls hl => ?_) (fun J9 => ?_)
  · refine g_istore_n (lv' := [(3, _), (0, _), (1, _), (2, _)]) X dX4_loserOf_26 rfl hl (by decide) rfl (fun ls hl => ?_)
    refine g_iload_n X dX4_loserOf_27 rfl (lv_at hl 2 rfl) ?_
    refine g_bipush (v := 7) X dX4_loserOf_28 (by decide) ?_
    obtain ⟨v30, hR30, hF⟩ := obind hF
    refine g_cut (nM := 6) [(0, .ref (ad 0)), (2, .int r2), (3, .int v9)] (σ) 51 [.int v30] (fun ls hl => ?_) (fun J30 => ?_)
    · refine g_istore (lv' := [(4, _), (0, _), (2, _), (3, _)]) X dX4_loserOf_51 hl (by decide) rfl (fun ls hl => ?_)
      refine g_iload_n X dX4_loserOf_53 rfl (lv_at hl 2 rfl) ?_
      refine g_iconst (v := -1) X dX4_loserOf_54 (by decide) ?_
      refine g_icmp_ne (tgt := 60) X dX4_loserOf_55 (by decide) (fun hc55 => ?_) (fun hc55 => ?_)
      · have hF := ite_t hF hc55
        refine g_iload_n X dX4_loserOf_60 rfl (lv_at hl 2 rfl) ?_
        refine g_iload_n X dX4_loserOf_61 rfl (lv_at hl 3 rfl) ?_
        obtain ⟨v62, hR62, hF⟩ := obind hF
        refine g_cut (nM := 6) [(0, .ref (ad 0))] (σ) 71 [.int v62] (fun ls hl => ?_) (fun J62 => ?_)
        · refine g_istore (lv' := [(5, _), (0, _)]) X dX4_loserOf_71 hl (by decide) rfl (fun ls hl => ?_)
          refine g_iload X dX4_loserOf_73 (lv_at hl 0 rfl) ?_
          refine g_iconst (v := -1) X dX4_loserOf_75 (by decide) ?_
          refine g_icmp_eq (tgt := 93) X dX4_loserOf_76 (by decide) (fun hc76 => ?_) (fun hc76 => ?_)
          · have hF := ite_t hF hc76
            refine g_iconst (v := -1) X dX4_loserOf_93 (by decide) ?_
            exact g_iret X (pP_mk (some_inj hF)) dX4_loserOf_94
          · have hF := ite_f hF hc76
            refine g_aload_n X dX4_loserOf_79 rfl (lv_at hl 1 rfl) ?_
            refine g_iload X dX4_loserOf_80 (lv_at hl 0 rfl) ?_
            obtain ⟨r82, hr82, hF⟩ := obind hF
            refine k_Vz X (As := [.int v62]) (rest := []) (c_X4_has hI hr82) (cwV 1 X.ts gX4_loserOf_X4_has rfl rfl rfl (by decide +kernel) ⟨Nat.le_of_ble_eq_true rfl, Nat.le_of_ble_eq_true rfl⟩) ⟨0, 4, _, _, mo_obj, rfl, rfl⟩ rfl hl.1 rfl (Nat.le_of_ble_eq_true rfl) dX4_loserOf_82 (fun hz82 => ?_)
            refine g_if_eq (tgt := 93) X dX4_loserOf_85 (by decide) (fun hc85 => ?_) (fun hc85 => ?_)
            · have hF := ite_t hF hc85
              refine g_iconst (v := -1) X dX4_loserOf_93 (by decide) ?_
              exact g_iret X (pP_mk (some_inj hF)) dX4_loserOf_94
            · have hF := ite_f hF hc85
              refine g_iload X dX4_loserOf_88 (lv_at hl 0 rfl) ?_
              refine g_goto (tgt := 94) X dX4_loserOf_90 (by decide) ?_
              exact g_iret X (pP_mk (some_inj hF)) dX4_loserOf_94
        · refine g_icmp_ne (tgt := 70) X dX4_loserOf_62 (by decide) (fun hc62 => ?_) (fun hc62 => ?_)
          · have hR62 := ite_t hR62 hc62
            refine g_iload_n X dX4_loserOf_70 rfl (lv_at hl 3 rfl) ?_
            have e62 := some_inj hR62
            subst e62
            exact J62 ls (lv_sub hl [1] rfl)
          · have hR62 := ite_n hR62 hc62
            refine g_iload X dX4_loserOf_65 (lv_at hl 0 rfl) ?_
            refine g_goto (tgt := 71) X dX4_loserOf_67 (by decide) ?_
            have e62 := some_inj hR62
            subst e62
            exact J62 ls (lv_sub hl [1] rfl)
      · have hF := ite_n hF hc55
        refine g_iconst (v := -1) X dX4_loserOf_58 (by decide) ?_
        exact g_iret X (pP_mk (some_inj hF)) dX4_loserOf_59
    · refine g_icmp_le (tgt := 42) X dX4_loserOf_30 (by decide) (fun hc30 => ?_) (fun hc30 => ?_)
      · have hR30 := ite_t hR30 hc30
        refine g_aload_n X dX4_loserOf_42 rfl (lv_at hl 1 rfl) ?_
        refine g_iconst (v := 2) X dX4_loserOf_43 (by decide) ?_
        refine g_iload_n X dX4_loserOf_44 rfl (lv_at hl 2 rfl) ?_
        refine g_imul X dX4_loserOf_45 ?_
        refine g_iconst (v := 1) X dX4_loserOf_46 (by decide) ?_
        refine g_iadd X dX4_loserOf_47 ?_
        obtain ⟨r48, hr48, hR30⟩ := obind hR30
        refine k_Vi X (As := [.int (((2 : Int32) * a1) + (1 : Int32))]) (rest := []) (c_X4_winnerOf hI hr48) (cwV 1 X.ts gX4_loserOf_X4_winnerOf rfl rfl rfl (by decide +kernel) ⟨Nat.le_of_ble_eq_true rfl, Nat.le_of_ble_eq_true rfl⟩) ⟨0, 4, _, _, mo_obj, rfl, rfl⟩ rfl hl.1 rfl (Nat.le_of_ble_eq_true rfl) dX4_loserOf_48 ?_
        have e30 := some_inj hR30
        subst e30
        exact J30 ls (lv_sub hl [1, 3, 0] rfl)
      · have hR30 := ite_f hR30 hc30
        refine g_iload_n X dX4_loserOf_33 rfl (lv_at hl 2 rfl) ?_
        obtain ⟨r34, hr34, hR30⟩ := obind hR30
        refine k_Si X (As := [.int a1]) (rest := []) (c_X4_firstOf hI hr34) (va_cwS 1 X.ts gX4_loserOf_X4_firstOf rfl rfl rfl (by decide +kernel) ⟨Nat.le_of_ble_eq_true rfl, Nat.le_of_ble_eq_true rfl⟩) rfl hl.1 rfl (Nat.le_of_ble_eq_true rfl) dX4_loserOf_34 ?_
        refine g_iconst (v := 1) X dX4_loserOf_37 (by decide) ?_
        refine g_iadd X dX4_loserOf_38 ?_
        refine g_goto (tgt := 51) X dX4_loserOf_39 (by decide) ?_
        have e30 := some_inj hR30
        subst e30
        exact J30 ls (lv_sub hl [1, 3, 0] rfl)
  · refine g_icmp_le (tgt := 19) X dX4_loserOf_9 (by decide) (fun hc9 => ?_) (fun hc9 => ?_)
    · have hR9 := ite_t hR9 hc9
      refine g_aload_n X dX4_loserOf_19 rfl (lv_at hl 1 rfl) ?_
      refine g_iconst (v := 2) X dX4_loserOf_20 (by decide) ?_
      refine g_iload_n X dX4_loserOf_21 rfl (lv_at hl 2 rfl) ?_
      refine g_imul X dX4_loserOf_22 ?_
      obtain ⟨r23, hr23, hR9⟩ := obind hR9
      refine k_Vi X (As := [.int ((2 : Int32) * a1)]) (rest := []) (c_X4_winnerOf hI hr23) (cwV 1 X.ts gX4_loserOf_X4_winnerOf rfl rfl rfl (by decide +kernel) ⟨Nat.le_of_ble_eq_true rfl, Nat.le_of_ble_eq_true rfl⟩) ⟨0, 4, _, _, mo_obj, rfl, rfl⟩ rfl hl.1 rfl (Nat.le_of_ble_eq_true rfl) dX4_loserOf_23 ?_
      have e9 := some_inj hR9
      subst e9
      exact J9 ls (lv_sub hl [1, 2, 0] rfl)
    · have hR9 := ite_f hR9 hc9
      refine g_iload_n X dX4_loserOf_12 rfl (lv_at hl 2 rfl) ?_
      obtain ⟨r13, hr13, hR9⟩ := obind hR9
      refine k_Si X (As := [.int a1]) (rest := []) (c_X4_firstOf hI hr13) (va_cwS 1 X.ts gX4_loserOf_X4_firstOf rfl rfl rfl (by decide +kernel) ⟨Nat.le_of_ble_eq_true rfl, Nat.le_of_ble_eq_true rfl⟩) rfl hl.1 rfl (Nat.le_of_ble_eq_true rfl) dX4_loserOf_13 ?_
      refine g_goto (tgt := 26) X dX4_loserOf_16 (by decide) ?_
      have e9 := some_inj hR9
      subst e9
      exact J9 ls (lv_sub hl [1, 2, 0] rfl)
theorem in_X4_contestOf_X4 : ∀ w ∈ wsX40, w ∈ wsX4_contestOf := by decide +kernel
def F_X4_contestOf (a1 : Int32) (a2 : Int32) (σ : (Mem × Int64)) : Option (Int32 × (Mem × Int64)) := (if (2 : Int32) ≤ a2 then (if ¬ a2 = (5 : Int32) then Option.bind (F_X4_winnerOf a1 σ) (fun r41 => Option.bind (F_X4_layNext a1 r41 σ) (fun r44 => (if ¬ a2 = (4 : Int32) then Option.bind (F_X4_moment (r44.1 0 6) (r44.1 0 7) (a2 - (2 : Int32)) r44) (fun r71 => some (r71, r44)) else some (r44.1 0 8, r44)))) else if inb ((3 : Int32) + a1) 84 then (some (σ.1 1 (((3 : Int32) + a1).toNatClampNeg), σ)) else none) else (if ¬ a2 = 0 then Option.bind (F_X4_loserOf a1 σ) (fun r19 => some (r19, σ)) else Option.bind (F_X4_winnerOf a1 σ) (fun r11 => some (r11, σ))))
set_option maxHeartbeats 4000000 in
set_option maxRecDepth 100000 in
theorem c_X4_contestOf {l : Launch} {D : va_G} {ay : Nat → ClassId} {ad : Nat → Nat} {a1 : Int32} {a2 : Int32} {σ : (Mem × Int64)} {res : Int32 × (Mem × Int64)} (hI : amOK ad) (hF : F_X4_contestOf a1 a2 σ = some res) : Met l yX4_contestOf wsX4_contestOf ({ frames := 5, cells := 0, slots := 0, locals := 123 } : Room) (va_Pc [.ref (ad 0), .int a1, .int a2] (PP D ay (wM ay ad σ))) (va_Qi (pE res) (fun τ => PP D ay (wM ay ad τ)) (AM ad)) 0 0 (AM ad) := by
  refine g_start (wd := wM ay ad) (A := AM ad) (own := RX4) (mL := 3) (rt := (some .int)) (by decide) rfl rfl (Nat.le_of_ble_eq_true rfl) ?_
  intro p e s m below meth c ls X hl
  have hl : lv_has ls 3 [(0, .ref (ad 0)), (1, .int a1), (2, .int a2)] := hl
  rw [F_X4_contestOf] at hF
  refine g_iload_n X dX4_contestOf_0 rfl (lv_at hl 2 rfl) ?_
  refine g_iconst (v := 2) X dX4_contestOf_1 (by decide) ?_
  refine g_icmp_ge (tgt := 23) X dX4_contestOf_2 (by decide) (fun hc2 => ?_) (fun hc2 => ?_)
  · have hF := ite_t hF hc2
    refine g_iload_n X dX4_contestOf_23 rfl (lv_at hl 2 rfl) ?_
    refine g_iconst (v := 5) X dX4_contestOf_24 (by decide) ?_
    refine g_icmp_ne (tgt := 37) X dX4_contestOf_25 (by decide) (fun hc25 => ?_) (fun hc25 => ?_)
    · have hF := ite_t hF hc25
      refine g_aload_n X dX4_contestOf_37 rfl (lv_at hl 0 rfl) ?_
      refine g_iload_n X dX4_contestOf_38 rfl (lv_at hl 1 rfl) ?_
      refine g_aload_n X dX4_contestOf_39 rfl (lv_at hl 0 rfl) ?_
      refine g_iload_n X dX4_contestOf_40 rfl (lv_at hl 1 rfl) ?_
      obtain ⟨r41, hr41, hF⟩ := obind hF
      refine k_Vi X (As := [.int a1]) (rest := [.int a1, .ref (ad 0)]) (c_X4_winnerOf hI hr41) (cwV 1 X.ts gX4_contestOf_X4_winnerOf rfl rfl rfl (by decide +kernel) ⟨Nat.le_of_ble_eq_true rfl, Nat.le_of_ble_eq_true rfl⟩) ⟨0, 4, _, _, mo_obj, rfl, rfl⟩ rfl hl.1 rfl (Nat.le_of_ble_eq_true rfl) dX4_contestOf_41 ?_
      obtain ⟨r44, hr44, hF⟩ := obind hF
      refine k_Vv X (As := [.int a1, .int r41]) (rest := []) (c_X4_layNext hI hr44) (cwV 2 X.ts gX4_contestOf_X4_layNext rfl rfl rfl (by decide +kernel) ⟨Nat.le_of_ble_eq_true rfl, Nat.le_of_ble_eq_true rfl⟩) ⟨0, 4, _, _, mo_obj, rfl, rfl⟩ rfl hl.1 rfl (Nat.le_of_ble_eq_true rfl) dX4_contestOf_44 ?_
      refine g_iload_n X dX4_contestOf_47 rfl (lv_at hl 2 rfl) ?_
      refine g_iconst (v := 4) X dX4_contestOf_48 (by decide) ?_
      refine g_icmp_ne (tgt := 59) X dX4_contestOf_49 (by decide) (fun hc49 => ?_) (fun hc49 => ?_)
      · have hF := ite_t hF hc49
        refine g_aload_n X dX4_contestOf_59 rfl (lv_at hl 0 rfl) ?_
        refine g_aload_n X dX4_contestOf_60 rfl (lv_at hl 0 rfl) ?_
        refine g_get X 0 (mo_obj) in_X4_contestOf_X4 rfl 6 (by decide) (X.ts (.fieldLink RX4 70 "LeadTimesModel" "nextA" "I") (by decide +kernel)) rfl rfl dX4_contestOf_61 ?_
        refine g_aload_n X dX4_contestOf_64 rfl (lv_at hl 0 rfl) ?_
        refine g_get X 0 (mo_obj) in_X4_contestOf_X4 rfl 7 (by decide) (X.ts (.fieldLink RX4 73 "LeadTimesModel" "nextB" "I") (by decide +kernel)) rfl rfl dX4_contestOf_65 ?_
        refine g_iload_n X dX4_contestOf_68 rfl (lv_at hl 2 rfl) ?_
        refine g_iconst (v := 2) X dX4_contestOf_69 (by decide) ?_
        refine g_isub X dX4_contestOf_70 ?_
        obtain ⟨r71, hr71, hF⟩ := obind hF
        refine k_Vi X (As := [.int (r44.1 0 6), .int (r44.1 0 7), .int (a2 - (2 : Int32))]) (rest := []) (c_X4_moment hI hr71) (cwV 3 X.ts gX4_contestOf_X4_moment rfl rfl rfl (by decide +kernel) ⟨Nat.le_of_ble_eq_true rfl, Nat.le_of_ble_eq_true rfl⟩) ⟨0, 4, _, _, mo_obj, rfl, rfl⟩ rfl hl.1 rfl (Nat.le_of_ble_eq_true rfl) dX4_contestOf_71 ?_
        exact g_iret X (pE_mk (some_inj hF)) dX4_contestOf_74
      · have hF := ite_n hF hc49
        refine g_aload_n X dX4_contestOf_52 rfl (lv_at hl 0 rfl) ?_
        refine g_get X 0 (mo_obj) in_X4_contestOf_X4 rfl 8 (by decide) (X.ts (.fieldLink RX4 67 "LeadTimesModel" "nextWho" "I") (by decide +kernel)) rfl rfl dX4_contestOf_53 ?_
        refine g_goto (tgt := 74) X dX4_contestOf_56 (by decide) ?_
        exact g_iret X (pE_mk (some_inj hF)) dX4_contestOf_74
    · have hF := ite_n hF hc25
      refine g_aload_n X dX4_contestOf_28 rfl (lv_at hl 0 rfl) ?_
      refine g_get X 0 (mo_obj) in_X4_contestOf_X4 rfl 0 (by decide) (X.ts (.fieldLink RX4 7 "LeadTimesModel" "z" "[I") (by decide +kernel)) rfl rfl dX4_contestOf_29 ?_
      refine g_iconst (v := 3) X dX4_contestOf_32 (by decide) ?_
      refine g_iload_n X dX4_contestOf_33 rfl (lv_at hl 1 rfl) ?_
      refine g_iadd X dX4_contestOf_34 ?_
      obtain ⟨h35, hF⟩ := itn hF
      refine g_iald X 1 (j := ((3 : Int32) + a1).toNatClampNeg) (mo_arr1) (by first | rfl | decide) (inb_in h35) dX4_contestOf_35 ?_
      exact g_iret X (pE_mk (some_inj hF)) dX4_contestOf_36
  · have hF := ite_f hF hc2
    refine g_iload_n X dX4_contestOf_5 rfl (lv_at hl 2 rfl) ?_
    refine g_if_ne (tgt := 17) X dX4_contestOf_6 (by decide) (fun hc6 => ?_) (fun hc6 => ?_)
    · have hF := ite_t hF hc6
      refine g_aload_n X dX4_contestOf_17 rfl (lv_at hl 0 rfl) ?_
      refine g_iload_n X dX4_contestOf_18 rfl (lv_at hl 1 rfl) ?_
      obtain ⟨r19, hr19, hF⟩ := obind hF
      refine k_Vi X (As := [.int a1]) (rest := []) (c_X4_loserOf hI hr19) (cwV 1 X.ts gX4_contestOf_X4_loserOf rfl rfl rfl (by decide +kernel) ⟨Nat.le_of_ble_eq_true rfl, Nat.le_of_ble_eq_true rfl⟩) ⟨0, 4, _, _, mo_obj, rfl, rfl⟩ rfl hl.1 rfl (Nat.le_of_ble_eq_true rfl) dX4_contestOf_19 ?_
      exact g_iret X (pE_mk (some_inj hF)) dX4_contestOf_22
    · have hF := ite_n hF hc6
      refine g_aload_n X dX4_contestOf_9 rfl (lv_at hl 0 rfl) ?_
      refine g_iload_n X dX4_contestOf_10 rfl (lv_at hl 1 rfl) ?_
      obtain ⟨r11, hr11, hF⟩ := obind hF
      refine k_Vi X (As := [.int a1]) (rest := []) (c_X4_winnerOf hI hr11) (cwV 1 X.ts gX4_contestOf_X4_winnerOf rfl rfl rfl (by decide +kernel) ⟨Nat.le_of_ble_eq_true rfl, Nat.le_of_ble_eq_true rfl⟩) ⟨0, 4, _, _, mo_obj, rfl, rfl⟩ rfl hl.1 rfl (Nat.le_of_ble_eq_true rfl) dX4_contestOf_11 ?_
      refine g_goto (tgt := 22) X dX4_contestOf_14 (by decide) ?_
      exact g_iret X (pE_mk (some_inj hF)) dX4_contestOf_22
theorem in_X4_contest_X4 : ∀ w ∈ wsX40, w ∈ wsX4_contest := by decide +kernel
def F_X4_contest (a1 : Int32) (a2 : Int32) (σ : (Mem × Int64)) : Option (Int32 × (Mem × Int64)) := Option.bind (F_X4_in a1 (1 : Int32) (15 : Int32)) (fun r9 => (if ¬ r9 = 0 then Option.bind (F_X4_in a2 (0 : Int32) (5 : Int32)) (fun r24 => (if r24 = 0 then Option.bind (F_X4_fails (2 : Int32) (up2 σ.1 0 5 (0 : Int32), σ.2)) (fun r41 => some (r41.1, r41.2)) else Option.bind (F_X4_contestOf a1 a2 (up2 σ.1 0 5 (0 : Int32), σ.2)) (fun r33 => some (r33.1, r33.2)))) else Option.bind (F_X4_fails (1 : Int32) (up2 σ.1 0 5 (0 : Int32), σ.2)) (fun r17 => some (r17.1, r17.2))))
set_option maxHeartbeats 4000000 in
set_option maxRecDepth 100000 in
theorem c_X4_contest {l : Launch} {D : va_G} {ay : Nat → ClassId} {ad : Nat → Nat} {a1 : Int32} {a2 : Int32} {σ : (Mem × Int64)} {res : Int32 × (Mem × Int64)} (hI : amOK ad) (hF : F_X4_contest a1 a2 σ = some res) : Met l yX4_contest wsX4_contest ({ frames := 6, cells := 0, slots := 0, locals := 145 } : Room) (va_Pc [.ref (ad 0), .int a1, .int a2] (PP D ay (wM ay ad σ))) (va_Qi (pE res) (fun τ => PP D ay (wM ay ad τ)) (AM ad)) 0 0 (AM ad) := by
  refine g_start (wd := wM ay ad) (A := AM ad) (own := RX4) (mL := 3) (rt := (some .int)) (by decide) rfl rfl (Nat.le_of_ble_eq_true rfl) ?_
  intro p e s m below meth c ls X hl
  have hl : lv_has ls 3 [(0, .ref (ad 0)), (1, .int a1), (2, .int a2)] := hl
  rw [F_X4_contest] at hF
  refine g_aload_n X dX4_contest_0 rfl (lv_at hl 0 rfl) ?_
  refine g_iconst (v := 0) X dX4_contest_1 (by decide) ?_
  refine g_put X (wM_D hI) ((up2 σ.1 0 5 (0 : Int32), σ.2)) 0 (mo_obj) 5 (set_mo5) tyX4 tyX4_ok nmX4 in_X4_contest_X4 rfl (by decide) (X.ts (.fieldLink RX4 34 "LeadTimesModel" "thrown" "I") (by decide +kernel)) rfl rfl rfl rfl rfl (Nat.le_of_ble_eq_true rfl) dX4_contest_2 ?_
  refine g_iload_n X dX4_contest_5 rfl (lv_at hl 1 rfl) ?_
  refine g_iconst (v := 1) X dX4_contest_6 (by decide) ?_
  refine g_bipush (v := 15) X dX4_contest_7 (by decide) ?_
  obtain ⟨r9, hr9, hF⟩ := obind hF
  refine k_Sz X (As := [.int a1, .int (1 : Int32), .int (15 : Int32)]) (rest := []) (c_X4_in hI hr9) (va_cwS 3 X.ts gX4_contest_X4_in rfl rfl rfl (by decide +kernel) ⟨Nat.le_of_ble_eq_true rfl, Nat.le_of_ble_eq_true rfl⟩) rfl hl.1 rfl (Nat.le_of_ble_eq_true rfl) dX4_contest_9 (fun hz9 => ?_)
  refine g_if_ne (tgt := 21) X dX4_contest_12 (by decide) (fun hc12 => ?_) (fun hc12 => ?_)
  · have hF := ite_t hF hc12
    refine g_iload_n X dX4_contest_21 rfl (lv_at hl 2 rfl) ?_
    refine g_iconst (v := 0) X dX4_contest_22 (by decide) ?_
    refine g_iconst (v := 5) X dX4_contest_23 (by decide) ?_
    obtain ⟨r24, hr24, hF⟩ := obind hF
    refine k_Sz X (As := [.int a2, .int (0 : Int32), .int (5 : Int32)]) (rest := []) (c_X4_in hI hr24) (va_cwS 3 X.ts gX4_contest_X4_in rfl rfl rfl (by decide +kernel) ⟨Nat.le_of_ble_eq_true rfl, Nat.le_of_ble_eq_true rfl⟩) rfl hl.1 rfl (Nat.le_of_ble_eq_true rfl) dX4_contest_24 (fun hz24 => ?_)
    refine g_if_eq (tgt := 39) X dX4_contest_27 (by decide) (fun hc27 => ?_) (fun hc27 => ?_)
    · have hF := ite_t hF hc27
      refine g_aload_n X dX4_contest_39 rfl (lv_at hl 0 rfl) ?_
      refine g_iconst (v := 2) X dX4_contest_40 (by decide) ?_
      obtain ⟨r41, hr41, hF⟩ := obind hF
      refine k_Vie X (As := [.int (2 : Int32)]) (rest := []) (c_X4_fails hI hr41) (cwV 1 X.ts gX4_contest_X4_fails rfl rfl rfl (by decide +kernel) ⟨Nat.le_of_ble_eq_true rfl, Nat.le_of_ble_eq_true rfl⟩) ⟨0, 4, _, _, mo_obj, rfl, rfl⟩ rfl hl.1 rfl (Nat.le_of_ble_eq_true rfl) dX4_contest_41 ?_
      exact g_iret X (pE_mk (some_inj hF)) dX4_contest_44
    · have hF := ite_f hF hc27
      refine g_aload_n X dX4_contest_30 rfl (lv_at hl 0 rfl) ?_
      refine g_iload_n X dX4_contest_31 rfl (lv_at hl 1 rfl) ?_
      refine g_iload_n X dX4_contest_32 rfl (lv_at hl 2 rfl) ?_
      obtain ⟨r33, hr33, hF⟩ := obind hF
      refine k_Vie X (As := [.int a1, .int a2]) (rest := []) (c_X4_contestOf hI hr33) (cwV 2 X.ts gX4_contest_X4_contestOf rfl rfl rfl (by decide +kernel) ⟨Nat.le_of_ble_eq_true rfl, Nat.le_of_ble_eq_true rfl⟩) ⟨0, 4, _, _, mo_obj, rfl, rfl⟩ rfl hl.1 rfl (Nat.le_of_ble_eq_true rfl) dX4_contest_33 ?_
      refine g_goto (tgt := 44) X dX4_contest_36 (by decide) ?_
      exact g_iret X (pE_mk (some_inj hF)) dX4_contest_44
  · have hF := ite_n hF hc12
    refine g_aload_n X dX4_contest_15 rfl (lv_at hl 0 rfl) ?_
    refine g_iconst (v := 1) X dX4_contest_16 (by decide) ?_
    obtain ⟨r17, hr17, hF⟩ := obind hF
    refine k_Vie X (As := [.int (1 : Int32)]) (rest := []) (c_X4_fails hI hr17) (cwV 1 X.ts gX4_contest_X4_fails rfl rfl rfl (by decide +kernel) ⟨Nat.le_of_ble_eq_true rfl, Nat.le_of_ble_eq_true rfl⟩) ⟨0, 4, _, _, mo_obj, rfl, rfl⟩ rfl hl.1 rfl (Nat.le_of_ble_eq_true rfl) dX4_contest_17 ?_
    exact g_iret X (pE_mk (some_inj hF)) dX4_contest_20
theorem in_X4_turnOf_X4 : ∀ w ∈ wsX40, w ∈ wsX4_turnOf := by decide +kernel
def F_X4_turnOf (a1 : Int32) (σ : (Mem × Int64)) : Option (Int32 × (Mem × Int64)) := Option.bind (F_X4_layFirst σ) (fun r1 => (if (2 : Int32) ≤ a1 then (if ¬ a1 = (2 : Int32) then some (r1.1 0 13, r1) else some (r1.1 0 12, r1)) else Option.bind (F_X4_moment (r1.1 0 10) (r1.1 0 11) a1 r1) (fun r19 => some (r19, r1))))
set_option maxHeartbeats 4000000 in
set_option maxRecDepth 100000 in
theorem c_X4_turnOf {l : Launch} {D : va_G} {ay : Nat → ClassId} {ad : Nat → Nat} {a1 : Int32} {σ : (Mem × Int64)} {res : Int32 × (Mem × Int64)} (hI : amOK ad) (hF : F_X4_turnOf a1 σ = some res) : Met l yX4_turnOf wsX4_turnOf ({ frames := 5, cells := 0, slots := 0, locals := 121 } : Room) (va_Pc [.ref (ad 0), .int a1] (PP D ay (wM ay ad σ))) (va_Qi (pE res) (fun τ => PP D ay (wM ay ad τ)) (AM ad)) 0 0 (AM ad) := by
  refine g_start (wd := wM ay ad) (A := AM ad) (own := RX4) (mL := 2) (rt := (some .int)) (by decide) rfl rfl (Nat.le_of_ble_eq_true rfl) ?_
  intro p e s m below meth c ls X hl
  have hl : lv_has ls 2 [(0, .ref (ad 0)), (1, .int a1)] := hl
  rw [F_X4_turnOf] at hF
  refine g_aload_n X dX4_turnOf_0 rfl (lv_at hl 0 rfl) ?_
  obtain ⟨r1, hr1, hF⟩ := obind hF
  refine k_Vv X (As := []) (rest := []) (c_X4_layFirst hI hr1) (cwV 0 X.ts gX4_turnOf_X4_layFirst rfl rfl rfl (by decide +kernel) ⟨Nat.le_of_ble_eq_true rfl, Nat.le_of_ble_eq_true rfl⟩) ⟨0, 4, _, _, mo_obj, rfl, rfl⟩ rfl hl.1 rfl (Nat.le_of_ble_eq_true rfl) dX4_turnOf_1 ?_
  refine g_iload_n X dX4_turnOf_4 rfl (lv_at hl 1 rfl) ?_
  refine g_iconst (v := 2) X dX4_turnOf_5 (by decide) ?_
  refine g_icmp_ge (tgt := 25) X dX4_turnOf_6 (by decide) (fun hc6 => ?_) (fun hc6 => ?_)
  · have hF := ite_t hF hc6
    refine g_iload_n X dX4_turnOf_25 rfl (lv_at hl 1 rfl) ?_
    refine g_iconst (v := 2) X dX4_turnOf_26 (by decide) ?_
    refine g_icmp_ne (tgt := 37) X dX4_turnOf_27 (by decide) (fun hc27 => ?_) (fun hc27 => ?_)
    · have hF := ite_t hF hc27
      refine g_aload_n X dX4_turnOf_37 rfl (lv_at hl 0 rfl) ?_
      refine g_get X 0 (mo_obj) in_X4_turnOf_X4 rfl 13 (by decide) (X.ts (.fieldLink RX4 119 "LeadTimesModel" "firstContest" "I") (by decide +kernel)) rfl rfl dX4_turnOf_38 ?_
      exact g_iret X (pE_mk (some_inj hF)) dX4_turnOf_41
    · have hF := ite_n hF hc27
      refine g_aload_n X dX4_turnOf_30 rfl (lv_at hl 0 rfl) ?_
      refine g_get X 0 (mo_obj) in_X4_turnOf_X4 rfl 12 (by decide) (X.ts (.fieldLink RX4 128 "LeadTimesModel" "firstMany" "I") (by decide +kernel)) rfl rfl dX4_turnOf_31 ?_
      refine g_goto (tgt := 41) X dX4_turnOf_34 (by decide) ?_
      exact g_iret X (pE_mk (some_inj hF)) dX4_turnOf_41
  · have hF := ite_f hF hc6
    refine g_aload_n X dX4_turnOf_9 rfl (lv_at hl 0 rfl) ?_
    refine g_aload_n X dX4_turnOf_10 rfl (lv_at hl 0 rfl) ?_
    refine g_get X 0 (mo_obj) in_X4_turnOf_X4 rfl 10 (by decide) (X.ts (.fieldLink RX4 122 "LeadTimesModel" "firstA" "I") (by decide +kernel)) rfl rfl dX4_turnOf_11 ?_
    refine g_aload_n X dX4_turnOf_14 rfl (lv_at hl 0 rfl) ?_
    refine g_get X 0 (mo_obj) in_X4_turnOf_X4 rfl 11 (by decide) (X.ts (.fieldLink RX4 125 "LeadTimesModel" "firstB" "I") (by decide +kernel)) rfl rfl dX4_turnOf_15 ?_
    refine g_iload_n X dX4_turnOf_18 rfl (lv_at hl 1 rfl) ?_
    obtain ⟨r19, hr19, hF⟩ := obind hF
    refine k_Vi X (As := [.int (r1.1 0 10), .int (r1.1 0 11), .int a1]) (rest := []) (c_X4_moment hI hr19) (cwV 3 X.ts gX4_turnOf_X4_moment rfl rfl rfl (by decide +kernel) ⟨Nat.le_of_ble_eq_true rfl, Nat.le_of_ble_eq_true rfl⟩) ⟨0, 4, _, _, mo_obj, rfl, rfl⟩ rfl hl.1 rfl (Nat.le_of_ble_eq_true rfl) dX4_turnOf_19 ?_
    refine g_goto (tgt := 41) X dX4_turnOf_22 (by decide) ?_
    exact g_iret X (pE_mk (some_inj hF)) dX4_turnOf_41
theorem in_X4_nextTurn_X4 : ∀ w ∈ wsX40, w ∈ wsX4_nextTurn := by decide +kernel
def F_X4_nextTurn (a1 : Int32) (σ : (Mem × Int64)) : Option (Int32 × (Mem × Int64)) := Option.bind (F_X4_in a1 (0 : Int32) (3 : Int32)) (fun r8 => (if r8 = 0 then Option.bind (F_X4_fails (1 : Int32) (up2 σ.1 0 5 (0 : Int32), σ.2)) (fun r24 => some (r24.1, r24.2)) else Option.bind (F_X4_turnOf a1 (up2 σ.1 0 5 (0 : Int32), σ.2)) (fun r16 => some (r16.1, r16.2))))
set_option maxHeartbeats 4000000 in
set_option maxRecDepth 100000 in
theorem c_X4_nextTurn {l : Launch} {D : va_G} {ay : Nat → ClassId} {ad : Nat → Nat} {a1 : Int32} {σ : (Mem × Int64)} {res : Int32 × (Mem × Int64)} (hI : amOK ad) (hF : F_X4_nextTurn a1 σ = some res) : Met l yX4_nextTurn wsX4_nextTurn ({ frames := 6, cells := 0, slots := 0, locals := 142 } : Room) (va_Pc [.ref (ad 0), .int a1] (PP D ay (wM ay ad σ))) (va_Qi (pE res) (fun τ => PP D ay (wM ay ad τ)) (AM ad)) 0 0 (AM ad) := by
  refine g_start (wd := wM ay ad) (A := AM ad) (own := RX4) (mL := 2) (rt := (some .int)) (by decide) rfl rfl (Nat.le_of_ble_eq_true rfl) ?_
  intro p e s m below meth c ls X hl
  have hl : lv_has ls 2 [(0, .ref (ad 0)), (1, .int a1)] := hl
  rw [F_X4_nextTurn] at hF
  refine g_aload_n X dX4_nextTurn_0 rfl (lv_at hl 0 rfl) ?_
  refine g_iconst (v := 0) X dX4_nextTurn_1 (by decide) ?_
  refine g_put X (wM_D hI) ((up2 σ.1 0 5 (0 : Int32), σ.2)) 0 (mo_obj) 5 (set_mo5) tyX4 tyX4_ok nmX4 in_X4_nextTurn_X4 rfl (by decide) (X.ts (.fieldLink RX4 34 "LeadTimesModel" "thrown" "I") (by decide +kernel)) rfl rfl rfl rfl rfl (Nat.le_of_ble_eq_true rfl) dX4_nextTurn_2 ?_
  refine g_iload_n X dX4_nextTurn_5 rfl (lv_at hl 1 rfl) ?_
  refine g_iconst (v := 0) X dX4_nextTurn_6 (by decide) ?_
  refine g_iconst (v := 3) X dX4_nextTurn_7 (by decide) ?_
  obtain ⟨r8, hr8, hF⟩ := obind hF
  refine k_Sz X (As := [.int a1, .int (0 : Int32), .int (3 : Int32)]) (rest := []) (c_X4_in hI hr8) (va_cwS 3 X.ts gX4_nextTurn_X4_in rfl rfl rfl (by decide +kernel) ⟨Nat.le_of_ble_eq_true rfl, Nat.le_of_ble_eq_true rfl⟩) rfl hl.1 rfl (Nat.le_of_ble_eq_true rfl) dX4_nextTurn_8 (fun hz8 => ?_)
  refine g_if_eq (tgt := 22) X dX4_nextTurn_11 (by decide) (fun hc11 => ?_) (fun hc11 => ?_)
  · have hF := ite_t hF hc11
    refine g_aload_n X dX4_nextTurn_22 rfl (lv_at hl 0 rfl) ?_
    refine g_iconst (v := 1) X dX4_nextTurn_23 (by decide) ?_
    obtain ⟨r24, hr24, hF⟩ := obind hF
    refine k_Vie X (As := [.int (1 : Int32)]) (rest := []) (c_X4_fails hI hr24) (cwV 1 X.ts gX4_nextTurn_X4_fails rfl rfl rfl (by decide +kernel) ⟨Nat.le_of_ble_eq_true rfl, Nat.le_of_ble_eq_true rfl⟩) ⟨0, 4, _, _, mo_obj, rfl, rfl⟩ rfl hl.1 rfl (Nat.le_of_ble_eq_true rfl) dX4_nextTurn_24 ?_
    exact g_iret X (pE_mk (some_inj hF)) dX4_nextTurn_27
  · have hF := ite_f hF hc11
    refine g_aload_n X dX4_nextTurn_14 rfl (lv_at hl 0 rfl) ?_
    refine g_iload_n X dX4_nextTurn_15 rfl (lv_at hl 1 rfl) ?_
    obtain ⟨r16, hr16, hF⟩ := obind hF
    refine k_Vie X (As := [.int a1]) (rest := []) (c_X4_turnOf hI hr16) (cwV 1 X.ts gX4_nextTurn_X4_turnOf rfl rfl rfl (by decide +kernel) ⟨Nat.le_of_ble_eq_true rfl, Nat.le_of_ble_eq_true rfl⟩) ⟨0, 4, _, _, mo_obj, rfl, rfl⟩ rfl hl.1 rfl (Nat.le_of_ble_eq_true rfl) dX4_nextTurn_16 ?_
    refine g_goto (tgt := 27) X dX4_nextTurn_19 (by decide) ?_
    exact g_iret X (pE_mk (some_inj hF)) dX4_nextTurn_27
theorem in_X4_spanTold_X4 : ∀ w ∈ wsX40, w ∈ wsX4_spanTold := by decide +kernel
def F_X4_spanTold (a1 : Int32) (a2 : Int32) (σ : (Mem × Int64)) : Option Int32 := (if ¬ a2 = 0 then if inb a1 16 then (if inb a1 16 then (Option.bind (F_X4_moment (σ.1 7 a1.toNatClampNeg) (σ.1 8 a1.toNatClampNeg) (a2 - (1 : Int32)) σ) (fun r29 => some r29)) else none) else none else if inb a1 16 then (some (σ.1 6 a1.toNatClampNeg)) else none)
set_option maxHeartbeats 4000000 in
set_option maxRecDepth 100000 in
theorem c_X4_spanTold {l : Launch} {D : va_G} {ay : Nat → ClassId} {ad : Nat → Nat} {a1 : Int32} {a2 : Int32} {σ : (Mem × Int64)} {res : Int32} (hI : amOK ad) (hF : F_X4_spanTold a1 a2 σ = some res) : Met l yX4_spanTold wsX4_spanTold ({ frames := 2, cells := 0, slots := 0, locals := 49 } : Room) (va_Pc [.ref (ad 0), .int a1, .int a2] (PP D ay (wM ay ad σ))) (va_Qi (pP res σ) (fun τ => PP D ay (wM ay ad τ)) (AM ad)) 0 0 (AM ad) := by
  refine g_start (wd := wM ay ad) (A := AM ad) (own := RX4) (mL := 3) (rt := (some .int)) (by decide) rfl rfl (Nat.le_of_ble_eq_true rfl) ?_
  intro p e s m below meth c ls X hl
  have hl : lv_has ls 3 [(0, .ref (ad 0)), (1, .int a1), (2, .int a2)] := hl
  rw [F_X4_spanTold] at hF
  refine g_iload_n X dX4_spanTold_0 rfl (lv_at hl 2 rfl) ?_
  refine g_if_ne (tgt := 13) X dX4_spanTold_1 (by decide) (fun hc1 => ?_) (fun hc1 => ?_)
  · have hF := ite_t hF hc1
    refine g_aload_n X dX4_spanTold_13 rfl (lv_at hl 0 rfl) ?_
    refine g_aload_n X dX4_spanTold_14 rfl (lv_at hl 0 rfl) ?_
    refine g_get X 0 (mo_obj) in_X4_spanTold_X4 rfl 18 (by decide) (X.ts (.fieldLink RX4 28 "LeadTimesModel" "spanA" "[I") (by decide +kernel)) rfl rfl dX4_spanTold_15 ?_
    refine g_iload_n X dX4_spanTold_18 rfl (lv_at hl 1 rfl) ?_
    obtain ⟨h19, hF⟩ := itn hF
    refine g_iald X 7 (j := a1.toNatClampNeg) (mo_arr7) (by first | rfl | decide) (inb_in h19) dX4_spanTold_19 ?_
    refine g_aload_n X dX4_spanTold_20 rfl (lv_at hl 0 rfl) ?_
    refine g_get X 0 (mo_obj) in_X4_spanTold_X4 rfl 19 (by decide) (X.ts (.fieldLink RX4 31 "LeadTimesModel" "spanB" "[I") (by decide +kernel)) rfl rfl dX4_spanTold_21 ?_
    refine g_iload_n X dX4_spanTold_24 rfl (lv_at hl 1 rfl) ?_
    obtain ⟨h25, hF⟩ := itn hF
    refine g_iald X 8 (j := a1.toNatClampNeg) (mo_arr8) (by first | rfl | decide) (inb_in h25) dX4_spanTold_25 ?_
    refine g_iload_n X dX4_spanTold_26 rfl (lv_at hl 2 rfl) ?_
    refine g_iconst (v := 1) X dX4_spanTold_27 (by decide) ?_
    refine g_isub X dX4_spanTold_28 ?_
    obtain ⟨r29, hr29, hF⟩ := obind hF
    refine k_Vi X (As := [.int (σ.1 7 a1.toNatClampNeg), .int (σ.1 8 a1.toNatClampNeg), .int (a2 - (1 : Int32))]) (rest := []) (c_X4_moment hI hr29) (cwV 3 X.ts gX4_spanTold_X4_moment rfl rfl rfl (by decide +kernel) ⟨Nat.le_of_ble_eq_true rfl, Nat.le_of_ble_eq_true rfl⟩) ⟨0, 4, _, _, mo_obj, rfl, rfl⟩ rfl hl.1 rfl (Nat.le_of_ble_eq_true rfl) dX4_spanTold_29 ?_
    exact g_iret X (pP_mk (some_inj hF)) dX4_spanTold_32
  · have hF := ite_n hF hc1
    refine g_aload_n X dX4_spanTold_4 rfl (lv_at hl 0 rfl) ?_
    refine g_get X 0 (mo_obj) in_X4_spanTold_X4 rfl 17 (by decide) (X.ts (.fieldLink RX4 25 "LeadTimesModel" "spanWho" "[I") (by decide +kernel)) rfl rfl dX4_spanTold_5 ?_
    refine g_iload_n X dX4_spanTold_8 rfl (lv_at hl 1 rfl) ?_
    obtain ⟨h9, hF⟩ := itn hF
    refine g_iald X 6 (j := a1.toNatClampNeg) (mo_arr6) (by first | rfl | decide) (inb_in h9) dX4_spanTold_9 ?_
    refine g_goto (tgt := 32) X dX4_spanTold_10 (by decide) ?_
    exact g_iret X (pP_mk (some_inj hF)) dX4_spanTold_32
theorem in_X4_span_X4 : ∀ w ∈ wsX40, w ∈ wsX4_span := by decide +kernel
def F_X4_span (a1 : Int32) (a2 : Int32) (σ : (Mem × Int64)) : Option (Int32 × (Mem × Int64)) := (if a1 < 0 then Option.bind (F_X4_fails (1 : Int32) (up2 σ.1 0 5 (0 : Int32), σ.2)) (fun r20 => some (r20.1, r20.2)) else Option.bind (F_X4_in a2 (0 : Int32) (2 : Int32)) (fun r12 => (if ¬ r12 = 0 then Option.bind (F_X4_laySpans (up2 σ.1 0 5 (0 : Int32), σ.2)) (fun r25 => (if (r25.1 0 20) ≤ a1 then some ((-1 : Int32), r25) else Option.bind (F_X4_spanTold a1 a2 r25) (fun r39 => some (r39, r25)))) else Option.bind (F_X4_fails (1 : Int32) (up2 σ.1 0 5 (0 : Int32), σ.2)) (fun r20 => some (r20.1, r20.2)))))
set_option maxHeartbeats 4000000 in
set_option maxRecDepth 100000 in
theorem c_X4_span {l : Launch} {D : va_G} {ay : Nat → ClassId} {ad : Nat → Nat} {a1 : Int32} {a2 : Int32} {σ : (Mem × Int64)} {res : Int32 × (Mem × Int64)} (hI : amOK ad) (hF : F_X4_span a1 a2 σ = some res) : Met l yX4_span wsX4_span ({ frames := 5, cells := 0, slots := 0, locals := 118 } : Room) (va_Pc [.ref (ad 0), .int a1, .int a2] (PP D ay (wM ay ad σ))) (va_Qi (pE res) (fun τ => PP D ay (wM ay ad τ)) (AM ad)) 0 0 (AM ad) := by
  refine g_start (wd := wM ay ad) (A := AM ad) (own := RX4) (mL := 3) (rt := (some .int)) (by decide) rfl rfl (Nat.le_of_ble_eq_true rfl) ?_
  intro p e s m below meth c ls X hl
  have hl : lv_has ls 3 [(0, .ref (ad 0)), (1, .int a1), (2, .int a2)] := hl
  rw [F_X4_span] at hF
  refine g_aload_n X dX4_span_0 rfl (lv_at hl 0 rfl) ?_
  refine g_iconst (v := 0) X dX4_span_1 (by decide) ?_
  refine g_put X (wM_D hI) ((up2 σ.1 0 5 (0 : Int32), σ.2)) 0 (mo_obj) 5 (set_mo5) tyX4 tyX4_ok nmX4 in_X4_span_X4 rfl (by decide) (X.ts (.fieldLink RX4 34 "LeadTimesModel" "thrown" "I") (by decide +kernel)) rfl rfl rfl rfl rfl (Nat.le_of_ble_eq_true rfl) dX4_span_2 ?_
  refine g_iload_n X dX4_span_5 rfl (lv_at hl 1 rfl) ?_
  refine g_if_lt (tgt := 18) X dX4_span_6 (by decide) (fun hc6 => ?_) (fun hc6 => ?_)
  · have hF := ite_t hF hc6
    refine g_aload_n X dX4_span_18 rfl (lv_at hl 0 rfl) ?_
    refine g_iconst (v := 1) X dX4_span_19 (by decide) ?_
    obtain ⟨r20, hr20, hF⟩ := obind hF
    refine k_Vie X (As := [.int (1 : Int32)]) (rest := []) (c_X4_fails hI hr20) (cwV 1 X.ts gX4_span_X4_fails rfl rfl rfl (by decide +kernel) ⟨Nat.le_of_ble_eq_true rfl, Nat.le_of_ble_eq_true rfl⟩) ⟨0, 4, _, _, mo_obj, rfl, rfl⟩ rfl hl.1 rfl (Nat.le_of_ble_eq_true rfl) dX4_span_20 ?_
    exact g_iret X (pE_mk (some_inj hF)) dX4_span_23
  · have hF := ite_f hF hc6
    refine g_iload_n X dX4_span_9 rfl (lv_at hl 2 rfl) ?_
    refine g_iconst (v := 0) X dX4_span_10 (by decide) ?_
    refine g_iconst (v := 2) X dX4_span_11 (by decide) ?_
    obtain ⟨r12, hr12, hF⟩ := obind hF
    refine k_Sz X (As := [.int a2, .int (0 : Int32), .int (2 : Int32)]) (rest := []) (c_X4_in hI hr12) (va_cwS 3 X.ts gX4_span_X4_in rfl rfl rfl (by decide +kernel) ⟨Nat.le_of_ble_eq_true rfl, Nat.le_of_ble_eq_true rfl⟩) rfl hl.1 rfl (Nat.le_of_ble_eq_true rfl) dX4_span_12 (fun hz12 => ?_)
    refine g_if_ne (tgt := 24) X dX4_span_15 (by decide) (fun hc15 => ?_) (fun hc15 => ?_)
    · have hF := ite_t hF hc15
      refine g_aload_n X dX4_span_24 rfl (lv_at hl 0 rfl) ?_
      obtain ⟨r25, hr25, hF⟩ := obind hF
      refine k_Vv X (As := []) (rest := []) (c_X4_laySpans hI hr25) (cwV 0 X.ts gX4_span_X4_laySpans rfl rfl rfl (by decide +kernel) ⟨Nat.le_of_ble_eq_true rfl, Nat.le_of_ble_eq_true rfl⟩) ⟨0, 4, _, _, mo_obj, rfl, rfl⟩ rfl hl.1 rfl (Nat.le_of_ble_eq_true rfl) dX4_span_25 ?_
      refine g_iload_n X dX4_span_28 rfl (lv_at hl 1 rfl) ?_
      refine g_aload_n X dX4_span_29 rfl (lv_at hl 0 rfl) ?_
      refine g_get X 0 (mo_obj) in_X4_span_X4 rfl 20 (by decide) (X.ts (.fieldLink RX4 162 "LeadTimesModel" "spans" "I") (by decide +kernel)) rfl rfl dX4_span_30 ?_
      refine g_icmp_ge (tgt := 45) X dX4_span_33 (by decide) (fun hc33 => ?_) (fun hc33 => ?_)
      · have hF := ite_t hF hc33
        refine g_iconst (v := -1) X dX4_span_45 (by decide) ?_
        exact g_iret X (pE_mk (some_inj hF)) dX4_span_46
      · have hF := ite_f hF hc33
        refine g_aload_n X dX4_span_36 rfl (lv_at hl 0 rfl) ?_
        refine g_iload_n X dX4_span_37 rfl (lv_at hl 1 rfl) ?_
        refine g_iload_n X dX4_span_38 rfl (lv_at hl 2 rfl) ?_
        obtain ⟨r39, hr39, hF⟩ := obind hF
        refine k_Vi X (As := [.int a1, .int a2]) (rest := []) (c_X4_spanTold hI hr39) (cwV 2 X.ts gX4_span_X4_spanTold rfl rfl rfl (by decide +kernel) ⟨Nat.le_of_ble_eq_true rfl, Nat.le_of_ble_eq_true rfl⟩) ⟨0, 4, _, _, mo_obj, rfl, rfl⟩ rfl hl.1 rfl (Nat.le_of_ble_eq_true rfl) dX4_span_39 ?_
        refine g_goto (tgt := 46) X dX4_span_42 (by decide) ?_
        exact g_iret X (pE_mk (some_inj hF)) dX4_span_46
    · have hF := ite_n hF hc15
      refine g_aload_n X dX4_span_18 rfl (lv_at hl 0 rfl) ?_
      refine g_iconst (v := 1) X dX4_span_19 (by decide) ?_
      obtain ⟨r20, hr20, hF⟩ := obind hF
      refine k_Vie X (As := [.int (1 : Int32)]) (rest := []) (c_X4_fails hI hr20) (cwV 1 X.ts gX4_span_X4_fails rfl rfl rfl (by decide +kernel) ⟨Nat.le_of_ble_eq_true rfl, Nat.le_of_ble_eq_true rfl⟩) ⟨0, 4, _, _, mo_obj, rfl, rfl⟩ rfl hl.1 rfl (Nat.le_of_ble_eq_true rfl) dX4_span_20 ?_
      exact g_iret X (pE_mk (some_inj hF)) dX4_span_23
theorem in_X4_turnsSoFar_X4 : ∀ w ∈ wsX40, w ∈ wsX4_turnsSoFar := by decide +kernel
def L_X4_turnsSoFar_4 (σ : (Mem × Int64)) : Nat → Int32 → Int32 → Option Int32
  | 0, _, _ => none
  | fu + 1, a1, a2 => (if (15 : Int32) < a2 then some a1 else if inb ((3 : Int32) + a2) 84 then (L_X4_turnsSoFar_4 σ fu (a1 + (σ.1 1 (((3 : Int32) + a2).toNatClampNeg))) (a2 + 1)) else none)
set_option maxHeartbeats 4000000 in
set_option maxRecDepth 100000 in
theorem w_X4_turnsSoFar_4 {D : va_G} {ay : Nat → ClassId} {ad : Nat → Nat} {p : Program} {l : Launch} {e : Env} {s : State} {m : MethodId} {args : Array Value} {below : List Frame} {meth : Method} {c : Code} {Q : State → Prop} {σ : (Mem × Int64)} {res : Int32} (X : CX D ay p s m args meth c cX4_turnsSoFar 3 RX4 (some .int) wsX4_turnsSoFar) (hI : amOK ad) (K : ∀ ls : Array Slot, lv_has ls 3 [(1, .int res)] → GW D (wM ay ad) (AM ad) p l e ({ frames := 0, cells := 0, slots := 0, locals := 0 } : Room) s m args below meth c Q σ (F0 m 27 ls [])) : ∀ (fu : Nat) (a1 : Int32) (a2 : Int32), L_X4_turnsSoFar_4 σ fu a1 a2 = some res → ∀ ls : Array Slot, lv_has ls 3 [(0, .ref (ad 0)), (1, .int a1), (2, .int a2)] → GW D (wM ay ad) (AM ad) p l e ({ frames := 0, cells := 0, slots := 0, locals := 0 } : Room) s m args below meth c Q σ (F0 m 4 ls []) := by
  intro fu
  induction fu with
  | zero =>
    intro a1 a2 hF ls hl
    rw [L_X4_turnsSoFar_4] at hF
    cases hF
  | succ fu ih =>
    intro a1 a2 hF ls hl
    rw [L_X4_turnsSoFar_4] at hF
    refine g_iload_n X dX4_turnsSoFar_4 rfl (lv_at hl 2 rfl) ?_
    refine g_bipush (v := 15) X dX4_turnsSoFar_5 (by decide) ?_
    refine g_icmp_gt (tgt := 27) X dX4_turnsSoFar_7 (by decide) (fun hc7 => ?_) (fun hc7 => ?_)
    · have hF := ite_t hF hc7
      have e4 := some_inj hF
      subst e4
      exact K ls (lv_sub hl [1] rfl)
    · have hF := ite_f hF hc7
      refine g_iload_n X dX4_turnsSoFar_10 rfl (lv_at hl 1 rfl) ?_
      refine g_aload_n X dX4_turnsSoFar_11 rfl (lv_at hl 0 rfl) ?_
      refine g_get X 0 (mo_obj) in_X4_turnsSoFar_X4 rfl 0 (by decide) (X.ts (.fieldLink RX4 7 "LeadTimesModel" "z" "[I") (by decide +kernel)) rfl rfl dX4_turnsSoFar_12 ?_
      refine g_iconst (v := 3) X dX4_turnsSoFar_15 (by decide) ?_
      refine g_iload_n X dX4_turnsSoFar_16 rfl (lv_at hl 2 rfl) ?_
      refine g_iadd X dX4_turnsSoFar_17 ?_
      obtain ⟨h18, hF⟩ := itn hF
      refine g_iald X 1 (j := ((3 : Int32) + a2).toNatClampNeg) (mo_arr1) (by first | rfl | decide) (inb_in h18) dX4_turnsSoFar_18 ?_
      refine g_iadd X dX4_turnsSoFar_19 ?_
      refine g_istore_n (lv' := [(1, _), (0, _), (2, _)]) X dX4_turnsSoFar_20 rfl hl (by decide) rfl (fun ls hl => ?_)
      refine g_iinc (v := a2 + 1) (lv' := [(2, _), (1, _), (0, _)]) X dX4_turnsSoFar_21 hl (k := 2) rfl rfl (by decide) rfl (fun ls hl => ?_)
      refine g_goto (tgt := 4) X dX4_turnsSoFar_24 (by decide) ?_
      exact ih (a1 + (σ.1 1 (((3 : Int32) + a2).toNatClampNeg))) (a2 + 1) hF ls (lv_sub hl [2, 1, 0] rfl)
def F_X4_turnsSoFar (σ : (Mem × Int64)) : Option Int32 := Option.bind (L_X4_turnsSoFar_4 σ FU (0 : Int32) (1 : Int32)) (fun v4 : Int32 => some v4)
set_option maxHeartbeats 4000000 in
set_option maxRecDepth 100000 in
theorem c_X4_turnsSoFar {l : Launch} {D : va_G} {ay : Nat → ClassId} {ad : Nat → Nat} {σ : (Mem × Int64)} {res : Int32} (hI : amOK ad) (hF : F_X4_turnsSoFar  σ = some res) : Met l yX4_turnsSoFar wsX4_turnsSoFar ({ frames := 0, cells := 0, slots := 0, locals := 0 } : Room) (va_Pc [.ref (ad 0)] (PP D ay (wM ay ad σ))) (va_Qi (pP res σ) (fun τ => PP D ay (wM ay ad τ)) (AM ad)) 0 0 (AM ad) := by
  refine g_start (wd := wM ay ad) (A := AM ad) (own := RX4) (mL := 3) (rt := (some .int)) (by decide) rfl rfl (Nat.le_of_ble_eq_true rfl) ?_
  intro p e s m below meth c ls X hl
  have hl : lv_has ls 3 [(0, .ref (ad 0))] := hl
  rw [F_X4_turnsSoFar] at hF
  refine g_iconst (v := 0) X dX4_turnsSoFar_0 (by decide) ?_
  refine g_istore_n (lv' := [(1, _), (0, _)]) X dX4_turnsSoFar_1 rfl hl (by decide) rfl (fun ls hl => ?_)
  refine g_iconst (v := 1) X dX4_turnsSoFar_2 (by decide) ?_
  refine g_istore_n (lv' := [(2, _), (1, _), (0, _)]) X dX4_turnsSoFar_3 rfl hl (by decide) rfl (fun ls hl => ?_)
  obtain ⟨v4, hL4, hF⟩ := obind hF
  refine w_X4_turnsSoFar_4 X hI (fun ls hl => ?_) FU (0 : Int32) (1 : Int32) hL4 ls (lv_sub hl [2, 1, 0] rfl)
  refine g_iload_n X dX4_turnsSoFar_27 rfl (lv_at hl 0 rfl) ?_
  exact g_iret X (pP_mk (some_inj hF)) dX4_turnsSoFar_28
theorem in_X4_counted_X4 : ∀ w ∈ wsX40, w ∈ wsX4_counted := by decide +kernel
def F_X4_counted (a1 : Int32) (σ : (Mem × Int64)) : Option (Int32 × (Mem × Int64)) := Option.bind (F_X4_laySpans σ) (fun r1 => (if a1 = 0 then some (r1.1 1 0, r1) else (if a1 = 1 then Option.bind (F_X4_movers r1) (fun r52 => some (r52, r1)) else (if a1 = 2 then some (r1.1 0 20, r1) else (if a1 = 3 then Option.bind (F_X4_turnsSoFar r1) (fun r62 => some (r62, r1)) else (if a1 = 4 then some (r1.1 1 4, r1) else (if a1 = 5 then Option.bind (F_X4_movers r1) (fun r74 => some (r74 - (r1.1 0 20), r1)) else some (r1.1 0 2, r1))))))))
set_option maxHeartbeats 4000000 in
set_option maxRecDepth 100000 in
theorem c_X4_counted {l : Launch} {D : va_G} {ay : Nat → ClassId} {ad : Nat → Nat} {a1 : Int32} {σ : (Mem × Int64)} {res : Int32 × (Mem × Int64)} (hI : amOK ad) (hF : F_X4_counted a1 σ = some res) : Met l yX4_counted wsX4_counted ({ frames := 5, cells := 0, slots := 0, locals := 118 } : Room) (va_Pc [.ref (ad 0), .int a1] (PP D ay (wM ay ad σ))) (va_Qi (pE res) (fun τ => PP D ay (wM ay ad τ)) (AM ad)) 0 0 (AM ad) := by
  refine g_start (wd := wM ay ad) (A := AM ad) (own := RX4) (mL := 2) (rt := (some .int)) (by decide) rfl rfl (Nat.le_of_ble_eq_true rfl) ?_
  intro p e s m below meth c ls X hl
  have hl : lv_has ls 2 [(0, .ref (ad 0)), (1, .int a1)] := hl
  rw [F_X4_counted] at hF
  refine g_aload_n X dX4_counted_0 rfl (lv_at hl 0 rfl) ?_
  obtain ⟨r1, hr1, hF⟩ := obind hF
  refine k_Vv X (As := []) (rest := []) (c_X4_laySpans hI hr1) (cwV 0 X.ts gX4_counted_X4_laySpans rfl rfl rfl (by decide +kernel) ⟨Nat.le_of_ble_eq_true rfl, Nat.le_of_ble_eq_true rfl⟩) ⟨0, 4, _, _, mo_obj, rfl, rfl⟩ rfl hl.1 rfl (Nat.le_of_ble_eq_true rfl) dX4_counted_1 ?_
  refine g_iload_n X dX4_counted_4 rfl (lv_at hl 1 rfl) ?_
  by_cases hc5_0 : a1 = 0
  · have hF := ite_t hF hc5_0
    refine g_tableIn (tgt := 44) X dX4_counted_5 (by rw [hc5_0]; decide) (by rw [hc5_0]; decide) (by rw [hc5_0]; rfl) (by decide) ?_
    refine g_aload_n X dX4_counted_44 rfl (lv_at hl 0 rfl) ?_
    refine g_get X 0 (mo_obj) in_X4_counted_X4 rfl 0 (by decide) (X.ts (.fieldLink RX4 7 "LeadTimesModel" "z" "[I") (by decide +kernel)) rfl rfl dX4_counted_45 ?_
    refine g_iconst (v := 0) X dX4_counted_48 (by decide) ?_
    refine g_iald X 1 (j := 0) (mo_arr1) (by first | rfl | decide) (inb_in (by decide)) dX4_counted_49 ?_
    exact g_iret X (pE_mk (some_inj hF)) dX4_counted_50
  have hF := ite_f hF hc5_0
  by_cases hc5_1 : a1 = 1
  · have hF := ite_t hF hc5_1
    refine g_tableIn (tgt := 51) X dX4_counted_5 (by rw [hc5_1]; decide) (by rw [hc5_1]; decide) (by rw [hc5_1]; rfl) (by decide) ?_
    refine g_aload_n X dX4_counted_51 rfl (lv_at hl 0 rfl) ?_
    obtain ⟨r52, hr52, hF⟩ := obind hF
    refine k_Vi X (As := []) (rest := []) (c_X4_movers hI hr52) (cwV 0 X.ts gX4_counted_X4_movers rfl rfl rfl (by decide +kernel) ⟨Nat.le_of_ble_eq_true rfl, Nat.le_of_ble_eq_true rfl⟩) ⟨0, 4, _, _, mo_obj, rfl, rfl⟩ rfl hl.1 rfl (Nat.le_of_ble_eq_true rfl) dX4_counted_52 ?_
    exact g_iret X (pE_mk (some_inj hF)) dX4_counted_55
  have hF := ite_f hF hc5_1
  by_cases hc5_2 : a1 = 2
  · have hF := ite_t hF hc5_2
    refine g_tableIn (tgt := 56) X dX4_counted_5 (by rw [hc5_2]; decide) (by rw [hc5_2]; decide) (by rw [hc5_2]; rfl) (by decide) ?_
    refine g_aload_n X dX4_counted_56 rfl (lv_at hl 0 rfl) ?_
    refine g_get X 0 (mo_obj) in_X4_counted_X4 rfl 20 (by decide) (X.ts (.fieldLink RX4 162 "LeadTimesModel" "spans" "I") (by decide +kernel)) rfl rfl dX4_counted_57 ?_
    exact g_iret X (pE_mk (some_inj hF)) dX4_counted_60
  have hF := ite_f hF hc5_2
  by_cases hc5_3 : a1 = 3
  · have hF := ite_t hF hc5_3
    refine g_tableIn (tgt := 61) X dX4_counted_5 (by rw [hc5_3]; decide) (by rw [hc5_3]; decide) (by rw [hc5_3]; rfl) (by decide) ?_
    refine g_aload_n X dX4_counted_61 rfl (lv_at hl 0 rfl) ?_
    obtain ⟨r62, hr62, hF⟩ := obind hF
    refine k_Vi X (As := []) (rest := []) (c_X4_turnsSoFar hI hr62) (cwV 0 X.ts gX4_counted_X4_turnsSoFar rfl rfl rfl (by decide +kernel) ⟨Nat.le_of_ble_eq_true rfl, Nat.le_of_ble_eq_true rfl⟩) ⟨0, 4, _, _, mo_obj, rfl, rfl⟩ rfl hl.1 rfl (Nat.le_of_ble_eq_true rfl) dX4_counted_62 ?_
    exact g_iret X (pE_mk (some_inj hF)) dX4_counted_65
  have hF := ite_f hF hc5_3
  by_cases hc5_4 : a1 = 4
  · have hF := ite_t hF hc5_4
    refine g_tableIn (tgt := 66) X dX4_counted_5 (by rw [hc5_4]; decide) (by rw [hc5_4]; decide) (by rw [hc5_4]; rfl) (by decide) ?_
    refine g_aload_n X dX4_counted_66 rfl (lv_at hl 0 rfl) ?_
    refine g_get X 0 (mo_obj) in_X4_counted_X4 rfl 0 (by decide) (X.ts (.fieldLink RX4 7 "LeadTimesModel" "z" "[I") (by decide +kernel)) rfl rfl dX4_counted_67 ?_
    refine g_iconst (v := 4) X dX4_counted_70 (by decide) ?_
    refine g_iald X 1 (j := 4) (mo_arr1) (by first | rfl | decide) (inb_in (by decide)) dX4_counted_71 ?_
    exact g_iret X (pE_mk (some_inj hF)) dX4_counted_72
  have hF := ite_f hF hc5_4
  by_cases hc5_5 : a1 = 5
  · have hF := ite_t hF hc5_5
    refine g_tableIn (tgt := 73) X dX4_counted_5 (by rw [hc5_5]; decide) (by rw [hc5_5]; decide) (by rw [hc5_5]; rfl) (by decide) ?_
    refine g_aload_n X dX4_counted_73 rfl (lv_at hl 0 rfl) ?_
    obtain ⟨r74, hr74, hF⟩ := obind hF
    refine k_Vi X (As := []) (rest := []) (c_X4_movers hI hr74) (cwV 0 X.ts gX4_counted_X4_movers rfl rfl rfl (by decide +kernel) ⟨Nat.le_of_ble_eq_true rfl, Nat.le_of_ble_eq_true rfl⟩) ⟨0, 4, _, _, mo_obj, rfl, rfl⟩ rfl hl.1 rfl (Nat.le_of_ble_eq_true rfl) dX4_counted_74 ?_
    refine g_aload_n X dX4_counted_77 rfl (lv_at hl 0 rfl) ?_
    refine g_get X 0 (mo_obj) in_X4_counted_X4 rfl 20 (by decide) (X.ts (.fieldLink RX4 162 "LeadTimesModel" "spans" "I") (by decide +kernel)) rfl rfl dX4_counted_78 ?_
    refine g_isub X dX4_counted_81 ?_
    exact g_iret X (pE_mk (some_inj hF)) dX4_counted_82
  have hF := ite_f hF hc5_5
  refine g_tableOut (tgt := 83) X dX4_counted_5 (tb_out5 hc5_0 hc5_1 hc5_2 hc5_3 hc5_4 hc5_5) (by decide) ?_
  refine g_aload_n X dX4_counted_83 rfl (lv_at hl 0 rfl) ?_
  refine g_get X 0 (mo_obj) in_X4_counted_X4 rfl 2 (by decide) (X.ts (.fieldLink RX4 38 "LeadTimesModel" "savedMany" "I") (by decide +kernel)) rfl rfl dX4_counted_84 ?_
  exact g_iret X (pE_mk (some_inj hF)) dX4_counted_87
theorem in_X4_count_X4 : ∀ w ∈ wsX40, w ∈ wsX4_count := by decide +kernel
def F_X4_count (a1 : Int32) (σ : (Mem × Int64)) : Option (Int32 × (Mem × Int64)) := Option.bind (F_X4_in a1 (0 : Int32) (6 : Int32)) (fun r9 => (if r9 = 0 then Option.bind (F_X4_fails (1 : Int32) (up2 σ.1 0 5 (0 : Int32), σ.2)) (fun r25 => some (r25.1, r25.2)) else Option.bind (F_X4_counted a1 (up2 σ.1 0 5 (0 : Int32), σ.2)) (fun r17 => some (r17.1, r17.2))))
set_option maxHeartbeats 4000000 in
set_option maxRecDepth 100000 in
theorem c_X4_count {l : Launch} {D : va_G} {ay : Nat → ClassId} {ad : Nat → Nat} {a1 : Int32} {σ : (Mem × Int64)} {res : Int32 × (Mem × Int64)} (hI : amOK ad) (hF : F_X4_count a1 σ = some res) : Met l yX4_count wsX4_count ({ frames := 6, cells := 0, slots := 0, locals := 139 } : Room) (va_Pc [.ref (ad 0), .int a1] (PP D ay (wM ay ad σ))) (va_Qi (pE res) (fun τ => PP D ay (wM ay ad τ)) (AM ad)) 0 0 (AM ad) := by
  refine g_start (wd := wM ay ad) (A := AM ad) (own := RX4) (mL := 2) (rt := (some .int)) (by decide) rfl rfl (Nat.le_of_ble_eq_true rfl) ?_
  intro p e s m below meth c ls X hl
  have hl : lv_has ls 2 [(0, .ref (ad 0)), (1, .int a1)] := hl
  rw [F_X4_count] at hF
  refine g_aload_n X dX4_count_0 rfl (lv_at hl 0 rfl) ?_
  refine g_iconst (v := 0) X dX4_count_1 (by decide) ?_
  refine g_put X (wM_D hI) ((up2 σ.1 0 5 (0 : Int32), σ.2)) 0 (mo_obj) 5 (set_mo5) tyX4 tyX4_ok nmX4 in_X4_count_X4 rfl (by decide) (X.ts (.fieldLink RX4 34 "LeadTimesModel" "thrown" "I") (by decide +kernel)) rfl rfl rfl rfl rfl (Nat.le_of_ble_eq_true rfl) dX4_count_2 ?_
  refine g_iload_n X dX4_count_5 rfl (lv_at hl 1 rfl) ?_
  refine g_iconst (v := 0) X dX4_count_6 (by decide) ?_
  refine g_bipush (v := 6) X dX4_count_7 (by decide) ?_
  obtain ⟨r9, hr9, hF⟩ := obind hF
  refine k_Sz X (As := [.int a1, .int (0 : Int32), .int (6 : Int32)]) (rest := []) (c_X4_in hI hr9) (va_cwS 3 X.ts gX4_count_X4_in rfl rfl rfl (by decide +kernel) ⟨Nat.le_of_ble_eq_true rfl, Nat.le_of_ble_eq_true rfl⟩) rfl hl.1 rfl (Nat.le_of_ble_eq_true rfl) dX4_count_9 (fun hz9 => ?_)
  refine g_if_eq (tgt := 23) X dX4_count_12 (by decide) (fun hc12 => ?_) (fun hc12 => ?_)
  · have hF := ite_t hF hc12
    refine g_aload_n X dX4_count_23 rfl (lv_at hl 0 rfl) ?_
    refine g_iconst (v := 1) X dX4_count_24 (by decide) ?_
    obtain ⟨r25, hr25, hF⟩ := obind hF
    refine k_Vie X (As := [.int (1 : Int32)]) (rest := []) (c_X4_fails hI hr25) (cwV 1 X.ts gX4_count_X4_fails rfl rfl rfl (by decide +kernel) ⟨Nat.le_of_ble_eq_true rfl, Nat.le_of_ble_eq_true rfl⟩) ⟨0, 4, _, _, mo_obj, rfl, rfl⟩ rfl hl.1 rfl (Nat.le_of_ble_eq_true rfl) dX4_count_25 ?_
    exact g_iret X (pE_mk (some_inj hF)) dX4_count_28
  · have hF := ite_f hF hc12
    refine g_aload_n X dX4_count_15 rfl (lv_at hl 0 rfl) ?_
    refine g_iload_n X dX4_count_16 rfl (lv_at hl 1 rfl) ?_
    obtain ⟨r17, hr17, hF⟩ := obind hF
    refine k_Vie X (As := [.int a1]) (rest := []) (c_X4_counted hI hr17) (cwV 1 X.ts gX4_count_X4_counted rfl rfl rfl (by decide +kernel) ⟨Nat.le_of_ble_eq_true rfl, Nat.le_of_ble_eq_true rfl⟩) ⟨0, 4, _, _, mo_obj, rfl, rfl⟩ rfl hl.1 rfl (Nat.le_of_ble_eq_true rfl) dX4_count_17 ?_
    refine g_goto (tgt := 28) X dX4_count_20 (by decide) ?_
    exact g_iret X (pE_mk (some_inj hF)) dX4_count_28
theorem in_X4_setting_X4 : ∀ w ∈ wsX40, w ∈ wsX4_setting := by decide +kernel
def F_X4_setting (a1 : Int32) (σ : (Mem × Int64)) : Option (Int32 × (Mem × Int64)) := Option.bind (F_X4_in a1 (0 : Int32) (1 : Int32)) (fun r8 => (if r8 = 0 then Option.bind (F_X4_fails (1 : Int32) (up2 σ.1 0 5 (0 : Int32), σ.2)) (fun r27 => some (r27.1, r27.2)) else if inb ((1 : Int32) + a1) 84 then (some ((up2 σ.1 0 5 (0 : Int32)) 1 (((1 : Int32) + a1).toNatClampNeg), (up2 σ.1 0 5 (0 : Int32), σ.2))) else none))
set_option maxHeartbeats 4000000 in
set_option maxRecDepth 100000 in
theorem c_X4_setting {l : Launch} {D : va_G} {ay : Nat → ClassId} {ad : Nat → Nat} {a1 : Int32} {σ : (Mem × Int64)} {res : Int32 × (Mem × Int64)} (hI : amOK ad) (hF : F_X4_setting a1 σ = some res) : Met l yX4_setting wsX4_setting ({ frames := 1, cells := 0, slots := 0, locals := 22 } : Room) (va_Pc [.ref (ad 0), .int a1] (PP D ay (wM ay ad σ))) (va_Qi (pE res) (fun τ => PP D ay (wM ay ad τ)) (AM ad)) 0 0 (AM ad) := by
  refine g_start (wd := wM ay ad) (A := AM ad) (own := RX4) (mL := 2) (rt := (some .int)) (by decide) rfl rfl (Nat.le_of_ble_eq_true rfl) ?_
  intro p e s m below meth c ls X hl
  have hl : lv_has ls 2 [(0, .ref (ad 0)), (1, .int a1)] := hl
  rw [F_X4_setting] at hF
  refine g_aload_n X dX4_setting_0 rfl (lv_at hl 0 rfl) ?_
  refine g_iconst (v := 0) X dX4_setting_1 (by decide) ?_
  refine g_put X (wM_D hI) ((up2 σ.1 0 5 (0 : Int32), σ.2)) 0 (mo_obj) 5 (set_mo5) tyX4 tyX4_ok nmX4 in_X4_setting_X4 rfl (by decide) (X.ts (.fieldLink RX4 34 "LeadTimesModel" "thrown" "I") (by decide +kernel)) rfl rfl rfl rfl rfl (Nat.le_of_ble_eq_true rfl) dX4_setting_2 ?_
  refine g_iload_n X dX4_setting_5 rfl (lv_at hl 1 rfl) ?_
  refine g_iconst (v := 0) X dX4_setting_6 (by decide) ?_
  refine g_iconst (v := 1) X dX4_setting_7 (by decide) ?_
  obtain ⟨r8, hr8, hF⟩ := obind hF
  refine k_Sz X (As := [.int a1, .int (0 : Int32), .int (1 : Int32)]) (rest := []) (c_X4_in hI hr8) (va_cwS 3 X.ts gX4_setting_X4_in rfl rfl rfl (by decide +kernel) ⟨Nat.le_of_ble_eq_true rfl, Nat.le_of_ble_eq_true rfl⟩) rfl hl.1 rfl (Nat.le_of_ble_eq_true rfl) dX4_setting_8 (fun hz8 => ?_)
  refine g_if_eq (tgt := 25) X dX4_setting_11 (by decide) (fun hc11 => ?_) (fun hc11 => ?_)
  · have hF := ite_t hF hc11
    refine g_aload_n X dX4_setting_25 rfl (lv_at hl 0 rfl) ?_
    refine g_iconst (v := 1) X dX4_setting_26 (by decide) ?_
    obtain ⟨r27, hr27, hF⟩ := obind hF
    refine k_Vie X (As := [.int (1 : Int32)]) (rest := []) (c_X4_fails hI hr27) (cwV 1 X.ts gX4_setting_X4_fails rfl rfl rfl (by decide +kernel) ⟨Nat.le_of_ble_eq_true rfl, Nat.le_of_ble_eq_true rfl⟩) ⟨0, 4, _, _, mo_obj, rfl, rfl⟩ rfl hl.1 rfl (Nat.le_of_ble_eq_true rfl) dX4_setting_27 ?_
    exact g_iret X (pE_mk (some_inj hF)) dX4_setting_30
  · have hF := ite_f hF hc11
    refine g_aload_n X dX4_setting_14 rfl (lv_at hl 0 rfl) ?_
    refine g_get X 0 (mo_obj) in_X4_setting_X4 rfl 0 (by decide) (X.ts (.fieldLink RX4 7 "LeadTimesModel" "z" "[I") (by decide +kernel)) rfl rfl dX4_setting_15 ?_
    refine g_iconst (v := 1) X dX4_setting_18 (by decide) ?_
    refine g_iload_n X dX4_setting_19 rfl (lv_at hl 1 rfl) ?_
    refine g_iadd X dX4_setting_20 ?_
    obtain ⟨h21, hF⟩ := itn hF
    refine g_iald X 1 (j := ((1 : Int32) + a1).toNatClampNeg) (mo_arr1) (by first | rfl | decide) (inb_in h21) dX4_setting_21 ?_
    refine g_goto (tgt := 30) X dX4_setting_22 (by decide) ?_
    exact g_iret X (pE_mk (some_inj hF)) dX4_setting_30
theorem in_X4_leaderAfter_X4 : ∀ w ∈ wsX40, w ∈ wsX4_leaderAfter := by decide +kernel
def F_X4_leaderAfter (a1 : Int32) (σ : (Mem × Int64)) : Option (Int32 × (Mem × Int64)) := Option.bind (F_X4_in a1 (0 : Int32) (9999 : Int32)) (fun r10 => (if r10 = 0 then Option.bind (F_X4_fails (1 : Int32) (up2 σ.1 0 5 (0 : Int32), σ.2)) (fun r29 => some (r29.1, r29.2)) else Option.bind (F_X4_winnerAt (1 : Int32) a1.toInt64 (1 : Int64) (up2 σ.1 0 5 (0 : Int32), σ.2)) (fun r21 => some (r21, (up2 σ.1 0 5 (0 : Int32), σ.2)))))
set_option maxHeartbeats 4000000 in
set_option maxRecDepth 100000 in
theorem c_X4_leaderAfter {l : Launch} {D : va_G} {ay : Nat → ClassId} {ad : Nat → Nat} {a1 : Int32} {σ : (Mem × Int64)} {res : Int32 × (Mem × Int64)} (hI : amOK ad) (hF : F_X4_leaderAfter a1 σ = some res) : Met l yX4_leaderAfter wsX4_leaderAfter ({ frames := 3, cells := 0, slots := 0, locals := 77 } : Room) (va_Pc [.ref (ad 0), .int a1] (PP D ay (wM ay ad σ))) (va_Qi (pE res) (fun τ => PP D ay (wM ay ad τ)) (AM ad)) 0 0 (AM ad) := by
  refine g_start (wd := wM ay ad) (A := AM ad) (own := RX4) (mL := 2) (rt := (some .int)) (by decide) rfl rfl (Nat.le_of_ble_eq_true rfl) ?_
  intro p e s m below meth c ls X hl
  have hl : lv_has ls 2 [(0, .ref (ad 0)), (1, .int a1)] := hl
  rw [F_X4_leaderAfter] at hF
  refine g_aload_n X dX4_leaderAfter_0 rfl (lv_at hl 0 rfl) ?_
  refine g_iconst (v := 0) X dX4_leaderAfter_1 (by decide) ?_
  refine g_put X (wM_D hI) ((up2 σ.1 0 5 (0 : Int32), σ.2)) 0 (mo_obj) 5 (set_mo5) tyX4 tyX4_ok nmX4 in_X4_leaderAfter_X4 rfl (by decide) (X.ts (.fieldLink RX4 34 "LeadTimesModel" "thrown" "I") (by decide +kernel)) rfl rfl rfl rfl rfl (Nat.le_of_ble_eq_true rfl) dX4_leaderAfter_2 ?_
  refine g_iload_n X dX4_leaderAfter_5 rfl (lv_at hl 1 rfl) ?_
  refine g_iconst (v := 0) X dX4_leaderAfter_6 (by decide) ?_
  refine g_sipush (v := 9999) X dX4_leaderAfter_7 (by decide) ?_
  obtain ⟨r10, hr10, hF⟩ := obind hF
  refine k_Sz X (As := [.int a1, .int (0 : Int32), .int (9999 : Int32)]) (rest := []) (c_X4_in hI hr10) (va_cwS 3 X.ts gX4_leaderAfter_X4_in rfl rfl rfl (by decide +kernel) ⟨Nat.le_of_ble_eq_true rfl, Nat.le_of_ble_eq_true rfl⟩) rfl hl.1 rfl (Nat.le_of_ble_eq_true rfl) dX4_leaderAfter_10 (fun hz10 => ?_)
  refine g_if_eq (tgt := 27) X dX4_leaderAfter_13 (by decide) (fun hc13 => ?_) (fun hc13 => ?_)
  · have hF := ite_t hF hc13
    refine g_aload_n X dX4_leaderAfter_27 rfl (lv_at hl 0 rfl) ?_
    refine g_iconst (v := 1) X dX4_leaderAfter_28 (by decide) ?_
    obtain ⟨r29, hr29, hF⟩ := obind hF
    refine k_Vie X (As := [.int (1 : Int32)]) (rest := []) (c_X4_fails hI hr29) (cwV 1 X.ts gX4_leaderAfter_X4_fails rfl rfl rfl (by decide +kernel) ⟨Nat.le_of_ble_eq_true rfl, Nat.le_of_ble_eq_true rfl⟩) ⟨0, 4, _, _, mo_obj, rfl, rfl⟩ rfl hl.1 rfl (Nat.le_of_ble_eq_true rfl) dX4_leaderAfter_29 ?_
    exact g_iret X (pE_mk (some_inj hF)) dX4_leaderAfter_32
  · have hF := ite_f hF hc13
    refine g_aload_n X dX4_leaderAfter_16 rfl (lv_at hl 0 rfl) ?_
    refine g_iconst (v := 1) X dX4_leaderAfter_17 (by decide) ?_
    refine g_iload_n X dX4_leaderAfter_18 rfl (lv_at hl 1 rfl) ?_
    refine g_i2l X dX4_leaderAfter_19 ?_
    refine g_lconst (v := 1) X dX4_leaderAfter_20 (by decide) ?_
    obtain ⟨r21, hr21, hF⟩ := obind hF
    refine k_Vi X (As := [.int (1 : Int32), .long a1.toInt64, .long (1 : Int64)]) (rest := []) (c_X4_winnerAt hI hr21) (cwV 3 X.ts gX4_leaderAfter_X4_winnerAt rfl rfl rfl (by decide +kernel) ⟨Nat.le_of_ble_eq_true rfl, Nat.le_of_ble_eq_true rfl⟩) ⟨0, 4, _, _, mo_obj, rfl, rfl⟩ rfl hl.1 rfl (Nat.le_of_ble_eq_true rfl) dX4_leaderAfter_21 ?_
    refine g_goto (tgt := 32) X dX4_leaderAfter_24 (by decide) ?_
    exact g_iret X (pE_mk (some_inj hF)) dX4_leaderAfter_32
theorem in_X4_overtakeOf_X4 : ∀ w ∈ wsX40, w ∈ wsX4_overtakeOf := by decide +kernel
def F_X4_overtakeOf (a1 : Int32) (a2 : Int32) (a3 : Int32) (σ : (Mem × Int64)) : Option Int32 := (if ¬ a1 = a2 then Option.bind (F_X4_isAhead a1 a2 (0 : Int64) (1 : Int64) σ) (fun r12 => (if r12 = 0 then Option.bind (F_X4_at a1) (fun r31 => if inb (r31 + (2 : Int32)) 84 then (Option.bind (F_X4_at a2) (fun r42 => if inb (r42 + (2 : Int32)) 84 then ((if ((σ.1 1 ((r31 + (2 : Int32)).toNatClampNeg)) - (σ.1 1 ((r42 + (2 : Int32)).toNatClampNeg))) ≤ 0 then some (0 : Int32) else Option.bind (F_X4_at a2) (fun r62 => if inb (r62 + (1 : Int32)) 84 then (Option.bind (F_X4_at a1) (fun r73 => if inb (r73 + (1 : Int32)) 84 then (Option.bind (F_X4_moment ((σ.1 1 ((r62 + (1 : Int32)).toNatClampNeg)) - (σ.1 1 ((r73 + (1 : Int32)).toNatClampNeg))) ((σ.1 1 ((r31 + (2 : Int32)).toNatClampNeg)) - (σ.1 1 ((r42 + (2 : Int32)).toNatClampNeg))) a3 σ) (fun r83 => some r83)) else none)) else none))) else none)) else none) else Option.bind (F_X4_moment (0 : Int32) (1 : Int32) a3 σ) (fun r22 => some r22))) else some (0 : Int32))
set_option maxHeartbeats 4000000 in
set_option maxRecDepth 100000 in
theorem c_X4_overtakeOf {l : Launch} {D : va_G} {ay : Nat → ClassId} {ad : Nat → Nat} {a1 : Int32} {a2 : Int32} {a3 : Int32} {σ : (Mem × Int64)} {res : Int32} (hI : amOK ad) (hF : F_X4_overtakeOf a1 a2 a3 σ = some res) : Met l yX4_overtakeOf wsX4_overtakeOf ({ frames := 2, cells := 0, slots := 0, locals := 49 } : Room) (va_Pc [.ref (ad 0), .int a1, .int a2, .int a3] (PP D ay (wM ay ad σ))) (va_Qi (pP res σ) (fun τ => PP D ay (wM ay ad τ)) (AM ad)) 0 0 (AM ad) := by
  refine g_start (wd := wM ay ad) (A := AM ad) (own := RX4) (mL := 5) (rt := (some .int)) (by decide) rfl rfl (Nat.le_of_ble_eq_true rfl) ?_
  intro p e s m below meth c ls X hl
  have hl : lv_has ls 5 [(0, .ref (ad 0)), (1, .int a1), (2, .int a2), (3, .int a3)] := hl
  rw [F_X4_overtakeOf] at hF
  refine g_iload_n X dX4_overtakeOf_0 rfl (lv_at hl 1 rfl) ?_
  refine g_iload_n X dX4_overtakeOf_1 rfl (lv_at hl 2 rfl) ?_
  refine g_icmp_ne (tgt := 7) X dX4_overtakeOf_2 (by decide) (fun hc2 => ?_) (fun hc2 => ?_)
  · have hF := ite_t hF hc2
    refine g_aload_n X dX4_overtakeOf_7 rfl (lv_at hl 0 rfl) ?_
    refine g_iload_n X dX4_overtakeOf_8 rfl (lv_at hl 1 rfl) ?_
    refine g_iload_n X dX4_overtakeOf_9 rfl (lv_at hl 2 rfl) ?_
    refine g_lconst (v := 0) X dX4_overtakeOf_10 (by decide) ?_
    refine g_lconst (v := 1) X dX4_overtakeOf_11 (by decide) ?_
    obtain ⟨r12, hr12, hF⟩ := obind hF
    refine k_Vz X (As := [.int a1, .int a2, .long (0 : Int64), .long (1 : Int64)]) (rest := []) (c_X4_isAhead hI hr12) (cwV 4 X.ts gX4_overtakeOf_X4_isAhead rfl rfl rfl (by decide +kernel) ⟨Nat.le_of_ble_eq_true rfl, Nat.le_of_ble_eq_true rfl⟩) ⟨0, 4, _, _, mo_obj, rfl, rfl⟩ rfl hl.1 rfl (Nat.le_of_ble_eq_true rfl) dX4_overtakeOf_12 (fun hz12 => ?_)
    refine g_if_eq (tgt := 26) X dX4_overtakeOf_15 (by decide) (fun hc15 => ?_) (fun hc15 => ?_)
    · have hF := ite_t hF hc15
      refine g_aload_n X dX4_overtakeOf_26 rfl (lv_at hl 0 rfl) ?_
      refine g_get X 0 (mo_obj) in_X4_overtakeOf_X4 rfl 0 (by decide) (X.ts (.fieldLink RX4 7 "LeadTimesModel" "z" "[I") (by decide +kernel)) rfl rfl dX4_overtakeOf_27 ?_
      refine g_iload_n X dX4_overtakeOf_30 rfl (lv_at hl 1 rfl) ?_
      obtain ⟨r31, hr31, hF⟩ := obind hF
      refine k_Si X (As := [.int a1]) (rest := [.ref (ad 1)]) (c_X4_at hI hr31) (va_cwS 1 X.ts gX4_overtakeOf_X4_at rfl rfl rfl (by decide +kernel) ⟨Nat.le_of_ble_eq_true rfl, Nat.le_of_ble_eq_true rfl⟩) rfl hl.1 rfl (Nat.le_of_ble_eq_true rfl) dX4_overtakeOf_31 ?_
      refine g_iconst (v := 2) X dX4_overtakeOf_34 (by decide) ?_
      refine g_iadd X dX4_overtakeOf_35 ?_
      obtain ⟨h36, hF⟩ := itn hF
      refine g_iald X 1 (j := (r31 + (2 : Int32)).toNatClampNeg) (mo_arr1) (by first | rfl | decide) (inb_in h36) dX4_overtakeOf_36 ?_
      refine g_aload_n X dX4_overtakeOf_37 rfl (lv_at hl 0 rfl) ?_
      refine g_get X 0 (mo_obj) in_X4_overtakeOf_X4 rfl 0 (by decide) (X.ts (.fieldLink RX4 7 "LeadTimesModel" "z" "[I") (by decide +kernel)) rfl rfl dX4_overtakeOf_38 ?_
      refine g_iload_n X dX4_overtakeOf_41 rfl (lv_at hl 2 rfl) ?_
      obtain ⟨r42, hr42, hF⟩ := obind hF
      refine k_Si X (As := [.int a2]) (rest := [.ref (ad 1), .int (σ.1 1 ((r31 + (2 : Int32)).toNatClampNeg))]) (c_X4_at hI hr42) (va_cwS 1 X.ts gX4_overtakeOf_X4_at rfl rfl rfl (by decide +kernel) ⟨Nat.le_of_ble_eq_true rfl, Nat.le_of_ble_eq_true rfl⟩) rfl hl.1 rfl (Nat.le_of_ble_eq_true rfl) dX4_overtakeOf_42 ?_
      refine g_iconst (v := 2) X dX4_overtakeOf_45 (by decide) ?_
      refine g_iadd X dX4_overtakeOf_46 ?_
      obtain ⟨h47, hF⟩ := itn hF
      refine g_iald X 1 (j := (r42 + (2 : Int32)).toNatClampNeg) (mo_arr1) (by first | rfl | decide) (inb_in h47) dX4_overtakeOf_47 ?_
      refine g_isub X dX4_overtakeOf_48 ?_
      refine g_istore (lv' := [(4, _), (0, _), (1, _), (2, _), (3, _)]) X dX4_overtakeOf_49 hl (by decide) rfl (fun ls hl => ?_)
      refine g_iload X dX4_overtakeOf_51 (lv_at hl 0 rfl) ?_
      refine g_if_le (tgt := 89) X dX4_overtakeOf_53 (by decide) (fun hc53 => ?_) (fun hc53 => ?_)
      · have hF := ite_t hF hc53
        refine g_iconst (v := 0) X dX4_overtakeOf_89 (by decide) ?_
        exact g_iret X (pP_mk (some_inj hF)) dX4_overtakeOf_90
      · have hF := ite_f hF hc53
        refine g_aload_n X dX4_overtakeOf_56 rfl (lv_at hl 1 rfl) ?_
        refine g_aload_n X dX4_overtakeOf_57 rfl (lv_at hl 1 rfl) ?_
        refine g_get X 0 (mo_obj) in_X4_overtakeOf_X4 rfl 0 (by decide) (X.ts (.fieldLink RX4 7 "LeadTimesModel" "z" "[I") (by decide +kernel)) rfl rfl dX4_overtakeOf_58 ?_
        refine g_iload_n X dX4_overtakeOf_61 rfl (lv_at hl 3 rfl) ?_
        obtain ⟨r62, hr62, hF⟩ := obind hF
        refine k_Si X (As := [.int a2]) (rest := [.ref (ad 1), .ref (ad 0)]) (c_X4_at hI hr62) (va_cwS 1 X.ts gX4_overtakeOf_X4_at rfl rfl rfl (by decide +kernel) ⟨Nat.le_of_ble_eq_true rfl, Nat.le_of_ble_eq_true rfl⟩) rfl hl.1 rfl (Nat.le_of_ble_eq_true rfl) dX4_overtakeOf_62 ?_
        refine g_iconst (v := 1) X dX4_overtakeOf_65 (by decide) ?_
        refine g_iadd X dX4_overtakeOf_66 ?_
        obtain ⟨h67, hF⟩ := itn hF
        refine g_iald X 1 (j := (r62 + (1 : Int32)).toNatClampNeg) (mo_arr1) (by first | rfl | decide) (inb_in h67) dX4_overtakeOf_67 ?_
        refine g_aload_n X dX4_overtakeOf_68 rfl (lv_at hl 1 rfl) ?_
        refine g_get X 0 (mo_obj) in_X4_overtakeOf_X4 rfl 0 (by decide) (X.ts (.fieldLink RX4 7 "LeadTimesModel" "z" "[I") (by decide +kernel)) rfl rfl dX4_overtakeOf_69 ?_
        refine g_iload_n X dX4_overtakeOf_72 rfl (lv_at hl 2 rfl) ?_
        obtain ⟨r73, hr73, hF⟩ := obind hF
        refine k_Si X (As := [.int a1]) (rest := [.ref (ad 1), .int (σ.1 1 ((r62 + (1 : Int32)).toNatClampNeg)), .ref (ad 0)]) (c_X4_at hI hr73) (va_cwS 1 X.ts gX4_overtakeOf_X4_at rfl rfl rfl (by decide +kernel) ⟨Nat.le_of_ble_eq_true rfl, Nat.le_of_ble_eq_true rfl⟩) rfl hl.1 rfl (Nat.le_of_ble_eq_true rfl) dX4_overtakeOf_73 ?_
        refine g_iconst (v := 1) X dX4_overtakeOf_76 (by decide) ?_
        refine g_iadd X dX4_overtakeOf_77 ?_
        obtain ⟨h78, hF⟩ := itn hF
        refine g_iald X 1 (j := (r73 + (1 : Int32)).toNatClampNeg) (mo_arr1) (by first | rfl | decide) (inb_in h78) dX4_overtakeOf_78 ?_
        refine g_isub X dX4_overtakeOf_79 ?_
        refine g_iload X dX4_overtakeOf_80 (lv_at hl 0 rfl) ?_
        refine g_iload_n X dX4_overtakeOf_82 rfl (lv_at hl 4 rfl) ?_
        obtain ⟨r83, hr83, hF⟩ := obind hF
        refine k_Vi X (As := [.int ((σ.1 1 ((r62 + (1 : Int32)).toNatClampNeg)) - (σ.1 1 ((r73 + (1 : Int32)).toNatClampNeg))), .int ((σ.1 1 ((r31 + (2 : Int32)).toNatClampNeg)) - (σ.1 1 ((r42 + (2 : Int32)).toNatClampNeg))), .int a3]) (rest := []) (c_X4_moment hI hr83) (cwV 3 X.ts gX4_overtakeOf_X4_moment rfl rfl rfl (by decide +kernel) ⟨Nat.le_of_ble_eq_true rfl, Nat.le_of_ble_eq_true rfl⟩) ⟨0, 4, _, _, mo_obj, rfl, rfl⟩ rfl hl.1 rfl (Nat.le_of_ble_eq_true rfl) dX4_overtakeOf_83 ?_
        refine g_goto (tgt := 90) X dX4_overtakeOf_86 (by decide) ?_
        exact g_iret X (pP_mk (some_inj hF)) dX4_overtakeOf_90
    · have hF := ite_f hF hc15
      refine g_aload_n X dX4_overtakeOf_18 rfl (lv_at hl 0 rfl) ?_
      refine g_iconst (v := 0) X dX4_overtakeOf_19 (by decide) ?_
      refine g_iconst (v := 1) X dX4_overtakeOf_20 (by decide) ?_
      refine g_iload_n X dX4_overtakeOf_21 rfl (lv_at hl 3 rfl) ?_
      obtain ⟨r22, hr22, hF⟩ := obind hF
      refine k_Vi X (As := [.int (0 : Int32), .int (1 : Int32), .int a3]) (rest := []) (c_X4_moment hI hr22) (cwV 3 X.ts gX4_overtakeOf_X4_moment rfl rfl rfl (by decide +kernel) ⟨Nat.le_of_ble_eq_true rfl, Nat.le_of_ble_eq_true rfl⟩) ⟨0, 4, _, _, mo_obj, rfl, rfl⟩ rfl hl.1 rfl (Nat.le_of_ble_eq_true rfl) dX4_overtakeOf_22 ?_
      exact g_iret X (pP_mk (some_inj hF)) dX4_overtakeOf_25
  · have hF := ite_n hF hc2
    refine g_iconst (v := 0) X dX4_overtakeOf_5 (by decide) ?_
    exact g_iret X (pP_mk (some_inj hF)) dX4_overtakeOf_6
theorem in_X4_overtakes_X4 : ∀ w ∈ wsX40, w ∈ wsX4_overtakes := by decide +kernel
def F_X4_overtakes (a1 : Int32) (a2 : Int32) (a3 : Int32) (σ : (Mem × Int64)) : Option (Int32 × (Mem × Int64)) := Option.bind (F_X4_isMover a1 (up2 σ.1 0 5 (0 : Int32), σ.2)) (fun r7 => (if r7 = 0 then Option.bind (F_X4_fails (1 : Int32) (up2 σ.1 0 5 (0 : Int32), σ.2)) (fun r23 => some (r23.1, r23.2)) else Option.bind (F_X4_isMover a2 (up2 σ.1 0 5 (0 : Int32), σ.2)) (fun r15 => (if ¬ r15 = 0 then Option.bind (F_X4_in a3 (0 : Int32) (1 : Int32)) (fun r30 => (if r30 = 0 then Option.bind (F_X4_fails (2 : Int32) (up2 σ.1 0 5 (0 : Int32), σ.2)) (fun r48 => some (r48.1, r48.2)) else Option.bind (F_X4_overtakeOf a1 a2 a3 (up2 σ.1 0 5 (0 : Int32), σ.2)) (fun r40 => some (r40, (up2 σ.1 0 5 (0 : Int32), σ.2))))) else Option.bind (F_X4_fails (1 : Int32) (up2 σ.1 0 5 (0 : Int32), σ.2)) (fun r23 => some (r23.1, r23.2))))))
set_option maxHeartbeats 4000000 in
set_option maxRecDepth 100000 in
theorem c_X4_overtakes {l : Launch} {D : va_G} {ay : Nat → ClassId} {ad : Nat → Nat} {a1 : Int32} {a2 : Int32} {a3 : Int32} {σ : (Mem × Int64)} {res : Int32 × (Mem × Int64)} (hI : amOK ad) (hF : F_X4_overtakes a1 a2 a3 σ = some res) : Met l yX4_overtakes wsX4_overtakes ({ frames := 3, cells := 0, slots := 0, locals := 73 } : Room) (va_Pc [.ref (ad 0), .int a1, .int a2, .int a3] (PP D ay (wM ay ad σ))) (va_Qi (pE res) (fun τ => PP D ay (wM ay ad τ)) (AM ad)) 0 0 (AM ad) := by
  refine g_start (wd := wM ay ad) (A := AM ad) (own := RX4) (mL := 4) (rt := (some .int)) (by decide) rfl rfl (Nat.le_of_ble_eq_true rfl) ?_
  intro p e s m below meth c ls X hl
  have hl : lv_has ls 4 [(0, .ref (ad 0)), (1, .int a1), (2, .int a2), (3, .int a3)] := hl
  rw [F_X4_overtakes] at hF
  refine g_aload_n X dX4_overtakes_0 rfl (lv_at hl 0 rfl) ?_
  refine g_iconst (v := 0) X dX4_overtakes_1 (by decide) ?_
  refine g_put X (wM_D hI) ((up2 σ.1 0 5 (0 : Int32), σ.2)) 0 (mo_obj) 5 (set_mo5) tyX4 tyX4_ok nmX4 in_X4_overtakes_X4 rfl (by decide) (X.ts (.fieldLink RX4 34 "LeadTimesModel" "thrown" "I") (by decide +kernel)) rfl rfl rfl rfl rfl (Nat.le_of_ble_eq_true rfl) dX4_overtakes_2 ?_
  refine g_aload_n X dX4_overtakes_5 rfl (lv_at hl 0 rfl) ?_
  refine g_iload_n X dX4_overtakes_6 rfl (lv_at hl 1 rfl) ?_
  obtain ⟨r7, hr7, hF⟩ := obind hF
  refine k_Vz X (As := [.int a1]) (rest := []) (c_X4_isMover hI hr7) (cwV 1 X.ts gX4_overtakes_X4_isMover rfl rfl rfl (by decide +kernel) ⟨Nat.le_of_ble_eq_true rfl, Nat.le_of_ble_eq_true rfl⟩) ⟨0, 4, _, _, mo_obj, rfl, rfl⟩ rfl hl.1 rfl (Nat.le_of_ble_eq_true rfl) dX4_overtakes_7 (fun hz7 => ?_)
  refine g_if_eq (tgt := 21) X dX4_overtakes_10 (by decide) (fun hc10 => ?_) (fun hc10 => ?_)
  · have hF := ite_t hF hc10
    refine g_aload_n X dX4_overtakes_21 rfl (lv_at hl 0 rfl) ?_
    refine g_iconst (v := 1) X dX4_overtakes_22 (by decide) ?_
    obtain ⟨r23, hr23, hF⟩ := obind hF
    refine k_Vie X (As := [.int (1 : Int32)]) (rest := []) (c_X4_fails hI hr23) (cwV 1 X.ts gX4_overtakes_X4_fails rfl rfl rfl (by decide +kernel) ⟨Nat.le_of_ble_eq_true rfl, Nat.le_of_ble_eq_true rfl⟩) ⟨0, 4, _, _, mo_obj, rfl, rfl⟩ rfl hl.1 rfl (Nat.le_of_ble_eq_true rfl) dX4_overtakes_23 ?_
    exact g_iret X (pE_mk (some_inj hF)) dX4_overtakes_26
  · have hF := ite_f hF hc10
    refine g_aload_n X dX4_overtakes_13 rfl (lv_at hl 0 rfl) ?_
    refine g_iload_n X dX4_overtakes_14 rfl (lv_at hl 2 rfl) ?_
    obtain ⟨r15, hr15, hF⟩ := obind hF
    refine k_Vz X (As := [.int a2]) (rest := []) (c_X4_isMover hI hr15) (cwV 1 X.ts gX4_overtakes_X4_isMover rfl rfl rfl (by decide +kernel) ⟨Nat.le_of_ble_eq_true rfl, Nat.le_of_ble_eq_true rfl⟩) ⟨0, 4, _, _, mo_obj, rfl, rfl⟩ rfl hl.1 rfl (Nat.le_of_ble_eq_true rfl) dX4_overtakes_15 (fun hz15 => ?_)
    refine g_if_ne (tgt := 27) X dX4_overtakes_18 (by decide) (fun hc18 => ?_) (fun hc18 => ?_)
    · have hF := ite_t hF hc18
      refine g_iload_n X dX4_overtakes_27 rfl (lv_at hl 3 rfl) ?_
      refine g_iconst (v := 0) X dX4_overtakes_28 (by decide) ?_
      refine g_iconst (v := 1) X dX4_overtakes_29 (by decide) ?_
      obtain ⟨r30, hr30, hF⟩ := obind hF
      refine k_Sz X (As := [.int a3, .int (0 : Int32), .int (1 : Int32)]) (rest := []) (c_X4_in hI hr30) (va_cwS 3 X.ts gX4_overtakes_X4_in rfl rfl rfl (by decide +kernel) ⟨Nat.le_of_ble_eq_true rfl, Nat.le_of_ble_eq_true rfl⟩) rfl hl.1 rfl (Nat.le_of_ble_eq_true rfl) dX4_overtakes_30 (fun hz30 => ?_)
      refine g_if_eq (tgt := 46) X dX4_overtakes_33 (by decide) (fun hc33 => ?_) (fun hc33 => ?_)
      · have hF := ite_t hF hc33
        refine g_aload_n X dX4_overtakes_46 rfl (lv_at hl 0 rfl) ?_
        refine g_iconst (v := 2) X dX4_overtakes_47 (by decide) ?_
        obtain ⟨r48, hr48, hF⟩ := obind hF
        refine k_Vie X (As := [.int (2 : Int32)]) (rest := []) (c_X4_fails hI hr48) (cwV 1 X.ts gX4_overtakes_X4_fails rfl rfl rfl (by decide +kernel) ⟨Nat.le_of_ble_eq_true rfl, Nat.le_of_ble_eq_true rfl⟩) ⟨0, 4, _, _, mo_obj, rfl, rfl⟩ rfl hl.1 rfl (Nat.le_of_ble_eq_true rfl) dX4_overtakes_48 ?_
        exact g_iret X (pE_mk (some_inj hF)) dX4_overtakes_51
      · have hF := ite_f hF hc33
        refine g_aload_n X dX4_overtakes_36 rfl (lv_at hl 0 rfl) ?_
        refine g_iload_n X dX4_overtakes_37 rfl (lv_at hl 1 rfl) ?_
        refine g_iload_n X dX4_overtakes_38 rfl (lv_at hl 2 rfl) ?_
        refine g_iload_n X dX4_overtakes_39 rfl (lv_at hl 3 rfl) ?_
        obtain ⟨r40, hr40, hF⟩ := obind hF
        refine k_Vi X (As := [.int a1, .int a2, .int a3]) (rest := []) (c_X4_overtakeOf hI hr40) (cwV 3 X.ts gX4_overtakes_X4_overtakeOf rfl rfl rfl (by decide +kernel) ⟨Nat.le_of_ble_eq_true rfl, Nat.le_of_ble_eq_true rfl⟩) ⟨0, 4, _, _, mo_obj, rfl, rfl⟩ rfl hl.1 rfl (Nat.le_of_ble_eq_true rfl) dX4_overtakes_40 ?_
        refine g_goto (tgt := 51) X dX4_overtakes_43 (by decide) ?_
        exact g_iret X (pE_mk (some_inj hF)) dX4_overtakes_51
    · have hF := ite_n hF hc18
      refine g_aload_n X dX4_overtakes_21 rfl (lv_at hl 0 rfl) ?_
      refine g_iconst (v := 1) X dX4_overtakes_22 (by decide) ?_
      obtain ⟨r23, hr23, hF⟩ := obind hF
      refine k_Vie X (As := [.int (1 : Int32)]) (rest := []) (c_X4_fails hI hr23) (cwV 1 X.ts gX4_overtakes_X4_fails rfl rfl rfl (by decide +kernel) ⟨Nat.le_of_ble_eq_true rfl, Nat.le_of_ble_eq_true rfl⟩) ⟨0, 4, _, _, mo_obj, rfl, rfl⟩ rfl hl.1 rfl (Nat.le_of_ble_eq_true rfl) dX4_overtakes_23 ?_
      exact g_iret X (pE_mk (some_inj hF)) dX4_overtakes_26
theorem in_X4_turnsIn_X4 : ∀ w ∈ wsX40, w ∈ wsX4_turnsIn := by decide +kernel
def F_X4_turnsIn (a1 : Int32) (σ : (Mem × Int64)) : Option (Int32 × (Mem × Int64)) := Option.bind (F_X4_in a1 (0 : Int32) (999 : Int32)) (fun r10 => (if r10 = 0 then Option.bind (F_X4_fails (1 : Int32) (up2 σ.1 0 5 (0 : Int32), σ.2)) (fun r26 => some (r26.1, r26.2)) else Option.bind (F_X4_turnsAll a1 (up2 σ.1 0 5 (0 : Int32), σ.2)) (fun r18 => some (r18.1, r18.2))))
set_option maxHeartbeats 4000000 in
set_option maxRecDepth 100000 in
theorem c_X4_turnsIn {l : Launch} {D : va_G} {ay : Nat → ClassId} {ad : Nat → Nat} {a1 : Int32} {σ : (Mem × Int64)} {res : Int32 × (Mem × Int64)} (hI : amOK ad) (hF : F_X4_turnsIn a1 σ = some res) : Met l yX4_turnsIn wsX4_turnsIn ({ frames := 6, cells := 0, slots := 0, locals := 145 } : Room) (va_Pc [.ref (ad 0), .int a1] (PP D ay (wM ay ad σ))) (va_Qi (pE res) (fun τ => PP D ay (wM ay ad τ)) (AM ad)) 0 0 (AM ad) := by
  refine g_start (wd := wM ay ad) (A := AM ad) (own := RX4) (mL := 2) (rt := (some .int)) (by decide) rfl rfl (Nat.le_of_ble_eq_true rfl) ?_
  intro p e s m below meth c ls X hl
  have hl : lv_has ls 2 [(0, .ref (ad 0)), (1, .int a1)] := hl
  rw [F_X4_turnsIn] at hF
  refine g_aload_n X dX4_turnsIn_0 rfl (lv_at hl 0 rfl) ?_
  refine g_iconst (v := 0) X dX4_turnsIn_1 (by decide) ?_
  refine g_put X (wM_D hI) ((up2 σ.1 0 5 (0 : Int32), σ.2)) 0 (mo_obj) 5 (set_mo5) tyX4 tyX4_ok nmX4 in_X4_turnsIn_X4 rfl (by decide) (X.ts (.fieldLink RX4 34 "LeadTimesModel" "thrown" "I") (by decide +kernel)) rfl rfl rfl rfl rfl (Nat.le_of_ble_eq_true rfl) dX4_turnsIn_2 ?_
  refine g_iload_n X dX4_turnsIn_5 rfl (lv_at hl 1 rfl) ?_
  refine g_iconst (v := 0) X dX4_turnsIn_6 (by decide) ?_
  refine g_sipush (v := 999) X dX4_turnsIn_7 (by decide) ?_
  obtain ⟨r10, hr10, hF⟩ := obind hF
  refine k_Sz X (As := [.int a1, .int (0 : Int32), .int (999 : Int32)]) (rest := []) (c_X4_in hI hr10) (va_cwS 3 X.ts gX4_turnsIn_X4_in rfl rfl rfl (by decide +kernel) ⟨Nat.le_of_ble_eq_true rfl, Nat.le_of_ble_eq_true rfl⟩) rfl hl.1 rfl (Nat.le_of_ble_eq_true rfl) dX4_turnsIn_10 (fun hz10 => ?_)
  refine g_if_eq (tgt := 24) X dX4_turnsIn_13 (by decide) (fun hc13 => ?_) (fun hc13 => ?_)
  · have hF := ite_t hF hc13
    refine g_aload_n X dX4_turnsIn_24 rfl (lv_at hl 0 rfl) ?_
    refine g_iconst (v := 1) X dX4_turnsIn_25 (by decide) ?_
    obtain ⟨r26, hr26, hF⟩ := obind hF
    refine k_Vie X (As := [.int (1 : Int32)]) (rest := []) (c_X4_fails hI hr26) (cwV 1 X.ts gX4_turnsIn_X4_fails rfl rfl rfl (by decide +kernel) ⟨Nat.le_of_ble_eq_true rfl, Nat.le_of_ble_eq_true rfl⟩) ⟨0, 4, _, _, mo_obj, rfl, rfl⟩ rfl hl.1 rfl (Nat.le_of_ble_eq_true rfl) dX4_turnsIn_26 ?_
    exact g_iret X (pE_mk (some_inj hF)) dX4_turnsIn_29
  · have hF := ite_f hF hc13
    refine g_aload_n X dX4_turnsIn_16 rfl (lv_at hl 0 rfl) ?_
    refine g_iload_n X dX4_turnsIn_17 rfl (lv_at hl 1 rfl) ?_
    obtain ⟨r18, hr18, hF⟩ := obind hF
    refine k_Vie X (As := [.int a1]) (rest := []) (c_X4_turnsAll hI hr18) (cwV 1 X.ts gX4_turnsIn_X4_turnsAll rfl rfl rfl (by decide +kernel) ⟨Nat.le_of_ble_eq_true rfl, Nat.le_of_ble_eq_true rfl⟩) ⟨0, 4, _, _, mo_obj, rfl, rfl⟩ rfl hl.1 rfl (Nat.le_of_ble_eq_true rfl) dX4_turnsIn_18 ?_
    refine g_goto (tgt := 29) X dX4_turnsIn_21 (by decide) ?_
    exact g_iret X (pE_mk (some_inj hF)) dX4_turnsIn_29
theorem in_X4_speedFor_X4 : ∀ w ∈ wsX40, w ∈ wsX4_speedFor := by decide +kernel
def L_X4_speedFor_20 (a1 : Int32) (a2 : Int32) (a3 : Int32) : Nat → Int32 → Int32 → (Mem × Int64) → Option (Int32 × (Mem × Int64))
  | 0, _, _, _ => none
  | fu + 1, a4, a5, σ => (if (100 : Int32) ≤ a5 then some (a4, σ) else (if ¬ a4 = (-100 : Int32) then some (a4, σ) else Option.bind (F_X4_at a1) (fun r39 => if inb (r39 + (2 : Int32)) 84 then (Option.bind (F_X4_winnerAt (1 : Int32) a2.toInt64 (1 : Int64) (up2 σ.1 1 ((r39 + (2 : Int32)).toNatClampNeg) a5, σ.2)) (fun r52 => (Option.bind (if ¬ r52 = a1 then some a4 else some a5) (fun v56 : Int32 => L_X4_speedFor_20 a1 a2 a3 fu v56 (a5 + 1) (up2 σ.1 1 ((r39 + (2 : Int32)).toNatClampNeg) a5, σ.2))))) else none)))
set_option maxHeartbeats 4000000 in
set_option maxRecDepth 100000 in
theorem w_X4_speedFor_20 {D : va_G} {ay : Nat → ClassId} {ad : Nat → Nat} {p : Program} {l : Launch} {e : Env} {s : State} {m : MethodId} {args : Array Value} {below : List Frame} {meth : Method} {c : Code} {Q : State → Prop} {a1 : Int32} {a2 : Int32} {a3 : Int32} {res : Int32 × (Mem × Int64)} (X : CX D ay p s m args meth c cX4_speedFor 6 RX4 (some .int) wsX4_speedFor) (hI : amOK ad) (K : ∀ ls : Array Slot, lv_has ls 6 [(0, .ref (ad 0)), (1, .int a1), (3, .int a3), (4, .int res.1)] → GW D (wM ay ad) (AM ad) p l e ({ frames := 3, cells := 0, slots := 0, locals := 77 } : Room) s m args below meth c Q res.2 (F0 m 74 ls [])) : ∀ (fu : Nat) (a4 : Int32) (a5 : Int32) (σ : (Mem × Int64)), L_X4_speedFor_20 a1 a2 a3 fu a4 a5 σ = some res → ∀ ls : Array Slot, lv_has ls 6 [(0, .ref (ad 0)), (1, .int a1), (2, .int a2), (3, .int a3), (4, .int a4), (5, .int a5)] → GW D (wM ay ad) (AM ad) p l e ({ frames := 3, cells := 0, slots := 0, locals := 77 } : Room) s m args below meth c Q σ (F0 m 20 ls []) := by
  intro fu
  induction fu with
  | zero =>
    intro a4 a5 σ hF ls hl
    rw [L_X4_speedFor_20] at hF
    cases hF
  | succ fu ih =>
    intro a4 a5 σ hF ls hl
    rw [L_X4_speedFor_20] at hF
    refine g_iload X dX4_speedFor_20 (lv_at hl 5 rfl) ?_
    refine g_bipush (v := 100) X dX4_speedFor_22 (by decide) ?_
    refine g_icmp_ge (tgt := 74) X dX4_speedFor_24 (by decide) (fun hc24 => ?_) (fun hc24 => ?_)
    · have hF := ite_t hF hc24
      have e20 := some_inj hF
      subst e20
      exact K ls (lv_sub hl [0, 1, 3, 4] rfl)
    · have hF := ite_f hF hc24
      refine g_iload X dX4_speedFor_27 (lv_at hl 4 rfl) ?_
      refine g_bipush (v := -100) X dX4_speedFor_29 (by decide) ?_
      refine g_icmp_ne (tgt := 74) X dX4_speedFor_31 (by decide) (fun hc31 => ?_) (fun hc31 => ?_)
      · have hF := ite_t hF hc31
        have e20 := some_inj hF
        subst e20
        exact K ls (lv_sub hl [0, 1, 3, 4] rfl)
      · have hF := ite_n hF hc31
        refine g_aload_n X dX4_speedFor_34 rfl (lv_at hl 0 rfl) ?_
        refine g_get X 0 (mo_obj) in_X4_speedFor_X4 rfl 0 (by decide) (X.ts (.fieldLink RX4 7 "LeadTimesModel" "z" "[I") (by decide +kernel)) rfl rfl dX4_speedFor_35 ?_
        refine g_iload_n X dX4_speedFor_38 rfl (lv_at hl 1 rfl) ?_
        obtain ⟨r39, hr39, hF⟩ := obind hF
        refine k_Si X (As := [.int a1]) (rest := [.ref (ad 1)]) (c_X4_at hI hr39) (va_cwS 1 X.ts gX4_speedFor_X4_at rfl rfl rfl (by decide +kernel) ⟨Nat.le_of_ble_eq_true rfl, Nat.le_of_ble_eq_true rfl⟩) rfl hl.1 rfl (Nat.le_of_ble_eq_true rfl) dX4_speedFor_39 ?_
        refine g_iconst (v := 2) X dX4_speedFor_42 (by decide) ?_
        refine g_iadd X dX4_speedFor_43 ?_
        refine g_iload X dX4_speedFor_44 (lv_at hl 5 rfl) ?_
        obtain ⟨h46, hF⟩ := itn hF
        refine g_iast X (wM_D hI) ((up2 σ.1 1 ((r39 + (2 : Int32)).toNatClampNeg) a5, σ.2)) 1 (j := (r39 + (2 : Int32)).toNatClampNeg) (mo_arr1) (by first | rfl | decide) (set_arrM (a := 0) (n := 84) (fun τ => mo_arr1)) (inb_in h46) dX4_speedFor_46 ?_
        refine g_aload_n X dX4_speedFor_47 rfl (lv_at hl 0 rfl) ?_
        refine g_iconst (v := 1) X dX4_speedFor_48 (by decide) ?_
        refine g_iload_n X dX4_speedFor_49 rfl (lv_at hl 2 rfl) ?_
        refine g_i2l X dX4_speedFor_50 ?_
        refine g_lconst (v := 1) X dX4_speedFor_51 (by decide) ?_
        obtain ⟨r52, hr52, hF⟩ := obind hF
        refine k_Vi X (As := [.int (1 : Int32), .long a2.toInt64, .long (1 : Int64)]) (rest := []) (c_X4_winnerAt hI hr52) (cwV 3 X.ts gX4_speedFor_X4_winnerAt rfl rfl rfl (by decide +kernel) ⟨Nat.le_of_ble_eq_true rfl, Nat.le_of_ble_eq_true rfl⟩) ⟨0, 4, _, _, mo_obj, rfl, rfl⟩ rfl hl.1 rfl (Nat.le_of_ble_eq_true rfl) dX4_speedFor_52 ?_
        refine g_iload_n X dX4_speedFor_55 rfl (lv_at hl 1 rfl) ?_
        obtain ⟨v56, hR56, hF⟩ := obind hF
        refine g_cut (nM := 6) [(0, .ref (ad 0)), (1, .int a1), (2, .int a2), (3, .int a3), (5, .int a5)] ((up2 σ.1 1 ((r39 + (2 : Int32)).toNatClampNeg) a5, σ.2)) 66 [.int v56] (fun ls hl => ?_) (fun J56 => ?_)
        · refine g_istore (lv' := [(4, _), (0, _), (1, _), (2, _), (3, _), (5, _)]) X dX4_speedFor_66 hl (by decide) rfl (fun ls hl => ?_)
          refine g_iinc (v := a5 + 1) (lv' := [(5, _), (4, _), (0, _), (1, _), (2, _), (3, _)]) X dX4_speedFor_68 hl (k := 5) rfl rfl (by decide) rfl (fun ls hl => ?_)
          refine g_goto (tgt := 20) X dX4_speedFor_71 (by decide) ?_
          exact ih v56 (a5 + 1) (up2 σ.1 1 ((r39 + (2 : Int32)).toNatClampNeg) a5, σ.2) hF ls (lv_sub hl [2, 3, 4, 5, 1, 0] rfl)
        · refine g_icmp_ne (tgt := 64) X dX4_speedFor_56 (by decide) (fun hc56 => ?_) (fun hc56 => ?_)
          · have hR56 := ite_t hR56 hc56
            refine g_iload X dX4_speedFor_64 (lv_at hl 4 rfl) ?_
            have e56 := some_inj hR56
            subst e56
            exact J56 ls (lv_sub hl [0, 1, 2, 3, 5] rfl)
          · have hR56 := ite_n hR56 hc56
            refine g_iload X dX4_speedFor_59 (lv_at hl 5 rfl) ?_
            refine g_goto (tgt := 66) X dX4_speedFor_61 (by decide) ?_
            have e56 := some_inj hR56
            subst e56
            exact J56 ls (lv_sub hl [0, 1, 2, 3, 5] rfl)
def F_X4_speedFor (a1 : Int32) (a2 : Int32) (σ : (Mem × Int64)) : Option (Int32 × (Mem × Int64)) := Option.bind (F_X4_at a1) (fun r5 => if inb (r5 + (2 : Int32)) 84 then (Option.bind (L_X4_speedFor_20 a1 a2 (σ.1 1 ((r5 + (2 : Int32)).toNatClampNeg)) FU (-100 : Int32) (-99 : Int32) σ) (fun v20 : Int32 × (Mem × Int64) => Option.bind (F_X4_at a1) (fun r79 => if inb (r79 + (2 : Int32)) 84 then (some (v20.1, (up2 v20.2.1 1 ((r79 + (2 : Int32)).toNatClampNeg) (σ.1 1 ((r5 + (2 : Int32)).toNatClampNeg)), v20.2.2))) else none))) else none)
set_option maxHeartbeats 4000000 in
set_option maxRecDepth 100000 in
theorem c_X4_speedFor {l : Launch} {D : va_G} {ay : Nat → ClassId} {ad : Nat → Nat} {a1 : Int32} {a2 : Int32} {σ : (Mem × Int64)} {res : Int32 × (Mem × Int64)} (hI : amOK ad) (hF : F_X4_speedFor a1 a2 σ = some res) : Met l yX4_speedFor wsX4_speedFor ({ frames := 3, cells := 0, slots := 0, locals := 77 } : Room) (va_Pc [.ref (ad 0), .int a1, .int a2] (PP D ay (wM ay ad σ))) (va_Qi (pE res) (fun τ => PP D ay (wM ay ad τ)) (AM ad)) 0 0 (AM ad) := by
  refine g_start (wd := wM ay ad) (A := AM ad) (own := RX4) (mL := 6) (rt := (some .int)) (by decide) rfl rfl (Nat.le_of_ble_eq_true rfl) ?_
  intro p e s m below meth c ls X hl
  have hl : lv_has ls 6 [(0, .ref (ad 0)), (1, .int a1), (2, .int a2)] := hl
  rw [F_X4_speedFor] at hF
  refine g_aload_n X dX4_speedFor_0 rfl (lv_at hl 0 rfl) ?_
  refine g_get X 0 (mo_obj) in_X4_speedFor_X4 rfl 0 (by decide) (X.ts (.fieldLink RX4 7 "LeadTimesModel" "z" "[I") (by decide +kernel)) rfl rfl dX4_speedFor_1 ?_
  refine g_iload_n X dX4_speedFor_4 rfl (lv_at hl 1 rfl) ?_
  obtain ⟨r5, hr5, hF⟩ := obind hF
  refine k_Si X (As := [.int a1]) (rest := [.ref (ad 1)]) (c_X4_at hI hr5) (va_cwS 1 X.ts gX4_speedFor_X4_at rfl rfl rfl (by decide +kernel) ⟨Nat.le_of_ble_eq_true rfl, Nat.le_of_ble_eq_true rfl⟩) rfl hl.1 rfl (Nat.le_of_ble_eq_true rfl) dX4_speedFor_5 ?_
  refine g_iconst (v := 2) X dX4_speedFor_8 (by decide) ?_
  refine g_iadd X dX4_speedFor_9 ?_
  obtain ⟨h10, hF⟩ := itn hF
  refine g_iald X 1 (j := (r5 + (2 : Int32)).toNatClampNeg) (mo_arr1) (by first | rfl | decide) (inb_in h10) dX4_speedFor_10 ?_
  refine g_istore_n (lv' := [(3, _), (0, _), (1, _), (2, _)]) X dX4_speedFor_11 rfl hl (by decide) rfl (fun ls hl => ?_)
  refine g_bipush (v := -100) X dX4_speedFor_12 (by decide) ?_
  refine g_istore (lv' := [(4, _), (3, _), (0, _), (1, _), (2, _)]) X dX4_speedFor_14 hl (by decide) rfl (fun ls hl => ?_)
  refine g_bipush (v := -99) X dX4_speedFor_16 (by decide) ?_
  refine g_istore (lv' := [(5, _), (4, _), (3, _), (0, _), (1, _), (2, _)]) X dX4_speedFor_18 hl (by decide) rfl (fun ls hl => ?_)
  obtain ⟨v20, hL20, hF⟩ := obind hF
  refine w_X4_speedFor_20 X hI (fun ls hl => ?_) FU (-100 : Int32) (-99 : Int32) σ hL20 ls (lv_sub hl [3, 4, 5, 2, 1, 0] rfl)
  refine g_aload_n X dX4_speedFor_74 rfl (lv_at hl 0 rfl) ?_
  refine g_get X 0 (mo_obj) in_X4_speedFor_X4 rfl 0 (by decide) (X.ts (.fieldLink RX4 7 "LeadTimesModel" "z" "[I") (by decide +kernel)) rfl rfl dX4_speedFor_75 ?_
  refine g_iload_n X dX4_speedFor_78 rfl (lv_at hl 1 rfl) ?_
  obtain ⟨r79, hr79, hF⟩ := obind hF
  refine k_Si X (As := [.int a1]) (rest := [.ref (ad 1)]) (c_X4_at hI hr79) (va_cwS 1 X.ts gX4_speedFor_X4_at rfl rfl rfl (by decide +kernel) ⟨Nat.le_of_ble_eq_true rfl, Nat.le_of_ble_eq_true rfl⟩) rfl hl.1 rfl (Nat.le_of_ble_eq_true rfl) dX4_speedFor_79 ?_
  refine g_iconst (v := 2) X dX4_speedFor_82 (by decide) ?_
  refine g_iadd X dX4_speedFor_83 ?_
  refine g_iload_n X dX4_speedFor_84 rfl (lv_at hl 2 rfl) ?_
  obtain ⟨h85, hF⟩ := itn hF
  refine g_iast X (wM_D hI) ((up2 v20.2.1 1 ((r79 + (2 : Int32)).toNatClampNeg) (σ.1 1 ((r5 + (2 : Int32)).toNatClampNeg)), v20.2.2)) 1 (j := (r79 + (2 : Int32)).toNatClampNeg) (mo_arr1) (by first | rfl | decide) (set_arrM (a := 0) (n := 84) (fun τ => mo_arr1)) (inb_in h85) dX4_speedFor_85 ?_
  refine g_iload X dX4_speedFor_86 (lv_at hl 3 rfl) ?_
  exact g_iret X (pE_mk (some_inj hF)) dX4_speedFor_88
theorem in_X4_leastSpeed_X4 : ∀ w ∈ wsX40, w ∈ wsX4_leastSpeed := by decide +kernel
def F_X4_leastSpeed (a1 : Int32) (a2 : Int32) (σ : (Mem × Int64)) : Option (Int32 × (Mem × Int64)) := Option.bind (F_X4_isMover a1 (up2 σ.1 0 5 (0 : Int32), σ.2)) (fun r7 => (if ¬ r7 = 0 then Option.bind (F_X4_in a2 (0 : Int32) (999 : Int32)) (fun r24 => (if r24 = 0 then Option.bind (F_X4_fails (2 : Int32) (up2 σ.1 0 5 (0 : Int32), σ.2)) (fun r41 => some (r41.1, r41.2)) else Option.bind (F_X4_speedFor a1 a2 (up2 σ.1 0 5 (0 : Int32), σ.2)) (fun r33 => some (r33.1, r33.2)))) else Option.bind (F_X4_fails (1 : Int32) (up2 σ.1 0 5 (0 : Int32), σ.2)) (fun r15 => some (r15.1, r15.2))))
set_option maxHeartbeats 4000000 in
set_option maxRecDepth 100000 in
theorem c_X4_leastSpeed {l : Launch} {D : va_G} {ay : Nat → ClassId} {ad : Nat → Nat} {a1 : Int32} {a2 : Int32} {σ : (Mem × Int64)} {res : Int32 × (Mem × Int64)} (hI : amOK ad) (hF : F_X4_leastSpeed a1 a2 σ = some res) : Met l yX4_leastSpeed wsX4_leastSpeed ({ frames := 4, cells := 0, slots := 0, locals := 102 } : Room) (va_Pc [.ref (ad 0), .int a1, .int a2] (PP D ay (wM ay ad σ))) (va_Qi (pE res) (fun τ => PP D ay (wM ay ad τ)) (AM ad)) 0 0 (AM ad) := by
  refine g_start (wd := wM ay ad) (A := AM ad) (own := RX4) (mL := 3) (rt := (some .int)) (by decide) rfl rfl (Nat.le_of_ble_eq_true rfl) ?_
  intro p e s m below meth c ls X hl
  have hl : lv_has ls 3 [(0, .ref (ad 0)), (1, .int a1), (2, .int a2)] := hl
  rw [F_X4_leastSpeed] at hF
  refine g_aload_n X dX4_leastSpeed_0 rfl (lv_at hl 0 rfl) ?_
  refine g_iconst (v := 0) X dX4_leastSpeed_1 (by decide) ?_
  refine g_put X (wM_D hI) ((up2 σ.1 0 5 (0 : Int32), σ.2)) 0 (mo_obj) 5 (set_mo5) tyX4 tyX4_ok nmX4 in_X4_leastSpeed_X4 rfl (by decide) (X.ts (.fieldLink RX4 34 "LeadTimesModel" "thrown" "I") (by decide +kernel)) rfl rfl rfl rfl rfl (Nat.le_of_ble_eq_true rfl) dX4_leastSpeed_2 ?_
  refine g_aload_n X dX4_leastSpeed_5 rfl (lv_at hl 0 rfl) ?_
  refine g_iload_n X dX4_leastSpeed_6 rfl (lv_at hl 1 rfl) ?_
  obtain ⟨r7, hr7, hF⟩ := obind hF
  refine k_Vz X (As := [.int a1]) (rest := []) (c_X4_isMover hI hr7) (cwV 1 X.ts gX4_leastSpeed_X4_isMover rfl rfl rfl (by decide +kernel) ⟨Nat.le_of_ble_eq_true rfl, Nat.le_of_ble_eq_true rfl⟩) ⟨0, 4, _, _, mo_obj, rfl, rfl⟩ rfl hl.1 rfl (Nat.le_of_ble_eq_true rfl) dX4_leastSpeed_7 (fun hz7 => ?_)
  refine g_if_ne (tgt := 19) X dX4_leastSpeed_10 (by decide) (fun hc10 => ?_) (fun hc10 => ?_)
  · have hF := ite_t hF hc10
    refine g_iload_n X dX4_leastSpeed_19 rfl (lv_at hl 2 rfl) ?_
    refine g_iconst (v := 0) X dX4_leastSpeed_20 (by decide) ?_
    refine g_sipush (v := 999) X dX4_leastSpeed_21 (by decide) ?_
    obtain ⟨r24, hr24, hF⟩ := obind hF
    refine k_Sz X (As := [.int a2, .int (0 : Int32), .int (999 : Int32)]) (rest := []) (c_X4_in hI hr24) (va_cwS 3 X.ts gX4_leastSpeed_X4_in rfl rfl rfl (by decide +kernel) ⟨Nat.le_of_ble_eq_true rfl, Nat.le_of_ble_eq_true rfl⟩) rfl hl.1 rfl (Nat.le_of_ble_eq_true rfl) dX4_leastSpeed_24 (fun hz24 => ?_)
    refine g_if_eq (tgt := 39) X dX4_leastSpeed_27 (by decide) (fun hc27 => ?_) (fun hc27 => ?_)
    · have hF := ite_t hF hc27
      refine g_aload_n X dX4_leastSpeed_39 rfl (lv_at hl 0 rfl) ?_
      refine g_iconst (v := 2) X dX4_leastSpeed_40 (by decide) ?_
      obtain ⟨r41, hr41, hF⟩ := obind hF
      refine k_Vie X (As := [.int (2 : Int32)]) (rest := []) (c_X4_fails hI hr41) (cwV 1 X.ts gX4_leastSpeed_X4_fails rfl rfl rfl (by decide +kernel) ⟨Nat.le_of_ble_eq_true rfl, Nat.le_of_ble_eq_true rfl⟩) ⟨0, 4, _, _, mo_obj, rfl, rfl⟩ rfl hl.1 rfl (Nat.le_of_ble_eq_true rfl) dX4_leastSpeed_41 ?_
      exact g_iret X (pE_mk (some_inj hF)) dX4_leastSpeed_44
    · have hF := ite_f hF hc27
      refine g_aload_n X dX4_leastSpeed_30 rfl (lv_at hl 0 rfl) ?_
      refine g_iload_n X dX4_leastSpeed_31 rfl (lv_at hl 1 rfl) ?_
      refine g_iload_n X dX4_leastSpeed_32 rfl (lv_at hl 2 rfl) ?_
      obtain ⟨r33, hr33, hF⟩ := obind hF
      refine k_Vie X (As := [.int a1, .int a2]) (rest := []) (c_X4_speedFor hI hr33) (cwV 2 X.ts gX4_leastSpeed_X4_speedFor rfl rfl rfl (by decide +kernel) ⟨Nat.le_of_ble_eq_true rfl, Nat.le_of_ble_eq_true rfl⟩) ⟨0, 4, _, _, mo_obj, rfl, rfl⟩ rfl hl.1 rfl (Nat.le_of_ble_eq_true rfl) dX4_leastSpeed_33 ?_
      refine g_goto (tgt := 44) X dX4_leastSpeed_36 (by decide) ?_
      exact g_iret X (pE_mk (some_inj hF)) dX4_leastSpeed_44
  · have hF := ite_n hF hc10
    refine g_aload_n X dX4_leastSpeed_13 rfl (lv_at hl 0 rfl) ?_
    refine g_iconst (v := 1) X dX4_leastSpeed_14 (by decide) ?_
    obtain ⟨r15, hr15, hF⟩ := obind hF
    refine k_Vie X (As := [.int (1 : Int32)]) (rest := []) (c_X4_fails hI hr15) (cwV 1 X.ts gX4_leastSpeed_X4_fails rfl rfl rfl (by decide +kernel) ⟨Nat.le_of_ble_eq_true rfl, Nat.le_of_ble_eq_true rfl⟩) ⟨0, 4, _, _, mo_obj, rfl, rfl⟩ rfl hl.1 rfl (Nat.le_of_ble_eq_true rfl) dX4_leastSpeed_15 ?_
    exact g_iret X (pE_mk (some_inj hF)) dX4_leastSpeed_18
theorem in_X4_momentOf_X4 : ∀ w ∈ wsX40, w ∈ wsX4_momentOf := by decide +kernel
def F_X4_momentOf (a1 : Int32) (σ : (Mem × Int64)) : Option UInt64 := if inb a1 16 then (if inb a1 16 then (Option.bind (F_X4_moment (σ.1 7 a1.toNatClampNeg) (σ.1 8 a1.toNatClampNeg) (0 : Int32) σ) (fun r14 => if inb a1 16 then (if inb a1 16 then (Option.bind (F_X4_moment (σ.1 7 a1.toNatClampNeg) (σ.1 8 a1.toNatClampNeg) (1 : Int32) σ) (fun r32 => if nn64 (FP.ddiv (FP.i2d r14) (FP.i2d r32)) then (some (FP.ddiv (FP.i2d r14) (FP.i2d r32))) else none)) else none) else none)) else none) else none
set_option maxHeartbeats 4000000 in
set_option maxRecDepth 100000 in
theorem c_X4_momentOf {l : Launch} {D : va_G} {ay : Nat → ClassId} {ad : Nat → Nat} {a1 : Int32} {σ : (Mem × Int64)} {res : UInt64} (hI : amOK ad) (hF : F_X4_momentOf a1 σ = some res) : Met l yX4_momentOf wsX4_momentOf ({ frames := 2, cells := 0, slots := 0, locals := 49 } : Room) (va_Pc [.ref (ad 0), .int a1] (PP D ay (wM ay ad σ))) (va_Qd (pP res σ) (fun τ => PP D ay (wM ay ad τ)) (AM ad)) 0 0 (AM ad) := by
  refine g_start (wd := wM ay ad) (A := AM ad) (own := RX4) (mL := 2) (rt := (some .double)) (by decide) rfl rfl (Nat.le_of_ble_eq_true rfl) ?_
  intro p e s m below meth c ls X hl
  have hl : lv_has ls 2 [(0, .ref (ad 0)), (1, .int a1)] := hl
  rw [F_X4_momentOf] at hF
  refine g_aload_n X dX4_momentOf_0 rfl (lv_at hl 0 rfl) ?_
  refine g_aload_n X dX4_momentOf_1 rfl (lv_at hl 0 rfl) ?_
  refine g_get X 0 (mo_obj) in_X4_momentOf_X4 rfl 18 (by decide) (X.ts (.fieldLink RX4 28 "LeadTimesModel" "spanA" "[I") (by decide +kernel)) rfl rfl dX4_momentOf_2 ?_
  refine g_iload_n X dX4_momentOf_5 rfl (lv_at hl 1 rfl) ?_
  obtain ⟨h6, hF⟩ := itn hF
  refine g_iald X 7 (j := a1.toNatClampNeg) (mo_arr7) (by first | rfl | decide) (inb_in h6) dX4_momentOf_6 ?_
  refine g_aload_n X dX4_momentOf_7 rfl (lv_at hl 0 rfl) ?_
  refine g_get X 0 (mo_obj) in_X4_momentOf_X4 rfl 19 (by decide) (X.ts (.fieldLink RX4 31 "LeadTimesModel" "spanB" "[I") (by decide +kernel)) rfl rfl dX4_momentOf_8 ?_
  refine g_iload_n X dX4_momentOf_11 rfl (lv_at hl 1 rfl) ?_
  obtain ⟨h12, hF⟩ := itn hF
  refine g_iald X 8 (j := a1.toNatClampNeg) (mo_arr8) (by first | rfl | decide) (inb_in h12) dX4_momentOf_12 ?_
  refine g_iconst (v := 0) X dX4_momentOf_13 (by decide) ?_
  obtain ⟨r14, hr14, hF⟩ := obind hF
  refine k_Vi X (As := [.int (σ.1 7 a1.toNatClampNeg), .int (σ.1 8 a1.toNatClampNeg), .int (0 : Int32)]) (rest := []) (c_X4_moment hI hr14) (cwV 3 X.ts gX4_momentOf_X4_moment rfl rfl rfl (by decide +kernel) ⟨Nat.le_of_ble_eq_true rfl, Nat.le_of_ble_eq_true rfl⟩) ⟨0, 4, _, _, mo_obj, rfl, rfl⟩ rfl hl.1 rfl (Nat.le_of_ble_eq_true rfl) dX4_momentOf_14 ?_
  refine g_i2d X dX4_momentOf_17 ?_
  refine g_aload_n X dX4_momentOf_18 rfl (lv_at hl 0 rfl) ?_
  refine g_aload_n X dX4_momentOf_19 rfl (lv_at hl 0 rfl) ?_
  refine g_get X 0 (mo_obj) in_X4_momentOf_X4 rfl 18 (by decide) (X.ts (.fieldLink RX4 28 "LeadTimesModel" "spanA" "[I") (by decide +kernel)) rfl rfl dX4_momentOf_20 ?_
  refine g_iload_n X dX4_momentOf_23 rfl (lv_at hl 1 rfl) ?_
  obtain ⟨h24, hF⟩ := itn hF
  refine g_iald X 7 (j := a1.toNatClampNeg) (mo_arr7) (by first | rfl | decide) (inb_in h24) dX4_momentOf_24 ?_
  refine g_aload_n X dX4_momentOf_25 rfl (lv_at hl 0 rfl) ?_
  refine g_get X 0 (mo_obj) in_X4_momentOf_X4 rfl 19 (by decide) (X.ts (.fieldLink RX4 31 "LeadTimesModel" "spanB" "[I") (by decide +kernel)) rfl rfl dX4_momentOf_26 ?_
  refine g_iload_n X dX4_momentOf_29 rfl (lv_at hl 1 rfl) ?_
  obtain ⟨h30, hF⟩ := itn hF
  refine g_iald X 8 (j := a1.toNatClampNeg) (mo_arr8) (by first | rfl | decide) (inb_in h30) dX4_momentOf_30 ?_
  refine g_iconst (v := 1) X dX4_momentOf_31 (by decide) ?_
  obtain ⟨r32, hr32, hF⟩ := obind hF
  refine k_Vi X (As := [.int (σ.1 7 a1.toNatClampNeg), .int (σ.1 8 a1.toNatClampNeg), .int (1 : Int32)]) (rest := [.double (FP.i2d r14)]) (c_X4_moment hI hr32) (cwV 3 X.ts gX4_momentOf_X4_moment rfl rfl rfl (by decide +kernel) ⟨Nat.le_of_ble_eq_true rfl, Nat.le_of_ble_eq_true rfl⟩) ⟨0, 4, _, _, mo_obj, rfl, rfl⟩ rfl hl.1 rfl (Nat.le_of_ble_eq_true rfl) dX4_momentOf_32 ?_
  refine g_i2d X dX4_momentOf_35 ?_
  obtain ⟨h36, hF⟩ := itn hF
  refine g_ddiv X dX4_momentOf_36 (nn64_v h36) ?_
  exact g_dret X (pP_mk (some_inj hF)) dX4_momentOf_37
theorem in_X4_shareOf_X4 : ∀ w ∈ wsX40, w ∈ wsX4_shareOf := by decide +kernel
def F_X4_shareOf (a1 : Int32) (σ : (Mem × Int64)) : Option (UInt64 × (Mem × Int64)) := Option.bind (F_X4_spanOf a1 σ) (fun r2 => (if ¬ r2.1 = (-1 : Int32) then Option.bind (F_X4_momentOf r2.1 r2.2) (fun r15 => (Option.bind (if (r2.2.1 0 20) ≤ (r2.1 + (1 : Int32)) then some (FP.i2d ((r2.2.1 1 0) + (r2.2.1 1 2))) else Option.bind (F_X4_momentOf (r2.1 + (1 : Int32)) r2.2) (fun r49 => some r49)) (fun v42 : UInt64 => (Option.bind (if 0 ≤ (Op.cmpValue (FP.dcmp v42 (FP.i2d ((r2.2.1 1 0) + (r2.2.1 1 2)))) .g) then some (FP.i2d ((r2.2.1 1 0) + (r2.2.1 1 2))) else some v42) (fun v64 : UInt64 => if nn64 (FP.dsub v64 r15) then ((if (Op.cmpValue (FP.dcmp (FP.dsub v64 r15) FP.dconst0) .l) ≤ 0 then some (FP.dconst0, r2.2) else if nn64 (FP.dsub v64 r15) then (if nn64 (FP.ddiv (FP.dsub v64 r15) (FP.i2d (r2.2.1 1 2))) then (some (FP.ddiv (FP.dsub v64 r15) (FP.i2d (r2.2.1 1 2)), r2.2)) else none) else none)) else none))))) else some (FP.dconst0, r2.2)))
set_option maxHeartbeats 4000000 in
set_option maxRecDepth 100000 in
theorem c_X4_shareOf {l : Launch} {D : va_G} {ay : Nat → ClassId} {ad : Nat → Nat} {a1 : Int32} {σ : (Mem × Int64)} {res : UInt64 × (Mem × Int64)} (hI : amOK ad) (hF : F_X4_shareOf a1 σ = some res) : Met l yX4_shareOf wsX4_shareOf ({ frames := 6, cells := 0, slots := 0, locals := 140 } : Room) (va_Pc [.ref (ad 0), .int a1] (PP D ay (wM ay ad σ))) (va_Qd (pE res) (fun τ => PP D ay (wM ay ad τ)) (AM ad)) 0 0 (AM ad) := by
  refine g_start (wd := wM ay ad) (A := AM ad) (own := RX4) (mL := 9) (rt := (some .double)) (by decide) rfl rfl (Nat.le_of_ble_eq_true rfl) ?_
  intro p e s m below meth c ls X hl
  have hl : lv_has ls 9 [(0, .ref (ad 0)), (1, .int a1)] := hl
  rw [F_X4_shareOf] at hF
  refine g_aload_n X dX4_shareOf_0 rfl (lv_at hl 0 rfl) ?_
  refine g_iload_n X dX4_shareOf_1 rfl (lv_at hl 1 rfl) ?_
  obtain ⟨r2, hr2, hF⟩ := obind hF
  refine k_Vie X (As := [.int a1]) (rest := []) (c_X4_spanOf hI hr2) (cwV 1 X.ts gX4_shareOf_X4_spanOf rfl rfl rfl (by decide +kernel) ⟨Nat.le_of_ble_eq_true rfl, Nat.le_of_ble_eq_true rfl⟩) ⟨0, 4, _, _, mo_obj, rfl, rfl⟩ rfl hl.1 rfl (Nat.le_of_ble_eq_true rfl) dX4_shareOf_2 ?_
  refine g_istore_n (lv' := [(2, _), (0, _), (1, _)]) X dX4_shareOf_5 rfl hl (by decide) rfl (fun ls hl => ?_)
  refine g_iload_n X dX4_shareOf_6 rfl (lv_at hl 0 rfl) ?_
  refine g_iconst (v := -1) X dX4_shareOf_7 (by decide) ?_
  refine g_icmp_ne (tgt := 13) X dX4_shareOf_8 (by decide) (fun hc8 => ?_) (fun hc8 => ?_)
  · have hF := ite_t hF hc8
    refine g_aload_n X dX4_shareOf_13 rfl (lv_at hl 1 rfl) ?_
    refine g_iload_n X dX4_shareOf_14 rfl (lv_at hl 0 rfl) ?_
    obtain ⟨r15, hr15, hF⟩ := obind hF
    refine k_Vd X (As := [.int r2.1]) (rest := []) (c_X4_momentOf hI hr15) (cwV 1 X.ts gX4_shareOf_X4_momentOf rfl rfl rfl (by decide +kernel) ⟨Nat.le_of_ble_eq_true rfl, Nat.le_of_ble_eq_true rfl⟩) ⟨0, 4, _, _, mo_obj, rfl, rfl⟩ rfl hl.1 rfl (Nat.le_of_ble_eq_true rfl) dX4_shareOf_15 ?_
    refine g_dstore_n (lv' := [(3, _), (2, _), (0, _), (1, _)]) X dX4_shareOf_18 rfl hl (by decide) rfl (fun ls hl => ?_)
    refine g_aload_n X dX4_shareOf_19 rfl (lv_at hl 2 rfl) ?_
    refine g_get X 0 (mo_obj) in_X4_shareOf_X4 rfl 0 (by decide) (X.ts (.fieldLink RX4 7 "LeadTimesModel" "z" "[I") (by decide +kernel)) rfl rfl dX4_shareOf_20 ?_
    refine g_iconst (v := 0) X dX4_shareOf_23 (by decide) ?_
    refine g_iald X 1 (j := 0) (mo_arr1) (by first | rfl | decide) (inb_in (by decide)) dX4_shareOf_24 ?_
    refine g_aload_n X dX4_shareOf_25 rfl (lv_at hl 2 rfl) ?_
    refine g_get X 0 (mo_obj) in_X4_shareOf_X4 rfl 0 (by decide) (X.ts (.fieldLink RX4 7 "LeadTimesModel" "z" "[I") (by decide +kernel)) rfl rfl dX4_shareOf_26 ?_
    refine g_iconst (v := 2) X dX4_shareOf_29 (by decide) ?_
    refine g_iald X 1 (j := 2) (mo_arr1) (by first | rfl | decide) (inb_in (by decide)) dX4_shareOf_30 ?_
    refine g_iadd X dX4_shareOf_31 ?_
    refine g_i2d X dX4_shareOf_32 ?_
    refine g_dstore (lv' := [(5, _), (3, _), (2, _), (0, _), (1, _)]) X dX4_shareOf_33 hl (by decide) rfl (fun ls hl => ?_)
    refine g_iload_n X dX4_shareOf_35 rfl (lv_at hl 2 rfl) ?_
    refine g_iconst (v := 1) X dX4_shareOf_36 (by decide) ?_
    refine g_iadd X dX4_shareOf_37 ?_
    refine g_aload_n X dX4_shareOf_38 rfl (lv_at hl 3 rfl) ?_
    refine g_get X 0 (mo_obj) in_X4_shareOf_X4 rfl 20 (by decide) (X.ts (.fieldLink RX4 162 "LeadTimesModel" "spans" "I") (by decide +kernel)) rfl rfl dX4_shareOf_39 ?_
    obtain ⟨v42, hR42, hF⟩ := obind hF
    refine g_cut (nM := 9) [(0, .ref (ad 0)), (3, .double r15), (5, .double (FP.i2d ((r2.2.1 1 0) + (r2.2.1 1 2))))] (r2.2) 57 [.double v42] (fun ls hl => ?_) (fun J42 => ?_)
    · refine g_dstore (lv' := [(7, _), (0, _), (3, _), (5, _)]) X dX4_shareOf_57 hl (by decide) rfl (fun ls hl => ?_)
      refine g_dload X dX4_shareOf_59 (lv_at hl 0 rfl) ?_
      refine g_dload X dX4_shareOf_61 (lv_at hl 3 rfl) ?_
      refine g_dcmp X dX4_shareOf_63 ?_
      obtain ⟨v64, hR64, hF⟩ := obind hF
      refine g_cut (nM := 9) [(0, .ref (ad 0)), (3, .double r15)] (r2.2) 74 [.double v64] (fun ls hl => ?_) (fun J64 => ?_)
      · refine g_dstore (lv' := [(5, _), (0, _), (3, _)]) X dX4_shareOf_74 hl (by decide) rfl (fun ls hl => ?_)
        refine g_dload X dX4_shareOf_76 (lv_at hl 0 rfl) ?_
        refine g_dload_n X dX4_shareOf_78 rfl (lv_at hl 2 rfl) ?_
        obtain ⟨h79, hF⟩ := itn hF
        refine g_dsub X dX4_shareOf_79 (nn64_v h79) ?_
        refine g_dconst0 X dX4_shareOf_80 ?_
        refine g_dcmp X dX4_shareOf_81 ?_
        refine g_if_le (tgt := 100) X dX4_shareOf_82 (by decide) (fun hc82 => ?_) (fun hc82 => ?_)
        · have hF := ite_t hF hc82
          refine g_dconst0 X dX4_shareOf_100 ?_
          exact g_dret X (pE_mk (some_inj hF)) dX4_shareOf_101
        · have hF := ite_f hF hc82
          refine g_dload X dX4_shareOf_85 (lv_at hl 0 rfl) ?_
          refine g_dload_n X dX4_shareOf_87 rfl (lv_at hl 2 rfl) ?_
          obtain ⟨h88, hF⟩ := itn hF
          refine g_dsub X dX4_shareOf_88 (nn64_v h88) ?_
          refine g_aload_n X dX4_shareOf_89 rfl (lv_at hl 1 rfl) ?_
          refine g_get X 0 (mo_obj) in_X4_shareOf_X4 rfl 0 (by decide) (X.ts (.fieldLink RX4 7 "LeadTimesModel" "z" "[I") (by decide +kernel)) rfl rfl dX4_shareOf_90 ?_
          refine g_iconst (v := 2) X dX4_shareOf_93 (by decide) ?_
          refine g_iald X 1 (j := 2) (mo_arr1) (by first | rfl | decide) (inb_in (by decide)) dX4_shareOf_94 ?_
          refine g_i2d X dX4_shareOf_95 ?_
          obtain ⟨h96, hF⟩ := itn hF
          refine g_ddiv X dX4_shareOf_96 (nn64_v h96) ?_
          refine g_goto (tgt := 101) X dX4_shareOf_97 (by decide) ?_
          exact g_dret X (pE_mk (some_inj hF)) dX4_shareOf_101
      · refine g_if_ge (tgt := 72) X dX4_shareOf_64 (by decide) (fun hc64 => ?_) (fun hc64 => ?_)
        · have hR64 := ite_t hR64 hc64
          refine g_dload X dX4_shareOf_72 (lv_at hl 3 rfl) ?_
          have e64 := some_inj hR64
          subst e64
          exact J64 ls (lv_sub hl [1, 2] rfl)
        · have hR64 := ite_f hR64 hc64
          refine g_dload X dX4_shareOf_67 (lv_at hl 0 rfl) ?_
          refine g_goto (tgt := 74) X dX4_shareOf_69 (by decide) ?_
          have e64 := some_inj hR64
          subst e64
          exact J64 ls (lv_sub hl [1, 2] rfl)
    · refine g_icmp_ge (tgt := 55) X dX4_shareOf_42 (by decide) (fun hc42 => ?_) (fun hc42 => ?_)
      · have hR42 := ite_t hR42 hc42
        refine g_dload X dX4_shareOf_55 (lv_at hl 0 rfl) ?_
        have e42 := some_inj hR42
        subst e42
        exact J42 ls (lv_sub hl [3, 1, 0] rfl)
      · have hR42 := ite_f hR42 hc42
        refine g_aload_n X dX4_shareOf_45 rfl (lv_at hl 3 rfl) ?_
        refine g_iload_n X dX4_shareOf_46 rfl (lv_at hl 2 rfl) ?_
        refine g_iconst (v := 1) X dX4_shareOf_47 (by decide) ?_
        refine g_iadd X dX4_shareOf_48 ?_
        obtain ⟨r49, hr49, hR42⟩ := obind hR42
        refine k_Vd X (As := [.int (r2.1 + (1 : Int32))]) (rest := []) (c_X4_momentOf hI hr49) (cwV 1 X.ts gX4_shareOf_X4_momentOf rfl rfl rfl (by decide +kernel) ⟨Nat.le_of_ble_eq_true rfl, Nat.le_of_ble_eq_true rfl⟩) ⟨0, 4, _, _, mo_obj, rfl, rfl⟩ rfl hl.1 rfl (Nat.le_of_ble_eq_true rfl) dX4_shareOf_49 ?_
        refine g_goto (tgt := 57) X dX4_shareOf_52 (by decide) ?_
        have e42 := some_inj hR42
        subst e42
        exact J42 ls (lv_sub hl [3, 1, 0] rfl)
  · have hF := ite_n hF hc8
    refine g_dconst0 X dX4_shareOf_11 ?_
    exact g_dret X (pE_mk (some_inj hF)) dX4_shareOf_12
theorem in_X4_leadShare_X4 : ∀ w ∈ wsX40, w ∈ wsX4_leadShare := by decide +kernel
def F_X4_leadShare (a1 : Int32) (σ : (Mem × Int64)) : Option (UInt64 × (Mem × Int64)) := Option.bind (F_X4_isMover a1 (up2 σ.1 0 5 (0 : Int32), σ.2)) (fun r7 => (if r7 = 0 then Option.bind (F_X4_fails (1 : Int32) (up2 σ.1 0 5 (0 : Int32), σ.2)) (fun r23 => some (FP.i2d r23.1, r23.2)) else Option.bind (F_X4_shareOf a1 (up2 σ.1 0 5 (0 : Int32), σ.2)) (fun r15 => some (r15.1, r15.2))))
set_option maxHeartbeats 4000000 in
set_option maxRecDepth 100000 in
theorem c_X4_leadShare {l : Launch} {D : va_G} {ay : Nat → ClassId} {ad : Nat → Nat} {a1 : Int32} {σ : (Mem × Int64)} {res : UInt64 × (Mem × Int64)} (hI : amOK ad) (hF : F_X4_leadShare a1 σ = some res) : Met l yX4_leadShare wsX4_leadShare ({ frames := 7, cells := 0, slots := 0, locals := 168 } : Room) (va_Pc [.ref (ad 0), .int a1] (PP D ay (wM ay ad σ))) (va_Qd (pE res) (fun τ => PP D ay (wM ay ad τ)) (AM ad)) 0 0 (AM ad) := by
  refine g_start (wd := wM ay ad) (A := AM ad) (own := RX4) (mL := 2) (rt := (some .double)) (by decide) rfl rfl (Nat.le_of_ble_eq_true rfl) ?_
  intro p e s m below meth c ls X hl
  have hl : lv_has ls 2 [(0, .ref (ad 0)), (1, .int a1)] := hl
  rw [F_X4_leadShare] at hF
  refine g_aload_n X dX4_leadShare_0 rfl (lv_at hl 0 rfl) ?_
  refine g_iconst (v := 0) X dX4_leadShare_1 (by decide) ?_
  refine g_put X (wM_D hI) ((up2 σ.1 0 5 (0 : Int32), σ.2)) 0 (mo_obj) 5 (set_mo5) tyX4 tyX4_ok nmX4 in_X4_leadShare_X4 rfl (by decide) (X.ts (.fieldLink RX4 34 "LeadTimesModel" "thrown" "I") (by decide +kernel)) rfl rfl rfl rfl rfl (Nat.le_of_ble_eq_true rfl) dX4_leadShare_2 ?_
  refine g_aload_n X dX4_leadShare_5 rfl (lv_at hl 0 rfl) ?_
  refine g_iload_n X dX4_leadShare_6 rfl (lv_at hl 1 rfl) ?_
  obtain ⟨r7, hr7, hF⟩ := obind hF
  refine k_Vz X (As := [.int a1]) (rest := []) (c_X4_isMover hI hr7) (cwV 1 X.ts gX4_leadShare_X4_isMover rfl rfl rfl (by decide +kernel) ⟨Nat.le_of_ble_eq_true rfl, Nat.le_of_ble_eq_true rfl⟩) ⟨0, 4, _, _, mo_obj, rfl, rfl⟩ rfl hl.1 rfl (Nat.le_of_ble_eq_true rfl) dX4_leadShare_7 (fun hz7 => ?_)
  refine g_if_eq (tgt := 21) X dX4_leadShare_10 (by decide) (fun hc10 => ?_) (fun hc10 => ?_)
  · have hF := ite_t hF hc10
    refine g_aload_n X dX4_leadShare_21 rfl (lv_at hl 0 rfl) ?_
    refine g_iconst (v := 1) X dX4_leadShare_22 (by decide) ?_
    obtain ⟨r23, hr23, hF⟩ := obind hF
    refine k_Vie X (As := [.int (1 : Int32)]) (rest := []) (c_X4_fails hI hr23) (cwV 1 X.ts gX4_leadShare_X4_fails rfl rfl rfl (by decide +kernel) ⟨Nat.le_of_ble_eq_true rfl, Nat.le_of_ble_eq_true rfl⟩) ⟨0, 4, _, _, mo_obj, rfl, rfl⟩ rfl hl.1 rfl (Nat.le_of_ble_eq_true rfl) dX4_leadShare_23 ?_
    refine g_i2d X dX4_leadShare_26 ?_
    exact g_dret X (pE_mk (some_inj hF)) dX4_leadShare_27
  · have hF := ite_f hF hc10
    refine g_aload_n X dX4_leadShare_13 rfl (lv_at hl 0 rfl) ?_
    refine g_iload_n X dX4_leadShare_14 rfl (lv_at hl 1 rfl) ?_
    obtain ⟨r15, hr15, hF⟩ := obind hF
    refine k_Vde X (As := [.int a1]) (rest := []) (c_X4_shareOf hI hr15) (cwV 1 X.ts gX4_leadShare_X4_shareOf rfl rfl rfl (by decide +kernel) ⟨Nat.le_of_ble_eq_true rfl, Nat.le_of_ble_eq_true rfl⟩) ⟨0, 4, _, _, mo_obj, rfl, rfl⟩ rfl hl.1 rfl (Nat.le_of_ble_eq_true rfl) dX4_leadShare_15 ?_
    refine g_goto (tgt := 27) X dX4_leadShare_18 (by decide) ?_
    exact g_dret X (pE_mk (some_inj hF)) dX4_leadShare_27
theorem in_X4_mix_X4 : ∀ w ∈ wsX40, w ∈ wsX4_mix := by decide +kernel
def F_X4_mix (a1 : Int64) (σ : (Mem × Int64)) : Option (Mem × Int64) := some (σ.1, ((31 : Int64) * σ.2) + a1)
set_option maxHeartbeats 4000000 in
set_option maxRecDepth 100000 in
theorem c_X4_mix {l : Launch} {D : va_G} {ay : Nat → ClassId} {ad : Nat → Nat} {a1 : Int64} {σ : (Mem × Int64)} {res : (Mem × Int64)} (hI : amOK ad) (hF : F_X4_mix a1 σ = some res) : Met l yX4_mix wsX4_mix ({ frames := 0, cells := 0, slots := 0, locals := 0 } : Room) (va_Pc [.ref (ad 0), .long a1] (PP D ay (wM ay ad σ))) (va_Qv (pV res) (fun τ => PP D ay (wM ay ad τ)) (AM ad)) 0 0 (AM ad) := by
  refine g_start (wd := wM ay ad) (A := AM ad) (own := RX4) (mL := 3) (rt := none) (by decide) rfl rfl (Nat.le_of_ble_eq_true rfl) ?_
  intro p e s m below meth c ls X hl
  have hl : lv_has ls 3 [(0, .ref (ad 0)), (1, .long a1)] := hl
  rw [F_X4_mix] at hF
  refine g_aload_n X dX4_mix_0 rfl (lv_at hl 0 rfl) ?_
  refine g_ldc2 X dX4_mix_1 (X.ts (.constantLong RX4 221 (31)) (by decide +kernel)) ?_
  refine g_aload_n X dX4_mix_4 rfl (lv_at hl 0 rfl) ?_
  refine g_get X 0 (mo_obj) in_X4_mix_X4 rfl 21 (by decide) (X.ts (.fieldLink RX4 223 "LeadTimesModel" "h" "J") (by decide +kernel)) rfl rfl dX4_mix_5 ?_
  refine g_lmul X dX4_mix_8 ?_
  refine g_lload_n X dX4_mix_9 rfl (lv_at hl 1 rfl) ?_
  refine g_ladd X dX4_mix_10 ?_
  refine g_put X (wM_D hI) ((σ.1, ((31 : Int64) * σ.2) + a1)) 0 (mo_obj) 21 (set_moJ) tyX4 tyX4_ok nmX4 in_X4_mix_X4 rfl (by decide) (X.ts (.fieldLink RX4 223 "LeadTimesModel" "h" "J") (by decide +kernel)) rfl rfl rfl rfl rfl (Nat.le_of_ble_eq_true rfl) dX4_mix_11 ?_
  exact g_vret X (pV_mk (some_inj hF)) dX4_mix_14
