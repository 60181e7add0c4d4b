def F_L_at (a0 : Int32) (a1 : Int32) : Option Int32 := if ¬ a1 = 0 then (some (((a0.toUInt32 >>> ((1 : Int32).toUInt32 &&& Int32.toUInt32 31)).toInt32) - ((a0.toUInt32 >>> ((1 : Int32).toUInt32 &&& Int32.toUInt32 31)).toInt32) / a1 * a1)) else none
set_option maxHeartbeats 4000000 in
set_option maxRecDepth 100000 in
theorem c_L_at {l : Launch} {D : va_G} {ay : Nat → ClassId} {ad : Nat → Nat} {a0 : Int32} {a1 : Int32} {σ : LM} {res : Int32} (hI : axOK ad) (hF : F_L_at a0 a1 = some res) : Met l yL_at wsL_at ({ frames := 0, cells := 0, slots := 0, locals := 0 } : Room) (va_Pc [.int a0, .int a1] (PP D ay (wX ay ad σ))) (va_Qi (pP res σ) (fun τ => PP D ay (wX ay ad τ)) (AX ad)) 0 0 (AX ad) := by
  refine g_start (wd := wX ay ad) (A := AX ad) (own := RL) (mL := 2) (rt := (some .int)) (by decide) rfl rfl (Nat.le_of_ble_eq_true rfl) ?_
  intro p e s m below meth c ls X hl
  have hl : lv_has ls 2 [(0, .int a0), (1, .int a1)] := hl
  rw [F_L_at] at hF
  refine g_iload_n X dL_at_0 rfl (lv_at hl 0 rfl) ?_
  refine g_iconst (v := 1) X dL_at_1 (by decide) ?_
  refine g_iushr X dL_at_2 ?_
  refine g_iload_n X dL_at_3 rfl (lv_at hl 1 rfl) ?_
  obtain ⟨h4, hF⟩ := itn hF
  refine g_irem X dL_at_4 h4 ?_
  exact g_iret X (pP_mk (some_inj hF)) dL_at_5
def F_L_first (a0 : Int32) (a1 : Int32) (σ : LM) : Option Int32 := if inb (((4 : Int32) * a0) + (1 : Int32)) 64 then (if inb (((4 : Int32) * a1) + (1 : Int32)) 64 then ((Option.bind (if ¬ ((σ.2.1 1 ((((4 : Int32) * a0) + (1 : Int32)).toNatClampNeg)) - (σ.2.1 1 ((((4 : Int32) * a1) + (1 : Int32)).toNatClampNeg))) = 0 then some ((σ.2.1 1 ((((4 : Int32) * a0) + (1 : Int32)).toNatClampNeg)) - (σ.2.1 1 ((((4 : Int32) * a1) + (1 : Int32)).toNatClampNeg))) else if inb (((4 : Int32) * a0) + (2 : Int32)) 64 then (if inb (((4 : Int32) * a1) + (2 : Int32)) 64 then (some ((σ.2.1 1 ((((4 : Int32) * a0) + (2 : Int32)).toNatClampNeg)) - (σ.2.1 1 ((((4 : Int32) * a1) + (2 : Int32)).toNatClampNeg)))) else none) else none) (fun v19 : Int32 => (if ¬ v19 = 0 then (if v19 ≤ 0 then some (0 : Int32) else some (1 : Int32)) else (Option.bind (if a1 ≤ a0 then some (0 : Int32) else some (1 : Int32)) (fun v51 : Int32 => (Option.bind (if ¬ (σ.2.1 0 1) = 0 then some (0 : Int32) else some (1 : Int32)) (fun v62 : Int32 => (if ¬ v51 = v62 then some (0 : Int32) else some (1 : Int32)))))))))) else none) else none
set_option maxHeartbeats 4000000 in
set_option maxRecDepth 100000 in
theorem c_L_first {l : Launch} {D : va_G} {ay : Nat → ClassId} {ad : Nat → Nat} {a0 : Int32} {a1 : Int32} {σ : LM} {res : Int32} (hI : axOK ad) (hF : F_L_first a0 a1 σ = some res) : Met l yL_first wsL_first ({ frames := 0, cells := 0, slots := 0, locals := 0 } : Room) (va_Pc [.int a0, .int a1, .ref (ad 108), .ref (ad 109)] (PP D ay (wX ay ad σ))) (va_Qi (pZ res σ) (fun τ => PP D ay (wX ay ad τ)) (AX ad)) 0 0 (AX ad) := by
  refine g_start (wd := wX ay ad) (A := AX ad) (own := RL) (mL := 5) (rt := (some .boolean)) (by decide) rfl rfl (Nat.le_of_ble_eq_true rfl) ?_
  intro p e s m below meth c ls X hl
  have hl : lv_has ls 5 [(0, .int a0), (1, .int a1), (2, .ref (ad 108)), (3, .ref (ad 109))] := hl
  rw [F_L_first] at hF
  refine g_aload_n X dL_first_0 rfl (lv_at hl 3 rfl) ?_
  refine g_iconst (v := 4) X dL_first_1 (by decide) ?_
  refine g_iload_n X dL_first_2 rfl (lv_at hl 0 rfl) ?_
  refine g_imul X dL_first_3 ?_
  refine g_iconst (v := 1) X dL_first_4 (by decide) ?_
  refine g_iadd X dL_first_5 ?_
  obtain ⟨h6, hF⟩ := itn hF
  refine g_iald X 109 (j := (((4 : Int32) * a0) + (1 : Int32)).toNatClampNeg) (xa_m) (by first | rfl | decide) (inb_in h6) dL_first_6 ?_
  refine g_aload_n X dL_first_7 rfl (lv_at hl 3 rfl) ?_
  refine g_iconst (v := 4) X dL_first_8 (by decide) ?_
  refine g_iload_n X dL_first_9 rfl (lv_at hl 1 rfl) ?_
  refine g_imul X dL_first_10 ?_
  refine g_iconst (v := 1) X dL_first_11 (by decide) ?_
  refine g_iadd X dL_first_12 ?_
  obtain ⟨h13, hF⟩ := itn hF
  refine g_iald X 109 (j := (((4 : Int32) * a1) + (1 : Int32)).toNatClampNeg) (xa_m) (by first | rfl | decide) (inb_in h13) dL_first_13 ?_
  refine g_isub X dL_first_14 ?_
  refine g_istore (lv' := [(4, _), (0, _), (1, _), (2, _), (3, _)]) X dL_first_15 hl (by decide) rfl (fun ls hl => ?_)
  refine g_iload X dL_first_17 (lv_at hl 0 rfl) ?_
  obtain ⟨v19, hR19, hF⟩ := obind hF
  refine g_cut (nM := 5) [(0, .int a0), (1, .int a1), (2, .ref (ad 108))] (σ) 42 [.int v19] (fun ls hl => ?_) (fun J19 => ?_)
  · refine g_istore (lv' := [(4, _), (0, _), (1, _), (2, _)]) X dL_first_42 hl (by decide) rfl (fun ls hl => ?_)
    refine g_iload X dL_first_44 (lv_at hl 0 rfl) ?_
    refine g_if_ne (tgt := 81) X dL_first_46 (by decide) (fun hc46 => ?_) (fun hc46 => ?_)
    · have hF := ite_t hF hc46
      refine g_iload X dL_first_81 (lv_at hl 0 rfl) ?_
      refine g_if_le (tgt := 90) X dL_first_83 (by decide) (fun hc83 => ?_) (fun hc83 => ?_)
      · have hF := ite_t hF hc83
        refine g_iconst (v := 0) X dL_first_90 (by decide) ?_
        exact g_zret X rfl (pZ_mk (some_inj hF) rfl) dL_first_91
      · have hF := ite_f hF hc83
        refine g_iconst (v := 1) X dL_first_86 (by decide) ?_
        refine g_goto (tgt := 91) X dL_first_87 (by decide) ?_
        exact g_zret X rfl (pZ_mk (some_inj hF) rfl) dL_first_91
    · have hF := ite_n hF hc46
      refine g_iload_n X dL_first_49 rfl (lv_at hl 1 rfl) ?_
      refine g_iload_n X dL_first_50 rfl (lv_at hl 2 rfl) ?_
      obtain ⟨v51, hR51, hF⟩ := obind hF
      refine g_cut (nM := 5) [(2, .ref (ad 108))] (σ) 59 [.int v51] (fun ls hl => ?_) (fun J51 => ?_)
      · refine g_aload_n X dL_first_59 rfl (lv_at hl 0 rfl) ?_
        refine g_iconst (v := 1) X dL_first_60 (by decide) ?_
        refine g_iald X 108 (j := 1) (xa_c) (by first | rfl | decide) (inb_in (by decide)) dL_first_61 ?_
        obtain ⟨v62, hR62, hF⟩ := obind hF
        refine g_cut (nM := 5) [] (σ) 70 [.int v62, .int v51] (fun ls hl => ?_) (fun J62 => ?_)
        · refine g_icmp_ne (tgt := 77) X dL_first_70 (by decide) (fun hc70 => ?_) (fun hc70 => ?_)
          · have hF := ite_t hF hc70
            refine g_iconst (v := 0) X dL_first_77 (by decide) ?_
            refine g_goto (tgt := 91) X dL_first_78 (by decide) ?_
            exact g_zret X rfl (pZ_mk (some_inj hF) rfl) dL_first_91
          · have hF := ite_n hF hc70
            refine g_iconst (v := 1) X dL_first_73 (by decide) ?_
            refine g_goto (tgt := 91) X dL_first_74 (by decide) ?_
            exact g_zret X rfl (pZ_mk (some_inj hF) rfl) dL_first_91
        · refine g_if_ne (tgt := 69) X dL_first_62 (by decide) (fun hc62 => ?_) (fun hc62 => ?_)
          · have hR62 := ite_t hR62 hc62
            refine g_iconst (v := 0) X dL_first_69 (by decide) ?_
            have e62 := some_inj hR62
            subst e62
            exact J62 ls (lv_sub hl [] rfl)
          · have hR62 := ite_n hR62 hc62
            refine g_iconst (v := 1) X dL_first_65 (by decide) ?_
            refine g_goto (tgt := 70) X dL_first_66 (by decide) ?_
            have e62 := some_inj hR62
            subst e62
            exact J62 ls (lv_sub hl [] rfl)
      · refine g_icmp_ge (tgt := 58) X dL_first_51 (by decide) (fun hc51 => ?_) (fun hc51 => ?_)
        · have hR51 := ite_t hR51 hc51
          refine g_iconst (v := 0) X dL_first_58 (by decide) ?_
          have e51 := some_inj hR51
          subst e51
          exact J51 ls (lv_sub hl [3] rfl)
        · have hR51 := ite_f hR51 hc51
          refine g_iconst (v := 1) X dL_first_54 (by decide) ?_
          refine g_goto (tgt := 59) X dL_first_55 (by decide) ?_
          have e51 := some_inj hR51
          subst e51
          exact J51 ls (lv_sub hl [3] rfl)
  · refine g_if_ne (tgt := 40) X dL_first_19 (by decide) (fun hc19 => ?_) (fun hc19 => ?_)
    · have hR19 := ite_t hR19 hc19
      refine g_iload X dL_first_40 (lv_at hl 0 rfl) ?_
      have e19 := some_inj hR19
      subst e19
      exact J19 ls (lv_sub hl [1, 2, 3] rfl)
    · have hR19 := ite_n hR19 hc19
      refine g_aload_n X dL_first_22 rfl (lv_at hl 4 rfl) ?_
      refine g_iconst (v := 4) X dL_first_23 (by decide) ?_
      refine g_iload_n X dL_first_24 rfl (lv_at hl 1 rfl) ?_
      refine g_imul X dL_first_25 ?_
      refine g_iconst (v := 2) X dL_first_26 (by decide) ?_
      refine g_iadd X dL_first_27 ?_
      obtain ⟨h28, hR19⟩ := itn hR19
      refine g_iald X 109 (j := (((4 : Int32) * a0) + (2 : Int32)).toNatClampNeg) (xa_m) (by first | rfl | decide) (inb_in h28) dL_first_28 ?_
      refine g_aload_n X dL_first_29 rfl (lv_at hl 4 rfl) ?_
      refine g_iconst (v := 4) X dL_first_30 (by decide) ?_
      refine g_iload_n X dL_first_31 rfl (lv_at hl 2 rfl) ?_
      refine g_imul X dL_first_32 ?_
      refine g_iconst (v := 2) X dL_first_33 (by decide) ?_
      refine g_iadd X dL_first_34 ?_
      obtain ⟨h35, hR19⟩ := itn hR19
      refine g_iald X 109 (j := (((4 : Int32) * a1) + (2 : Int32)).toNatClampNeg) (xa_m) (by first | rfl | decide) (inb_in h35) dL_first_35 ?_
      refine g_isub X dL_first_36 ?_
      refine g_goto (tgt := 42) X dL_first_37 (by decide) ?_
      have e19 := some_inj hR19
      subst e19
      exact J19 ls (lv_sub hl [1, 2, 3] rfl)
def L_L_wins_37 (a0 : Int32) (a1 : Int32) (a2 : Int32) : Nat → Int32 → LM → Option (Int32 × LM)
  | 0, _, _ => none
  | fu + 1, a7, σ => (if (a1 + a2) ≤ a7 then if inb (((4 : Int32) * a0) + (3 : Int32)) 64 then ((if (lg_cmp (σ.2.2 0 ((((4 : Int32) * a0) + (3 : Int32)).toNatClampNeg)) (0 : Int64)) = 0 then some ((1 : Int32), σ) else if inb ((4 : Int32) * a0) 64 then (if inb (((4 : Int32) * a0) + (3 : Int32)) 64 then (if inb (((4 : Int32) * a0) + (2 : Int32)) 64 then (if inb (((4 : Int32) * a0) + (1 : Int32)) 64 then ((if 0 ≤ (lg_cmp ((σ.2.2 0 (((4 : Int32) * a0).toNatClampNeg)) * (σ.2.2 0 ((((4 : Int32) * a0) + (3 : Int32)).toNatClampNeg))) ((σ.2.2 0 ((((4 : Int32) * a0) + (2 : Int32)).toNatClampNeg)) * (σ.2.2 0 ((((4 : Int32) * a0) + (1 : Int32)).toNatClampNeg)))) then some ((0 : Int32), σ) else some ((1 : Int32), σ))) else none) else none) else none) else none)) else none else (if a7 = a0 then L_L_wins_37 a0 a1 a2 fu (a7 + 1) σ else if inb ((4 : Int32) * a7) 64 then ((if ¬ (σ.2.1 1 (((4 : Int32) * a7).toNatClampNeg)) = 0 then if inb (((4 : Int32) * a0) + (2 : Int32)) 64 then (if inb (((4 : Int32) * a7) + (2 : Int32)) 64 then (if inb (((4 : Int32) * a7) + (1 : Int32)) 64 then (if inb (((4 : Int32) * a0) + (1 : Int32)) 64 then ((if ¬ (lg_cmp (((σ.2.1 1 ((((4 : Int32) * a0) + (2 : Int32)).toNatClampNeg)) - (σ.2.1 1 ((((4 : Int32) * a7) + (2 : Int32)).toNatClampNeg))).toInt64) (0 : Int64)) = 0 then (Option.bind (if (lg_cmp (((σ.2.1 1 ((((4 : Int32) * a0) + (2 : Int32)).toNatClampNeg)) - (σ.2.1 1 ((((4 : Int32) * a7) + (2 : Int32)).toNatClampNeg))).toInt64) (0 : Int64)) ≤ 0 then some σ else if inb (((4 : Int32) * a0) + (1 : Int32)) 64 then (if inb ((4 : Int32) * a0) 64 then ((if (lg_cmp ((((σ.2.1 1 ((((4 : Int32) * a7) + (1 : Int32)).toNatClampNeg)) - (σ.2.1 1 ((((4 : Int32) * a0) + (1 : Int32)).toNatClampNeg))).toInt64) * (σ.2.2 0 ((((4 : Int32) * a0) + (1 : Int32)).toNatClampNeg))) ((σ.2.2 0 (((4 : Int32) * a0).toNatClampNeg)) * (((σ.2.1 1 ((((4 : Int32) * a0) + (2 : Int32)).toNatClampNeg)) - (σ.2.1 1 ((((4 : Int32) * a7) + (2 : Int32)).toNatClampNeg))).toInt64))) ≤ 0 then some σ else if inb ((4 : Int32) * a0) 64 then (if inb (((4 : Int32) * a0) + (1 : Int32)) 64 then (some (σ.1, (σ.2.1, upL (upL σ.2.2 0 (((4 : Int32) * a0).toNatClampNeg) (((σ.2.1 1 ((((4 : Int32) * a7) + (1 : Int32)).toNatClampNeg)) - (σ.2.1 1 ((((4 : Int32) * a0) + (1 : Int32)).toNatClampNeg))).toInt64)) 0 ((((4 : Int32) * a0) + (1 : Int32)).toNatClampNeg) (((σ.2.1 1 ((((4 : Int32) * a0) + (2 : Int32)).toNatClampNeg)) - (σ.2.1 1 ((((4 : Int32) * a7) + (2 : Int32)).toNatClampNeg))).toInt64)))) else none) else none)) else none) else none) (fun v131 : LM => (Option.bind (if 0 ≤ (lg_cmp (((σ.2.1 1 ((((4 : Int32) * a0) + (2 : Int32)).toNatClampNeg)) - (σ.2.1 1 ((((4 : Int32) * a7) + (2 : Int32)).toNatClampNeg))).toInt64) (0 : Int64)) then some v131 else if inb (((4 : Int32) * a0) + (3 : Int32)) 64 then ((if (lg_cmp (v131.2.2 0 ((((4 : Int32) * a0) + (3 : Int32)).toNatClampNeg)) (0 : Int64)) = 0 then if inb (((4 : Int32) * a0) + (2 : Int32)) 64 then (if inb (((4 : Int32) * a0) + (3 : Int32)) 64 then (some (v131.1, (v131.2.1, upL (upL v131.2.2 0 ((((4 : Int32) * a0) + (2 : Int32)).toNatClampNeg) (-(((σ.2.1 1 ((((4 : Int32) * a7) + (1 : Int32)).toNatClampNeg)) - (σ.2.1 1 ((((4 : Int32) * a0) + (1 : Int32)).toNatClampNeg))).toInt64))) 0 ((((4 : Int32) * a0) + (3 : Int32)).toNatClampNeg) (-(((σ.2.1 1 ((((4 : Int32) * a0) + (2 : Int32)).toNatClampNeg)) - (σ.2.1 1 ((((4 : Int32) * a7) + (2 : Int32)).toNatClampNeg))).toInt64))))) else none) else none else if inb (((4 : Int32) * a0) + (3 : Int32)) 64 then (if inb (((4 : Int32) * a0) + (2 : Int32)) 64 then ((if (lg_cmp ((((σ.2.1 1 ((((4 : Int32) * a7) + (1 : Int32)).toNatClampNeg)) - (σ.2.1 1 ((((4 : Int32) * a0) + (1 : Int32)).toNatClampNeg))).toInt64) * (v131.2.2 0 ((((4 : Int32) * a0) + (3 : Int32)).toNatClampNeg))) ((v131.2.2 0 ((((4 : Int32) * a0) + (2 : Int32)).toNatClampNeg)) * (((σ.2.1 1 ((((4 : Int32) * a0) + (2 : Int32)).toNatClampNeg)) - (σ.2.1 1 ((((4 : Int32) * a7) + (2 : Int32)).toNatClampNeg))).toInt64))) ≤ 0 then some v131 else if inb (((4 : Int32) * a0) + (2 : Int32)) 64 then (if inb (((4 : Int32) * a0) + (3 : Int32)) 64 then (some (v131.1, (v131.2.1, upL (upL v131.2.2 0 ((((4 : Int32) * a0) + (2 : Int32)).toNatClampNeg) (-(((σ.2.1 1 ((((4 : Int32) * a7) + (1 : Int32)).toNatClampNeg)) - (σ.2.1 1 ((((4 : Int32) * a0) + (1 : Int32)).toNatClampNeg))).toInt64))) 0 ((((4 : Int32) * a0) + (3 : Int32)).toNatClampNeg) (-(((σ.2.1 1 ((((4 : Int32) * a0) + (2 : Int32)).toNatClampNeg)) - (σ.2.1 1 ((((4 : Int32) * a7) + (2 : Int32)).toNatClampNeg))).toInt64))))) else none) else none)) else none) else none)) else none) (fun v180 : LM => L_L_wins_37 a0 a1 a2 fu (a7 + 1) v180)))) else Option.bind (F_L_first a0 a7 σ) (fun r119 => (if ¬ r119 = 0 then (Option.bind (if (lg_cmp (((σ.2.1 1 ((((4 : Int32) * a0) + (2 : Int32)).toNatClampNeg)) - (σ.2.1 1 ((((4 : Int32) * a7) + (2 : Int32)).toNatClampNeg))).toInt64) (0 : Int64)) ≤ 0 then some σ else if inb (((4 : Int32) * a0) + (1 : Int32)) 64 then (if inb ((4 : Int32) * a0) 64 then ((if (lg_cmp ((((σ.2.1 1 ((((4 : Int32) * a7) + (1 : Int32)).toNatClampNeg)) - (σ.2.1 1 ((((4 : Int32) * a0) + (1 : Int32)).toNatClampNeg))).toInt64) * (σ.2.2 0 ((((4 : Int32) * a0) + (1 : Int32)).toNatClampNeg))) ((σ.2.2 0 (((4 : Int32) * a0).toNatClampNeg)) * (((σ.2.1 1 ((((4 : Int32) * a0) + (2 : Int32)).toNatClampNeg)) - (σ.2.1 1 ((((4 : Int32) * a7) + (2 : Int32)).toNatClampNeg))).toInt64))) ≤ 0 then some σ else if inb ((4 : Int32) * a0) 64 then (if inb (((4 : Int32) * a0) + (1 : Int32)) 64 then (some (σ.1, (σ.2.1, upL (upL σ.2.2 0 (((4 : Int32) * a0).toNatClampNeg) (((σ.2.1 1 ((((4 : Int32) * a7) + (1 : Int32)).toNatClampNeg)) - (σ.2.1 1 ((((4 : Int32) * a0) + (1 : Int32)).toNatClampNeg))).toInt64)) 0 ((((4 : Int32) * a0) + (1 : Int32)).toNatClampNeg) (((σ.2.1 1 ((((4 : Int32) * a0) + (2 : Int32)).toNatClampNeg)) - (σ.2.1 1 ((((4 : Int32) * a7) + (2 : Int32)).toNatClampNeg))).toInt64)))) else none) else none)) else none) else none) (fun v131 : LM => (Option.bind (if 0 ≤ (lg_cmp (((σ.2.1 1 ((((4 : Int32) * a0) + (2 : Int32)).toNatClampNeg)) - (σ.2.1 1 ((((4 : Int32) * a7) + (2 : Int32)).toNatClampNeg))).toInt64) (0 : Int64)) then some v131 else if inb (((4 : Int32) * a0) + (3 : Int32)) 64 then ((if (lg_cmp (v131.2.2 0 ((((4 : Int32) * a0) + (3 : Int32)).toNatClampNeg)) (0 : Int64)) = 0 then if inb (((4 : Int32) * a0) + (2 : Int32)) 64 then (if inb (((4 : Int32) * a0) + (3 : Int32)) 64 then (some (v131.1, (v131.2.1, upL (upL v131.2.2 0 ((((4 : Int32) * a0) + (2 : Int32)).toNatClampNeg) (-(((σ.2.1 1 ((((4 : Int32) * a7) + (1 : Int32)).toNatClampNeg)) - (σ.2.1 1 ((((4 : Int32) * a0) + (1 : Int32)).toNatClampNeg))).toInt64))) 0 ((((4 : Int32) * a0) + (3 : Int32)).toNatClampNeg) (-(((σ.2.1 1 ((((4 : Int32) * a0) + (2 : Int32)).toNatClampNeg)) - (σ.2.1 1 ((((4 : Int32) * a7) + (2 : Int32)).toNatClampNeg))).toInt64))))) else none) else none else if inb (((4 : Int32) * a0) + (3 : Int32)) 64 then (if inb (((4 : Int32) * a0) + (2 : Int32)) 64 then ((if (lg_cmp ((((σ.2.1 1 ((((4 : Int32) * a7) + (1 : Int32)).toNatClampNeg)) - (σ.2.1 1 ((((4 : Int32) * a0) + (1 : Int32)).toNatClampNeg))).toInt64) * (v131.2.2 0 ((((4 : Int32) * a0) + (3 : Int32)).toNatClampNeg))) ((v131.2.2 0 ((((4 : Int32) * a0) + (2 : Int32)).toNatClampNeg)) * (((σ.2.1 1 ((((4 : Int32) * a0) + (2 : Int32)).toNatClampNeg)) - (σ.2.1 1 ((((4 : Int32) * a7) + (2 : Int32)).toNatClampNeg))).toInt64))) ≤ 0 then some v131 else if inb (((4 : Int32) * a0) + (2 : Int32)) 64 then (if inb (((4 : Int32) * a0) + (3 : Int32)) 64 then (some (v131.1, (v131.2.1, upL (upL v131.2.2 0 ((((4 : Int32) * a0) + (2 : Int32)).toNatClampNeg) (-(((σ.2.1 1 ((((4 : Int32) * a7) + (1 : Int32)).toNatClampNeg)) - (σ.2.1 1 ((((4 : Int32) * a0) + (1 : Int32)).toNatClampNeg))).toInt64))) 0 ((((4 : Int32) * a0) + (3 : Int32)).toNatClampNeg) (-(((σ.2.1 1 ((((4 : Int32) * a0) + (2 : Int32)).toNatClampNeg)) - (σ.2.1 1 ((((4 : Int32) * a7) + (2 : Int32)).toNatClampNeg))).toInt64))))) else none) else none)) else none) else none)) else none) (fun v180 : LM => L_L_wins_37 a0 a1 a2 fu (a7 + 1) v180)))) else some ((0 : Int32), σ))))) else none) else none) else none) else none else L_L_wins_37 a0 a1 a2 fu (a7 + 1) σ)) else none))
set_option maxHeartbeats 4000000 in
set_option maxRecDepth 100000 in
theorem w_L_wins_37 {D : va_G} {ay : Nat → ClassId} {ad : Nat → Nat} {p : Program} {l : Launch} {e : Env} {s : State} {m : MethodId} {args : Array Value} {below : List Frame} {meth : Method} {c : Code} {a0 : Int32} {a1 : Int32} {a2 : Int32} {res : Int32 × LM} (X : CX D ay p s m args meth c cL_wins 12 RL (some .boolean) wsL_wins) (hI : axOK ad) : ∀ (fu : Nat) (a7 : Int32) (σ : LM), L_L_wins_37 a0 a1 a2 fu a7 σ = some res → ∀ ls : Array Slot, lv_has ls 12 [(0, .int a0), (1, .int a1), (2, .int a2), (3, .ref (ad 108)), (4, .ref (ad 109)), (5, .ref (ad 110)), (7, .int a7)] → GW D (wX ay ad) (AX ad) p l e ({ frames := 1, cells := 0, slots := 0, locals := 24 } : Room) s m args below meth c (MQ below (va_Qi (pF res) (fun τ => PP D ay (wX ay ad τ)) (AX ad)) args s 0 0 (AX ad)) σ (F0 m 37 ls []) := by
  intro fu
  induction fu with
  | zero =>
    intro a7 σ hF ls hl
    rw [L_L_wins_37] at hF
    cases hF
  | succ fu ih =>
    intro a7 σ hF ls hl
    rw [L_L_wins_37] at hF
    refine g_iload X dL_wins_37 (lv_at hl 6 rfl) ?_
    refine g_iload_n X dL_wins_39 rfl (lv_at hl 1 rfl) ?_
    refine g_iload_n X dL_wins_40 rfl (lv_at hl 2 rfl) ?_
    refine g_iadd X dL_wins_41 ?_
    refine g_icmp_ge (tgt := 250) X dL_wins_42 (by decide) (fun hc42 => ?_) (fun hc42 => ?_)
    · have hF := ite_t hF hc42
      refine g_aload X dL_wins_250 (lv_at hl 5 rfl) ?_
      refine g_iconst (v := 4) X dL_wins_252 (by decide) ?_
      refine g_iload_n X dL_wins_253 rfl (lv_at hl 0 rfl) ?_
      refine g_imul X dL_wins_254 ?_
      refine g_iconst (v := 3) X dL_wins_255 (by decide) ?_
      refine g_iadd X dL_wins_256 ?_
      obtain ⟨h257, hF⟩ := itn hF
      refine g_lald X 110 (j := (((4 : Int32) * a0) + (3 : Int32)).toNatClampNeg) (xa_f) (by first | rfl | decide) (inb_in h257) dL_wins_257 ?_
      refine g_lconst (v := 0) X dL_wins_258 (by decide) ?_
      refine g_lcmp X dL_wins_259 ?_
      refine g_if_eq (tgt := 299) X dL_wins_260 (by decide) (fun hc260 => ?_) (fun hc260 => ?_)
      · have hF := ite_t hF hc260
        refine g_iconst (v := 1) X dL_wins_299 (by decide) ?_
        refine g_goto (tgt := 304) X dL_wins_300 (by decide) ?_
        exact g_zret X rfl (pF_mk (some_inj hF) rfl) dL_wins_304
      · have hF := ite_f hF hc260
        refine g_aload X dL_wins_263 (lv_at hl 5 rfl) ?_
        refine g_iconst (v := 4) X dL_wins_265 (by decide) ?_
        refine g_iload_n X dL_wins_266 rfl (lv_at hl 0 rfl) ?_
        refine g_imul X dL_wins_267 ?_
        obtain ⟨h268, hF⟩ := itn hF
        refine g_lald X 110 (j := ((4 : Int32) * a0).toNatClampNeg) (xa_f) (by first | rfl | decide) (inb_in h268) dL_wins_268 ?_
        refine g_aload X dL_wins_269 (lv_at hl 5 rfl) ?_
        refine g_iconst (v := 4) X dL_wins_271 (by decide) ?_
        refine g_iload_n X dL_wins_272 rfl (lv_at hl 0 rfl) ?_
        refine g_imul X dL_wins_273 ?_
        refine g_iconst (v := 3) X dL_wins_274 (by decide) ?_
        refine g_iadd X dL_wins_275 ?_
        obtain ⟨h276, hF⟩ := itn hF
        refine g_lald X 110 (j := (((4 : Int32) * a0) + (3 : Int32)).toNatClampNeg) (xa_f) (by first | rfl | decide) (inb_in h276) dL_wins_276 ?_
        refine g_lmul X dL_wins_277 ?_
        refine g_aload X dL_wins_278 (lv_at hl 5 rfl) ?_
        refine g_iconst (v := 4) X dL_wins_280 (by decide) ?_
        refine g_iload_n X dL_wins_281 rfl (lv_at hl 0 rfl) ?_
        refine g_imul X dL_wins_282 ?_
        refine g_iconst (v := 2) X dL_wins_283 (by decide) ?_
        refine g_iadd X dL_wins_284 ?_
        obtain ⟨h285, hF⟩ := itn hF
        refine g_lald X 110 (j := (((4 : Int32) * a0) + (2 : Int32)).toNatClampNeg) (xa_f) (by first | rfl | decide) (inb_in h285) dL_wins_285 ?_
        refine g_aload X dL_wins_286 (lv_at hl 5 rfl) ?_
        refine g_iconst (v := 4) X dL_wins_288 (by decide) ?_
        refine g_iload_n X dL_wins_289 rfl (lv_at hl 0 rfl) ?_
        refine g_imul X dL_wins_290 ?_
        refine g_iconst (v := 1) X dL_wins_291 (by decide) ?_
        refine g_iadd X dL_wins_292 ?_
        obtain ⟨h293, hF⟩ := itn hF
        refine g_lald X 110 (j := (((4 : Int32) * a0) + (1 : Int32)).toNatClampNeg) (xa_f) (by first | rfl | decide) (inb_in h293) dL_wins_293 ?_
        refine g_lmul X dL_wins_294 ?_
        refine g_lcmp X dL_wins_295 ?_
        refine g_if_ge (tgt := 303) X dL_wins_296 (by decide) (fun hc296 => ?_) (fun hc296 => ?_)
        · have hF := ite_t hF hc296
          refine g_iconst (v := 0) X dL_wins_303 (by decide) ?_
          exact g_zret X rfl (pF_mk (some_inj hF) rfl) dL_wins_304
        · have hF := ite_f hF hc296
          refine g_iconst (v := 1) X dL_wins_299 (by decide) ?_
          refine g_goto (tgt := 304) X dL_wins_300 (by decide) ?_
          exact g_zret X rfl (pF_mk (some_inj hF) rfl) dL_wins_304
    · have hF := ite_f hF hc42
      refine g_iload X dL_wins_45 (lv_at hl 6 rfl) ?_
      refine g_iload_n X dL_wins_47 rfl (lv_at hl 0 rfl) ?_
      refine g_icmp_eq (tgt := 244) X dL_wins_48 (by decide) (fun hc48 => ?_) (fun hc48 => ?_)
      · have hF := ite_t hF hc48
        refine g_iinc (v := a7 + 1) (lv' := [(7, _), (0, _), (1, _), (2, _), (3, _), (4, _), (5, _)]) X dL_wins_244 hl (k := 6) rfl rfl (by decide) rfl (fun ls hl => ?_)
        refine g_goto (tgt := 37) X dL_wins_247 (by decide) ?_
        exact ih (a7 + 1) σ hF ls (lv_sub hl [1, 2, 3, 4, 5, 6, 0] rfl)
      · have hF := ite_f hF hc48
        refine g_aload X dL_wins_51 (lv_at hl 4 rfl) ?_
        refine g_iconst (v := 4) X dL_wins_53 (by decide) ?_
        refine g_iload X dL_wins_54 (lv_at hl 6 rfl) ?_
        refine g_imul X dL_wins_56 ?_
        obtain ⟨h57, hF⟩ := itn hF
        refine g_iald X 109 (j := ((4 : Int32) * a7).toNatClampNeg) (xa_m) (by first | rfl | decide) (inb_in h57) dL_wins_57 ?_
        refine g_if_ne (tgt := 64) X dL_wins_58 (by decide) (fun hc58 => ?_) (fun hc58 => ?_)
        · have hF := ite_t hF hc58
          refine g_aload X dL_wins_64 (lv_at hl 4 rfl) ?_
          refine g_iconst (v := 4) X dL_wins_66 (by decide) ?_
          refine g_iload_n X dL_wins_67 rfl (lv_at hl 0 rfl) ?_
          refine g_imul X dL_wins_68 ?_
          refine g_iconst (v := 2) X dL_wins_69 (by decide) ?_
          refine g_iadd X dL_wins_70 ?_
          obtain ⟨h71, hF⟩ := itn hF
          refine g_iald X 109 (j := (((4 : Int32) * a0) + (2 : Int32)).toNatClampNeg) (xa_m) (by first | rfl | decide) (inb_in h71) dL_wins_71 ?_
          refine g_aload X dL_wins_72 (lv_at hl 4 rfl) ?_
          refine g_iconst (v := 4) X dL_wins_74 (by decide) ?_
          refine g_iload X dL_wins_75 (lv_at hl 6 rfl) ?_
          refine g_imul X dL_wins_77 ?_
          refine g_iconst (v := 2) X dL_wins_78 (by decide) ?_
          refine g_iadd X dL_wins_79 ?_
          obtain ⟨h80, hF⟩ := itn hF
          refine g_iald X 109 (j := (((4 : Int32) * a7) + (2 : Int32)).toNatClampNeg) (xa_m) (by first | rfl | decide) (inb_in h80) dL_wins_80 ?_
          refine g_isub X dL_wins_81 ?_
          refine g_i2l X dL_wins_82 ?_
          refine g_lstore (lv' := [(8, _), (0, _), (1, _), (2, _), (3, _), (4, _), (5, _), (7, _)]) X dL_wins_83 hl (by decide) rfl (fun ls hl => ?_)
          refine g_aload X dL_wins_85 (lv_at hl 5 rfl) ?_
          refine g_iconst (v := 4) X dL_wins_87 (by decide) ?_
          refine g_iload X dL_wins_88 (lv_at hl 7 rfl) ?_
          refine g_imul X dL_wins_90 ?_
          refine g_iconst (v := 1) X dL_wins_91 (by decide) ?_
          refine g_iadd X dL_wins_92 ?_
          obtain ⟨h93, hF⟩ := itn hF
          refine g_iald X 109 (j := (((4 : Int32) * a7) + (1 : Int32)).toNatClampNeg) (xa_m) (by first | rfl | decide) (inb_in h93) dL_wins_93 ?_
          refine g_aload X dL_wins_94 (lv_at hl 5 rfl) ?_
          refine g_iconst (v := 4) X dL_wins_96 (by decide) ?_
          refine g_iload_n X dL_wins_97 rfl (lv_at hl 1 rfl) ?_
          refine g_imul X dL_wins_98 ?_
          refine g_iconst (v := 1) X dL_wins_99 (by decide) ?_
          refine g_iadd X dL_wins_100 ?_
          obtain ⟨h101, hF⟩ := itn hF
          refine g_iald X 109 (j := (((4 : Int32) * a0) + (1 : Int32)).toNatClampNeg) (xa_m) (by first | rfl | decide) (inb_in h101) dL_wins_101 ?_
          refine g_isub X dL_wins_102 ?_
          refine g_i2l X dL_wins_103 ?_
          refine g_lstore (lv' := [(10, _), (8, _), (0, _), (1, _), (2, _), (3, _), (4, _), (5, _), (7, _)]) X dL_wins_104 hl (by decide) rfl (fun ls hl => ?_)
          refine g_lload X dL_wins_106 (lv_at hl 1 rfl) ?_
          refine g_lconst (v := 0) X dL_wins_108 (by decide) ?_
          refine g_lcmp X dL_wins_109 ?_
          refine g_if_ne (tgt := 127) X dL_wins_110 (by decide) (fun hc110 => ?_) (fun hc110 => ?_)
          · have hF := ite_t hF hc110
            refine g_lload X dL_wins_127 (lv_at hl 1 rfl) ?_
            refine g_lconst (v := 0) X dL_wins_129 (by decide) ?_
            refine g_lcmp X dL_wins_130 ?_
            obtain ⟨v131, hR131, hF⟩ := obind hF
            refine g_cut (nM := 12) [(0, .int a0), (1, .int a1), (2, .int a2), (3, .ref (ad 108)), (4, .ref (ad 109)), (5, .ref (ad 110)), (7, .int a7), (8, .long (((σ.2.1 1 ((((4 : Int32) * a0) + (2 : Int32)).toNatClampNeg)) - (σ.2.1 1 ((((4 : Int32) * a7) + (2 : Int32)).toNatClampNeg))).toInt64)), (10, .long (((σ.2.1 1 ((((4 : Int32) * a7) + (1 : Int32)).toNatClampNeg)) - (σ.2.1 1 ((((4 : Int32) * a0) + (1 : Int32)).toNatClampNeg))).toInt64))] (v131) 176 [] (fun ls hl => ?_) (fun J131 => ?_)
            · refine g_lload X dL_wins_176 (lv_at hl 7 rfl) ?_
              refine g_lconst (v := 0) X dL_wins_178 (by decide) ?_
              refine g_lcmp X dL_wins_179 ?_
              obtain ⟨v180, hR180, hF⟩ := obind hF
              refine g_cut (nM := 12) [(0, .int a0), (1, .int a1), (2, .int a2), (3, .ref (ad 108)), (4, .ref (ad 109)), (5, .ref (ad 110)), (7, .int a7)] (v180) 244 [] (fun ls hl => ?_) (fun J180 => ?_)
              · refine g_iinc (v := a7 + 1) (lv' := [(7, _), (0, _), (1, _), (2, _), (3, _), (4, _), (5, _)]) X dL_wins_244 hl (k := 6) rfl rfl (by decide) rfl (fun ls hl => ?_)
                refine g_goto (tgt := 37) X dL_wins_247 (by decide) ?_
                exact ih (a7 + 1) v180 hF ls (lv_sub hl [1, 2, 3, 4, 5, 6, 0] rfl)
              · refine g_if_ge (tgt := 244) X dL_wins_180 (by decide) (fun hc180 => ?_) (fun hc180 => ?_)
                · have hR180 := ite_t hR180 hc180
                  have e180 := some_inj hR180
                  subst e180
                  exact J180 ls (lv_sub hl [0, 1, 2, 3, 4, 5, 6] rfl)
                · have hR180 := ite_f hR180 hc180
                  refine g_aload X dL_wins_183 (lv_at hl 5 rfl) ?_
                  refine g_iconst (v := 4) X dL_wins_185 (by decide) ?_
                  refine g_iload_n X dL_wins_186 rfl (lv_at hl 0 rfl) ?_
                  refine g_imul X dL_wins_187 ?_
                  refine g_iconst (v := 3) X dL_wins_188 (by decide) ?_
                  refine g_iadd X dL_wins_189 ?_
                  obtain ⟨h190, hR180⟩ := itn hR180
                  refine g_lald X 110 (j := (((4 : Int32) * a0) + (3 : Int32)).toNatClampNeg) (xa_f) (by first | rfl | decide) (inb_in h190) dL_wins_190 ?_
                  refine g_lconst (v := 0) X dL_wins_191 (by decide) ?_
                  refine g_lcmp X dL_wins_192 ?_
                  refine g_if_eq (tgt := 222) X dL_wins_193 (by decide) (fun hc193 => ?_) (fun hc193 => ?_)
                  · have hR180 := ite_t hR180 hc193
                    refine g_aload X dL_wins_222 (lv_at hl 5 rfl) ?_
                    refine g_iconst (v := 4) X dL_wins_224 (by decide) ?_
                    refine g_iload_n X dL_wins_225 rfl (lv_at hl 0 rfl) ?_
                    refine g_imul X dL_wins_226 ?_
                    refine g_iconst (v := 2) X dL_wins_227 (by decide) ?_
                    refine g_iadd X dL_wins_228 ?_
                    refine g_lload X dL_wins_229 (lv_at hl 8 rfl) ?_
                    refine g_lneg X dL_wins_231 ?_
                    obtain ⟨h232, hR180⟩ := itn hR180
                    refine g_last X (wX_D hI) (v131.1, (v131.2.1, upL v131.2.2 0 ((((4 : Int32) * a0) + (2 : Int32)).toNatClampNeg) (-(((σ.2.1 1 ((((4 : Int32) * a7) + (1 : Int32)).toNatClampNeg)) - (σ.2.1 1 ((((4 : Int32) * a0) + (1 : Int32)).toNatClampNeg))).toInt64)))) 110 (j := (((4 : Int32) * a0) + (2 : Int32)).toNatClampNeg) (xa_f) (by first | rfl | decide) set_xf (inb_in h232) dL_wins_232 ?_
                    refine g_aload X dL_wins_233 (lv_at hl 5 rfl) ?_
                    refine g_iconst (v := 4) X dL_wins_235 (by decide) ?_
                    refine g_iload_n X dL_wins_236 rfl (lv_at hl 0 rfl) ?_
                    refine g_imul X dL_wins_237 ?_
                    refine g_iconst (v := 3) X dL_wins_238 (by decide) ?_
                    refine g_iadd X dL_wins_239 ?_
                    refine g_lload X dL_wins_240 (lv_at hl 7 rfl) ?_
                    refine g_lneg X dL_wins_242 ?_
                    obtain ⟨h243, hR180⟩ := itn hR180
                    refine g_last X (wX_D hI) (v131.1, (v131.2.1, upL (upL v131.2.2 0 ((((4 : Int32) * a0) + (2 : Int32)).toNatClampNeg) (-(((σ.2.1 1 ((((4 : Int32) * a7) + (1 : Int32)).toNatClampNeg)) - (σ.2.1 1 ((((4 : Int32) * a0) + (1 : Int32)).toNatClampNeg))).toInt64))) 0 ((((4 : Int32) * a0) + (3 : Int32)).toNatClampNeg) (-(((σ.2.1 1 ((((4 : Int32) * a0) + (2 : Int32)).toNatClampNeg)) - (σ.2.1 1 ((((4 : Int32) * a7) + (2 : Int32)).toNatClampNeg))).toInt64)))) 110 (j := (((4 : Int32) * a0) + (3 : Int32)).toNatClampNeg) (xa_f) (by first | rfl | decide) set_xf (inb_in h243) dL_wins_243 ?_
                    have e180 := some_inj hR180
                    subst e180
                    exact J180 ls (lv_sub hl [0, 1, 2, 3, 4, 5, 6] rfl)
                  · have hR180 := ite_f hR180 hc193
                    refine g_lload X dL_wins_196 (lv_at hl 8 rfl) ?_
                    refine g_aload X dL_wins_198 (lv_at hl 5 rfl) ?_
                    refine g_iconst (v := 4) X dL_wins_200 (by decide) ?_
                    refine g_iload_n X dL_wins_201 rfl (lv_at hl 0 rfl) ?_
                    refine g_imul X dL_wins_202 ?_
                    refine g_iconst (v := 3) X dL_wins_203 (by decide) ?_
                    refine g_iadd X dL_wins_204 ?_
                    obtain ⟨h205, hR180⟩ := itn hR180
                    refine g_lald X 110 (j := (((4 : Int32) * a0) + (3 : Int32)).toNatClampNeg) (xa_f) (by first | rfl | decide) (inb_in h205) dL_wins_205 ?_
                    refine g_lmul X dL_wins_206 ?_
                    refine g_aload X dL_wins_207 (lv_at hl 5 rfl) ?_
                    refine g_iconst (v := 4) X dL_wins_209 (by decide) ?_
                    refine g_iload_n X dL_wins_210 rfl (lv_at hl 0 rfl) ?_
                    refine g_imul X dL_wins_211 ?_
                    refine g_iconst (v := 2) X dL_wins_212 (by decide) ?_
                    refine g_iadd X dL_wins_213 ?_
                    obtain ⟨h214, hR180⟩ := itn hR180
                    refine g_lald X 110 (j := (((4 : Int32) * a0) + (2 : Int32)).toNatClampNeg) (xa_f) (by first | rfl | decide) (inb_in h214) dL_wins_214 ?_
                    refine g_lload X dL_wins_215 (lv_at hl 7 rfl) ?_
                    refine g_lmul X dL_wins_217 ?_
                    refine g_lcmp X dL_wins_218 ?_
                    refine g_if_le (tgt := 244) X dL_wins_219 (by decide) (fun hc219 => ?_) (fun hc219 => ?_)
                    · have hR180 := ite_t hR180 hc219
                      have e180 := some_inj hR180
                      subst e180
                      exact J180 ls (lv_sub hl [0, 1, 2, 3, 4, 5, 6] rfl)
                    · have hR180 := ite_f hR180 hc219
                      refine g_aload X dL_wins_222 (lv_at hl 5 rfl) ?_
                      refine g_iconst (v := 4) X dL_wins_224 (by decide) ?_
                      refine g_iload_n X dL_wins_225 rfl (lv_at hl 0 rfl) ?_
                      refine g_imul X dL_wins_226 ?_
                      refine g_iconst (v := 2) X dL_wins_227 (by decide) ?_
                      refine g_iadd X dL_wins_228 ?_
                      refine g_lload X dL_wins_229 (lv_at hl 8 rfl) ?_
                      refine g_lneg X dL_wins_231 ?_
                      obtain ⟨h232, hR180⟩ := itn hR180
                      refine g_last X (wX_D hI) (v131.1, (v131.2.1, upL v131.2.2 0 ((((4 : Int32) * a0) + (2 : Int32)).toNatClampNeg) (-(((σ.2.1 1 ((((4 : Int32) * a7) + (1 : Int32)).toNatClampNeg)) - (σ.2.1 1 ((((4 : Int32) * a0) + (1 : Int32)).toNatClampNeg))).toInt64)))) 110 (j := (((4 : Int32) * a0) + (2 : Int32)).toNatClampNeg) (xa_f) (by first | rfl | decide) set_xf (inb_in h232) dL_wins_232 ?_
                      refine g_aload X dL_wins_233 (lv_at hl 5 rfl) ?_
                      refine g_iconst (v := 4) X dL_wins_235 (by decide) ?_
                      refine g_iload_n X dL_wins_236 rfl (lv_at hl 0 rfl) ?_
                      refine g_imul X dL_wins_237 ?_
                      refine g_iconst (v := 3) X dL_wins_238 (by decide) ?_
                      refine g_iadd X dL_wins_239 ?_
                      refine g_lload X dL_wins_240 (lv_at hl 7 rfl) ?_
                      refine g_lneg X dL_wins_242 ?_
                      obtain ⟨h243, hR180⟩ := itn hR180
                      refine g_last X (wX_D hI) (v131.1, (v131.2.1, upL (upL v131.2.2 0 ((((4 : Int32) * a0) + (2 : Int32)).toNatClampNeg) (-(((σ.2.1 1 ((((4 : Int32) * a7) + (1 : Int32)).toNatClampNeg)) - (σ.2.1 1 ((((4 : Int32) * a0) + (1 : Int32)).toNatClampNeg))).toInt64))) 0 ((((4 : Int32) * a0) + (3 : Int32)).toNatClampNeg) (-(((σ.2.1 1 ((((4 : Int32) * a0) + (2 : Int32)).toNatClampNeg)) - (σ.2.1 1 ((((4 : Int32) * a7) + (2 : Int32)).toNatClampNeg))).toInt64)))) 110 (j := (((4 : Int32) * a0) + (3 : Int32)).toNatClampNeg) (xa_f) (by first | rfl | decide) set_xf (inb_in h243) dL_wins_243 ?_
                      have e180 := some_inj hR180
                      subst e180
                      exact J180 ls (lv_sub hl [0, 1, 2, 3, 4, 5, 6] rfl)
            · refine g_if_le (tgt := 176) X dL_wins_131 (by decide) (fun hc131 => ?_) (fun hc131 => ?_)
              · have hR131 := ite_t hR131 hc131
                have e131 := some_inj hR131
                subst e131
                exact J131 ls (lv_sub hl [2, 3, 4, 5, 6, 7, 8, 1, 0] rfl)
              · have hR131 := ite_f hR131 hc131
                refine g_lload X dL_wins_134 (lv_at hl 0 rfl) ?_
                refine g_aload X dL_wins_136 (lv_at hl 7 rfl) ?_
                refine g_iconst (v := 4) X dL_wins_138 (by decide) ?_
                refine g_iload_n X dL_wins_139 rfl (lv_at hl 2 rfl) ?_
                refine g_imul X dL_wins_140 ?_
                refine g_iconst (v := 1) X dL_wins_141 (by decide) ?_
                refine g_iadd X dL_wins_142 ?_
                obtain ⟨h143, hR131⟩ := itn hR131
                refine g_lald X 110 (j := (((4 : Int32) * a0) + (1 : Int32)).toNatClampNeg) (xa_f) (by first | rfl | decide) (inb_in h143) dL_wins_143 ?_
                refine g_lmul X dL_wins_144 ?_
                refine g_aload X dL_wins_145 (lv_at hl 7 rfl) ?_
                refine g_iconst (v := 4) X dL_wins_147 (by decide) ?_
                refine g_iload_n X dL_wins_148 rfl (lv_at hl 2 rfl) ?_
                refine g_imul X dL_wins_149 ?_
                obtain ⟨h150, hR131⟩ := itn hR131
                refine g_lald X 110 (j := ((4 : Int32) * a0).toNatClampNeg) (xa_f) (by first | rfl | decide) (inb_in h150) dL_wins_150 ?_
                refine g_lload X dL_wins_151 (lv_at hl 1 rfl) ?_
                refine g_lmul X dL_wins_153 ?_
                refine g_lcmp X dL_wins_154 ?_
                refine g_if_le (tgt := 176) X dL_wins_155 (by decide) (fun hc155 => ?_) (fun hc155 => ?_)
                · have hR131 := ite_t hR131 hc155
                  have e131 := some_inj hR131
                  subst e131
                  exact J131 ls (lv_sub hl [2, 3, 4, 5, 6, 7, 8, 1, 0] rfl)
                · have hR131 := ite_f hR131 hc155
                  refine g_aload X dL_wins_158 (lv_at hl 7 rfl) ?_
                  refine g_iconst (v := 4) X dL_wins_160 (by decide) ?_
                  refine g_iload_n X dL_wins_161 rfl (lv_at hl 2 rfl) ?_
                  refine g_imul X dL_wins_162 ?_
                  refine g_lload X dL_wins_163 (lv_at hl 0 rfl) ?_
                  obtain ⟨h165, hR131⟩ := itn hR131
                  refine g_last X (wX_D hI) (σ.1, (σ.2.1, upL σ.2.2 0 (((4 : Int32) * a0).toNatClampNeg) (((σ.2.1 1 ((((4 : Int32) * a7) + (1 : Int32)).toNatClampNeg)) - (σ.2.1 1 ((((4 : Int32) * a0) + (1 : Int32)).toNatClampNeg))).toInt64))) 110 (j := ((4 : Int32) * a0).toNatClampNeg) (xa_f) (by first | rfl | decide) set_xf (inb_in h165) dL_wins_165 ?_
                  refine g_aload X dL_wins_166 (lv_at hl 7 rfl) ?_
                  refine g_iconst (v := 4) X dL_wins_168 (by decide) ?_
                  refine g_iload_n X dL_wins_169 rfl (lv_at hl 2 rfl) ?_
                  refine g_imul X dL_wins_170 ?_
                  refine g_iconst (v := 1) X dL_wins_171 (by decide) ?_
                  refine g_iadd X dL_wins_172 ?_
                  refine g_lload X dL_wins_173 (lv_at hl 1 rfl) ?_
                  obtain ⟨h175, hR131⟩ := itn hR131
                  refine g_last X (wX_D hI) (σ.1, (σ.2.1, upL (upL σ.2.2 0 (((4 : Int32) * a0).toNatClampNeg) (((σ.2.1 1 ((((4 : Int32) * a7) + (1 : Int32)).toNatClampNeg)) - (σ.2.1 1 ((((4 : Int32) * a0) + (1 : Int32)).toNatClampNeg))).toInt64)) 0 ((((4 : Int32) * a0) + (1 : Int32)).toNatClampNeg) (((σ.2.1 1 ((((4 : Int32) * a0) + (2 : Int32)).toNatClampNeg)) - (σ.2.1 1 ((((4 : Int32) * a7) + (2 : Int32)).toNatClampNeg))).toInt64))) 110 (j := (((4 : Int32) * a0) + (1 : Int32)).toNatClampNeg) (xa_f) (by first | rfl | decide) set_xf (inb_in h175) dL_wins_175 ?_
                  have e131 := some_inj hR131
                  subst e131
                  exact J131 ls (lv_sub hl [2, 3, 4, 5, 6, 7, 8, 1, 0] rfl)
          · have hF := ite_n hF hc110
            refine g_iload_n X dL_wins_113 rfl (lv_at hl 2 rfl) ?_
            refine g_iload X dL_wins_114 (lv_at hl 8 rfl) ?_
            refine g_aload_n X dL_wins_116 rfl (lv_at hl 5 rfl) ?_
            refine g_aload X dL_wins_117 (lv_at hl 6 rfl) ?_
            obtain ⟨r119, hr119, hF⟩ := obind hF
            refine k_Sz X (As := [.int a0, .int a7, .ref (ad 108), .ref (ad 109)]) (rest := []) (c_L_first hI hr119) (va_cwS 4 X.ts gL_wins_L_first rfl rfl rfl (by decide +kernel) ⟨Nat.le_of_ble_eq_true rfl, Nat.le_of_ble_eq_true rfl⟩) rfl hl.1 rfl (Nat.le_of_ble_eq_true rfl) dL_wins_119 (fun hz119 => ?_)
            refine g_if_ne (tgt := 127) X dL_wins_122 (by decide) (fun hc122 => ?_) (fun hc122 => ?_)
            · have hF := ite_t hF hc122
              refine g_lload X dL_wins_127 (lv_at hl 1 rfl) ?_
              refine g_lconst (v := 0) X dL_wins_129 (by decide) ?_
              refine g_lcmp X dL_wins_130 ?_
              obtain ⟨v131, hR131, hF⟩ := obind hF
              refine g_cut (nM := 12) [(0, .int a0), (1, .int a1), (2, .int a2), (3, .ref (ad 108)), (4, .ref (ad 109)), (5, .ref (ad 110)), (7, .int a7), (8, .long (((σ.2.1 1 ((((4 : Int32) * a0) + (2 : Int32)).toNatClampNeg)) - (σ.2.1 1 ((((4 : Int32) * a7) + (2 : Int32)).toNatClampNeg))).toInt64)), (10, .long (((σ.2.1 1 ((((4 : Int32) * a7) + (1 : Int32)).toNatClampNeg)) - (σ.2.1 1 ((((4 : Int32) * a0) + (1 : Int32)).toNatClampNeg))).toInt64))] (v131) 176 [] (fun ls hl => ?_) (fun J131 => ?_)
              · refine g_lload X dL_wins_176 (lv_at hl 7 rfl) ?_
                refine g_lconst (v := 0) X dL_wins_178 (by decide) ?_
                refine g_lcmp X dL_wins_179 ?_
                obtain ⟨v180, hR180, hF⟩ := obind hF
                refine g_cut (nM := 12) [(0, .int a0), (1, .int a1), (2, .int a2), (3, .ref (ad 108)), (4, .ref (ad 109)), (5, .ref (ad 110)), (7, .int a7)] (v180) 244 [] (fun ls hl => ?_) (fun J180 => ?_)
                · refine g_iinc (v := a7 + 1) (lv' := [(7, _), (0, _), (1, _), (2, _), (3, _), (4, _), (5, _)]) X dL_wins_244 hl (k := 6) rfl rfl (by decide) rfl (fun ls hl => ?_)
                  refine g_goto (tgt := 37) X dL_wins_247 (by decide) ?_
                  exact ih (a7 + 1) v180 hF ls (lv_sub hl [1, 2, 3, 4, 5, 6, 0] rfl)
                · refine g_if_ge (tgt := 244) X dL_wins_180 (by decide) (fun hc180 => ?_) (fun hc180 => ?_)
                  · have hR180 := ite_t hR180 hc180
                    have e180 := some_inj hR180
                    subst e180
                    exact J180 ls (lv_sub hl [0, 1, 2, 3, 4, 5, 6] rfl)
                  · have hR180 := ite_f hR180 hc180
                    refine g_aload X dL_wins_183 (lv_at hl 5 rfl) ?_
                    refine g_iconst (v := 4) X dL_wins_185 (by decide) ?_
                    refine g_iload_n X dL_wins_186 rfl (lv_at hl 0 rfl) ?_
                    refine g_imul X dL_wins_187 ?_
                    refine g_iconst (v := 3) X dL_wins_188 (by decide) ?_
                    refine g_iadd X dL_wins_189 ?_
                    obtain ⟨h190, hR180⟩ := itn hR180
                    refine g_lald X 110 (j := (((4 : Int32) * a0) + (3 : Int32)).toNatClampNeg) (xa_f) (by first | rfl | decide) (inb_in h190) dL_wins_190 ?_
                    refine g_lconst (v := 0) X dL_wins_191 (by decide) ?_
                    refine g_lcmp X dL_wins_192 ?_
                    refine g_if_eq (tgt := 222) X dL_wins_193 (by decide) (fun hc193 => ?_) (fun hc193 => ?_)
                    · have hR180 := ite_t hR180 hc193
                      refine g_aload X dL_wins_222 (lv_at hl 5 rfl) ?_
                      refine g_iconst (v := 4) X dL_wins_224 (by decide) ?_
                      refine g_iload_n X dL_wins_225 rfl (lv_at hl 0 rfl) ?_
                      refine g_imul X dL_wins_226 ?_
                      refine g_iconst (v := 2) X dL_wins_227 (by decide) ?_
                      refine g_iadd X dL_wins_228 ?_
                      refine g_lload X dL_wins_229 (lv_at hl 8 rfl) ?_
                      refine g_lneg X dL_wins_231 ?_
                      obtain ⟨h232, hR180⟩ := itn hR180
                      refine g_last X (wX_D hI) (v131.1, (v131.2.1, upL v131.2.2 0 ((((4 : Int32) * a0) + (2 : Int32)).toNatClampNeg) (-(((σ.2.1 1 ((((4 : Int32) * a7) + (1 : Int32)).toNatClampNeg)) - (σ.2.1 1 ((((4 : Int32) * a0) + (1 : Int32)).toNatClampNeg))).toInt64)))) 110 (j := (((4 : Int32) * a0) + (2 : Int32)).toNatClampNeg) (xa_f) (by first | rfl | decide) set_xf (inb_in h232) dL_wins_232 ?_
                      refine g_aload X dL_wins_233 (lv_at hl 5 rfl) ?_
                      refine g_iconst (v := 4) X dL_wins_235 (by decide) ?_
                      refine g_iload_n X dL_wins_236 rfl (lv_at hl 0 rfl) ?_
                      refine g_imul X dL_wins_237 ?_
                      refine g_iconst (v := 3) X dL_wins_238 (by decide) ?_
                      refine g_iadd X dL_wins_239 ?_
                      refine g_lload X dL_wins_240 (lv_at hl 7 rfl) ?_
                      refine g_lneg X dL_wins_242 ?_
                      obtain ⟨h243, hR180⟩ := itn hR180
                      refine g_last X (wX_D hI) (v131.1, (v131.2.1, upL (upL v131.2.2 0 ((((4 : Int32) * a0) + (2 : Int32)).toNatClampNeg) (-(((σ.2.1 1 ((((4 : Int32) * a7) + (1 : Int32)).toNatClampNeg)) - (σ.2.1 1 ((((4 : Int32) * a0) + (1 : Int32)).toNatClampNeg))).toInt64))) 0 ((((4 : Int32) * a0) + (3 : Int32)).toNatClampNeg) (-(((σ.2.1 1 ((((4 : Int32) * a0) + (2 : Int32)).toNatClampNeg)) - (σ.2.1 1 ((((4 : Int32) * a7) + (2 : Int32)).toNatClampNeg))).toInt64)))) 110 (j := (((4 : Int32) * a0) + (3 : Int32)).toNatClampNeg) (xa_f) (by first | rfl | decide) set_xf (inb_in h243) dL_wins_243 ?_
                      have e180 := some_inj hR180
                      subst e180
                      exact J180 ls (lv_sub hl [0, 1, 2, 3, 4, 5, 6] rfl)
                    · have hR180 := ite_f hR180 hc193
                      refine g_lload X dL_wins_196 (lv_at hl 8 rfl) ?_
                      refine g_aload X dL_wins_198 (lv_at hl 5 rfl) ?_
                      refine g_iconst (v := 4) X dL_wins_200 (by decide) ?_
                      refine g_iload_n X dL_wins_201 rfl (lv_at hl 0 rfl) ?_
                      refine g_imul X dL_wins_202 ?_
                      refine g_iconst (v := 3) X dL_wins_203 (by decide) ?_
                      refine g_iadd X dL_wins_204 ?_
                      obtain ⟨h205, hR180⟩ := itn hR180
                      refine g_lald X 110 (j := (((4 : Int32) * a0) + (3 : Int32)).toNatClampNeg) (xa_f) (by first | rfl | decide) (inb_in h205) dL_wins_205 ?_
                      refine g_lmul X dL_wins_206 ?_
                      refine g_aload X dL_wins_207 (lv_at hl 5 rfl) ?_
                      refine g_iconst (v := 4) X dL_wins_209 (by decide) ?_
                      refine g_iload_n X dL_wins_210 rfl (lv_at hl 0 rfl) ?_
                      refine g_imul X dL_wins_211 ?_
                      refine g_iconst (v := 2) X dL_wins_212 (by decide) ?_
                      refine g_iadd X dL_wins_213 ?_
                      obtain ⟨h214, hR180⟩ := itn hR180
                      refine g_lald X 110 (j := (((4 : Int32) * a0) + (2 : Int32)).toNatClampNeg) (xa_f) (by first | rfl | decide) (inb_in h214) dL_wins_214 ?_
                      refine g_lload X dL_wins_215 (lv_at hl 7 rfl) ?_
                      refine g_lmul X dL_wins_217 ?_
                      refine g_lcmp X dL_wins_218 ?_
                      refine g_if_le (tgt := 244) X dL_wins_219 (by decide) (fun hc219 => ?_) (fun hc219 => ?_)
                      · have hR180 := ite_t hR180 hc219
                        have e180 := some_inj hR180
                        subst e180
                        exact J180 ls (lv_sub hl [0, 1, 2, 3, 4, 5, 6] rfl)
                      · have hR180 := ite_f hR180 hc219
                        refine g_aload X dL_wins_222 (lv_at hl 5 rfl) ?_
                        refine g_iconst (v := 4) X dL_wins_224 (by decide) ?_
                        refine g_iload_n X dL_wins_225 rfl (lv_at hl 0 rfl) ?_
                        refine g_imul X dL_wins_226 ?_
                        refine g_iconst (v := 2) X dL_wins_227 (by decide) ?_
                        refine g_iadd X dL_wins_228 ?_
                        refine g_lload X dL_wins_229 (lv_at hl 8 rfl) ?_
                        refine g_lneg X dL_wins_231 ?_
                        obtain ⟨h232, hR180⟩ := itn hR180
                        refine g_last X (wX_D hI) (v131.1, (v131.2.1, upL v131.2.2 0 ((((4 : Int32) * a0) + (2 : Int32)).toNatClampNeg) (-(((σ.2.1 1 ((((4 : Int32) * a7) + (1 : Int32)).toNatClampNeg)) - (σ.2.1 1 ((((4 : Int32) * a0) + (1 : Int32)).toNatClampNeg))).toInt64)))) 110 (j := (((4 : Int32) * a0) + (2 : Int32)).toNatClampNeg) (xa_f) (by first | rfl | decide) set_xf (inb_in h232) dL_wins_232 ?_
                        refine g_aload X dL_wins_233 (lv_at hl 5 rfl) ?_
                        refine g_iconst (v := 4) X dL_wins_235 (by decide) ?_
                        refine g_iload_n X dL_wins_236 rfl (lv_at hl 0 rfl) ?_
                        refine g_imul X dL_wins_237 ?_
                        refine g_iconst (v := 3) X dL_wins_238 (by decide) ?_
                        refine g_iadd X dL_wins_239 ?_
                        refine g_lload X dL_wins_240 (lv_at hl 7 rfl) ?_
                        refine g_lneg X dL_wins_242 ?_
                        obtain ⟨h243, hR180⟩ := itn hR180
                        refine g_last X (wX_D hI) (v131.1, (v131.2.1, upL (upL v131.2.2 0 ((((4 : Int32) * a0) + (2 : Int32)).toNatClampNeg) (-(((σ.2.1 1 ((((4 : Int32) * a7) + (1 : Int32)).toNatClampNeg)) - (σ.2.1 1 ((((4 : Int32) * a0) + (1 : Int32)).toNatClampNeg))).toInt64))) 0 ((((4 : Int32) * a0) + (3 : Int32)).toNatClampNeg) (-(((σ.2.1 1 ((((4 : Int32) * a0) + (2 : Int32)).toNatClampNeg)) - (σ.2.1 1 ((((4 : Int32) * a7) + (2 : Int32)).toNatClampNeg))).toInt64)))) 110 (j := (((4 : Int32) * a0) + (3 : Int32)).toNatClampNeg) (xa_f) (by first | rfl | decide) set_xf (inb_in h243) dL_wins_243 ?_
                        have e180 := some_inj hR180
                        subst e180
                        exact J180 ls (lv_sub hl [0, 1, 2, 3, 4, 5, 6] rfl)
              · refine g_if_le (tgt := 176) X dL_wins_131 (by decide) (fun hc131 => ?_) (fun hc131 => ?_)
                · have hR131 := ite_t hR131 hc131
                  have e131 := some_inj hR131
                  subst e131
                  exact J131 ls (lv_sub hl [2, 3, 4, 5, 6, 7, 8, 1, 0] rfl)
                · have hR131 := ite_f hR131 hc131
                  refine g_lload X dL_wins_134 (lv_at hl 0 rfl) ?_
                  refine g_aload X dL_wins_136 (lv_at hl 7 rfl) ?_
                  refine g_iconst (v := 4) X dL_wins_138 (by decide) ?_
                  refine g_iload_n X dL_wins_139 rfl (lv_at hl 2 rfl) ?_
                  refine g_imul X dL_wins_140 ?_
                  refine g_iconst (v := 1) X dL_wins_141 (by decide) ?_
                  refine g_iadd X dL_wins_142 ?_
                  obtain ⟨h143, hR131⟩ := itn hR131
                  refine g_lald X 110 (j := (((4 : Int32) * a0) + (1 : Int32)).toNatClampNeg) (xa_f) (by first | rfl | decide) (inb_in h143) dL_wins_143 ?_
                  refine g_lmul X dL_wins_144 ?_
                  refine g_aload X dL_wins_145 (lv_at hl 7 rfl) ?_
                  refine g_iconst (v := 4) X dL_wins_147 (by decide) ?_
                  refine g_iload_n X dL_wins_148 rfl (lv_at hl 2 rfl) ?_
                  refine g_imul X dL_wins_149 ?_
                  obtain ⟨h150, hR131⟩ := itn hR131
                  refine g_lald X 110 (j := ((4 : Int32) * a0).toNatClampNeg) (xa_f) (by first | rfl | decide) (inb_in h150) dL_wins_150 ?_
                  refine g_lload X dL_wins_151 (lv_at hl 1 rfl) ?_
                  refine g_lmul X dL_wins_153 ?_
                  refine g_lcmp X dL_wins_154 ?_
                  refine g_if_le (tgt := 176) X dL_wins_155 (by decide) (fun hc155 => ?_) (fun hc155 => ?_)
                  · have hR131 := ite_t hR131 hc155
                    have e131 := some_inj hR131
                    subst e131
                    exact J131 ls (lv_sub hl [2, 3, 4, 5, 6, 7, 8, 1, 0] rfl)
                  · have hR131 := ite_f hR131 hc155
                    refine g_aload X dL_wins_158 (lv_at hl 7 rfl) ?_
                    refine g_iconst (v := 4) X dL_wins_160 (by decide) ?_
                    refine g_iload_n X dL_wins_161 rfl (lv_at hl 2 rfl) ?_
                    refine g_imul X dL_wins_162 ?_
                    refine g_lload X dL_wins_163 (lv_at hl 0 rfl) ?_
                    obtain ⟨h165, hR131⟩ := itn hR131
                    refine g_last X (wX_D hI) (σ.1, (σ.2.1, upL σ.2.2 0 (((4 : Int32) * a0).toNatClampNeg) (((σ.2.1 1 ((((4 : Int32) * a7) + (1 : Int32)).toNatClampNeg)) - (σ.2.1 1 ((((4 : Int32) * a0) + (1 : Int32)).toNatClampNeg))).toInt64))) 110 (j := ((4 : Int32) * a0).toNatClampNeg) (xa_f) (by first | rfl | decide) set_xf (inb_in h165) dL_wins_165 ?_
                    refine g_aload X dL_wins_166 (lv_at hl 7 rfl) ?_
                    refine g_iconst (v := 4) X dL_wins_168 (by decide) ?_
                    refine g_iload_n X dL_wins_169 rfl (lv_at hl 2 rfl) ?_
                    refine g_imul X dL_wins_170 ?_
                    refine g_iconst (v := 1) X dL_wins_171 (by decide) ?_
                    refine g_iadd X dL_wins_172 ?_
                    refine g_lload X dL_wins_173 (lv_at hl 1 rfl) ?_
                    obtain ⟨h175, hR131⟩ := itn hR131
                    refine g_last X (wX_D hI) (σ.1, (σ.2.1, upL (upL σ.2.2 0 (((4 : Int32) * a0).toNatClampNeg) (((σ.2.1 1 ((((4 : Int32) * a7) + (1 : Int32)).toNatClampNeg)) - (σ.2.1 1 ((((4 : Int32) * a0) + (1 : Int32)).toNatClampNeg))).toInt64)) 0 ((((4 : Int32) * a0) + (1 : Int32)).toNatClampNeg) (((σ.2.1 1 ((((4 : Int32) * a0) + (2 : Int32)).toNatClampNeg)) - (σ.2.1 1 ((((4 : Int32) * a7) + (2 : Int32)).toNatClampNeg))).toInt64))) 110 (j := (((4 : Int32) * a0) + (1 : Int32)).toNatClampNeg) (xa_f) (by first | rfl | decide) set_xf (inb_in h175) dL_wins_175 ?_
                    have e131 := some_inj hR131
                    subst e131
                    exact J131 ls (lv_sub hl [2, 3, 4, 5, 6, 7, 8, 1, 0] rfl)
            · have hF := ite_n hF hc122
              refine g_iconst (v := 0) X dL_wins_125 (by decide) ?_
              exact g_zret X rfl (pF_mk (some_inj hF) rfl) dL_wins_126
        · have hF := ite_n hF hc58
          refine g_goto (tgt := 244) X dL_wins_61 (by decide) ?_
          refine g_iinc (v := a7 + 1) (lv' := [(7, _), (0, _), (1, _), (2, _), (3, _), (4, _), (5, _)]) X dL_wins_244 hl (k := 6) rfl rfl (by decide) rfl (fun ls hl => ?_)
          refine g_goto (tgt := 37) X dL_wins_247 (by decide) ?_
          exact ih (a7 + 1) σ hF ls (lv_sub hl [1, 2, 3, 4, 5, 6, 0] rfl)
def F_L_wins (a0 : Int32) (a1 : Int32) (a2 : Int32) (σ : LM) : Option (Int32 × LM) := if inb ((4 : Int32) * a0) 64 then (if inb (((4 : Int32) * a0) + (1 : Int32)) 64 then (if inb (((4 : Int32) * a0) + (2 : Int32)) 64 then (if inb (((4 : Int32) * a0) + (3 : Int32)) 64 then (L_L_wins_37 a0 a1 a2 FU a1 (σ.1, (σ.2.1, upL (upL (upL (upL σ.2.2 0 (((4 : Int32) * a0).toNatClampNeg) (0 : Int64)) 0 ((((4 : Int32) * a0) + (1 : Int32)).toNatClampNeg) (1 : Int64)) 0 ((((4 : Int32) * a0) + (2 : Int32)).toNatClampNeg) (1 : Int64)) 0 ((((4 : Int32) * a0) + (3 : Int32)).toNatClampNeg) (0 : Int64)))) else none) else none) else none) else none
set_option maxHeartbeats 4000000 in
set_option maxRecDepth 100000 in
theorem c_L_wins {l : Launch} {D : va_G} {ay : Nat → ClassId} {ad : Nat → Nat} {a0 : Int32} {a1 : Int32} {a2 : Int32} {σ : LM} {res : Int32 × LM} (hI : axOK ad) (hF : F_L_wins a0 a1 a2 σ = some res) : Met l yL_wins wsL_wins ({ frames := 1, cells := 0, slots := 0, locals := 24 } : Room) (va_Pc [.int a0, .int a1, .int a2, .ref (ad 108), .ref (ad 109), .ref (ad 110), .ref (ad 111)] (PP D ay (wX ay ad σ))) (va_Qi (pF res) (fun τ => PP D ay (wX ay ad τ)) (AX ad)) 0 0 (AX ad) := by
  refine g_start (wd := wX ay ad) (A := AX ad) (own := RL) (mL := 12) (rt := (some .boolean)) (by decide) rfl rfl (Nat.le_of_ble_eq_true rfl) ?_
  intro p e s m below meth c ls X hl
  have hl : lv_has ls 12 [(0, .int a0), (1, .int a1), (2, .int a2), (3, .ref (ad 108)), (4, .ref (ad 109)), (5, .ref (ad 110)), (6, .ref (ad 111))] := hl
  rw [F_L_wins] at hF
  refine g_aload X dL_wins_0 (lv_at hl 5 rfl) ?_
  refine g_iconst (v := 4) X dL_wins_2 (by decide) ?_
  refine g_iload_n X dL_wins_3 rfl (lv_at hl 0 rfl) ?_
  refine g_imul X dL_wins_4 ?_
  refine g_lconst (v := 0) X dL_wins_5 (by decide) ?_
  obtain ⟨h6, hF⟩ := itn hF
  refine g_last X (wX_D hI) (σ.1, (σ.2.1, upL σ.2.2 0 (((4 : Int32) * a0).toNatClampNeg) (0 : Int64))) 110 (j := ((4 : Int32) * a0).toNatClampNeg) (xa_f) (by first | rfl | decide) set_xf (inb_in h6) dL_wins_6 ?_
  refine g_aload X dL_wins_7 (lv_at hl 5 rfl) ?_
  refine g_iconst (v := 4) X dL_wins_9 (by decide) ?_
  refine g_iload_n X dL_wins_10 rfl (lv_at hl 0 rfl) ?_
  refine g_imul X dL_wins_11 ?_
  refine g_iconst (v := 1) X dL_wins_12 (by decide) ?_
  refine g_iadd X dL_wins_13 ?_
  refine g_lconst (v := 1) X dL_wins_14 (by decide) ?_
  obtain ⟨h15, hF⟩ := itn hF
  refine g_last X (wX_D hI) (σ.1, (σ.2.1, upL (upL σ.2.2 0 (((4 : Int32) * a0).toNatClampNeg) (0 : Int64)) 0 ((((4 : Int32) * a0) + (1 : Int32)).toNatClampNeg) (1 : Int64))) 110 (j := (((4 : Int32) * a0) + (1 : Int32)).toNatClampNeg) (xa_f) (by first | rfl | decide) set_xf (inb_in h15) dL_wins_15 ?_
  refine g_aload X dL_wins_16 (lv_at hl 5 rfl) ?_
  refine g_iconst (v := 4) X dL_wins_18 (by decide) ?_
  refine g_iload_n X dL_wins_19 rfl (lv_at hl 0 rfl) ?_
  refine g_imul X dL_wins_20 ?_
  refine g_iconst (v := 2) X dL_wins_21 (by decide) ?_
  refine g_iadd X dL_wins_22 ?_
  refine g_lconst (v := 1) X dL_wins_23 (by decide) ?_
  obtain ⟨h24, hF⟩ := itn hF
  refine g_last X (wX_D hI) (σ.1, (σ.2.1, upL (upL (upL σ.2.2 0 (((4 : Int32) * a0).toNatClampNeg) (0 : Int64)) 0 ((((4 : Int32) * a0) + (1 : Int32)).toNatClampNeg) (1 : Int64)) 0 ((((4 : Int32) * a0) + (2 : Int32)).toNatClampNeg) (1 : Int64))) 110 (j := (((4 : Int32) * a0) + (2 : Int32)).toNatClampNeg) (xa_f) (by first | rfl | decide) set_xf (inb_in h24) dL_wins_24 ?_
  refine g_aload X dL_wins_25 (lv_at hl 5 rfl) ?_
  refine g_iconst (v := 4) X dL_wins_27 (by decide) ?_
  refine g_iload_n X dL_wins_28 rfl (lv_at hl 0 rfl) ?_
  refine g_imul X dL_wins_29 ?_
  refine g_iconst (v := 3) X dL_wins_30 (by decide) ?_
  refine g_iadd X dL_wins_31 ?_
  refine g_lconst (v := 0) X dL_wins_32 (by decide) ?_
  obtain ⟨h33, hF⟩ := itn hF
  refine g_last X (wX_D hI) (σ.1, (σ.2.1, upL (upL (upL (upL σ.2.2 0 (((4 : Int32) * a0).toNatClampNeg) (0 : Int64)) 0 ((((4 : Int32) * a0) + (1 : Int32)).toNatClampNeg) (1 : Int64)) 0 ((((4 : Int32) * a0) + (2 : Int32)).toNatClampNeg) (1 : Int64)) 0 ((((4 : Int32) * a0) + (3 : Int32)).toNatClampNeg) (0 : Int64))) 110 (j := (((4 : Int32) * a0) + (3 : Int32)).toNatClampNeg) (xa_f) (by first | rfl | decide) set_xf (inb_in h33) dL_wins_33 ?_
  refine g_iload_n X dL_wins_34 rfl (lv_at hl 1 rfl) ?_
  refine g_istore (lv' := [(7, _), (0, _), (1, _), (2, _), (3, _), (4, _), (5, _), (6, _)]) X dL_wins_35 hl (by decide) rfl (fun ls hl => ?_)
  exact w_L_wins_37 X hI FU a1 (σ.1, (σ.2.1, upL (upL (upL (upL σ.2.2 0 (((4 : Int32) * a0).toNatClampNeg) (0 : Int64)) 0 ((((4 : Int32) * a0) + (1 : Int32)).toNatClampNeg) (1 : Int64)) 0 ((((4 : Int32) * a0) + (2 : Int32)).toNatClampNeg) (1 : Int64)) 0 ((((4 : Int32) * a0) + (3 : Int32)).toNatClampNeg) (0 : Int64))) hF ls (lv_sub hl [1, 2, 3, 4, 5, 6, 0] rfl)
def F_L_size (a0 : Int32) : Option Int32 := (if ¬ a0 = (1 : Int32) then (if (4 : Int32) ≤ a0 then (if (8 : Int32) ≤ a0 then some (2 : Int32) else some (4 : Int32)) else some (8 : Int32)) else some (16 : Int32))
set_option maxHeartbeats 4000000 in
set_option maxRecDepth 100000 in
theorem c_L_size {l : Launch} {D : va_G} {ay : Nat → ClassId} {ad : Nat → Nat} {a0 : Int32} {σ : LM} {res : Int32} (hI : axOK ad) (hF : F_L_size a0 = some res) : Met l yL_size wsL_size ({ frames := 0, cells := 0, slots := 0, locals := 0 } : Room) (va_Pc [.int a0] (PP D ay (wX ay ad σ))) (va_Qi (pP res σ) (fun τ => PP D ay (wX ay ad τ)) (AX ad)) 0 0 (AX ad) := by
  refine g_start (wd := wX ay ad) (A := AX ad) (own := RL) (mL := 1) (rt := (some .int)) (by decide) rfl rfl (Nat.le_of_ble_eq_true rfl) ?_
  intro p e s m below meth c ls X hl
  have hl : lv_has ls 1 [(0, .int a0)] := hl
  rw [F_L_size] at hF
  refine g_iload_n X dL_size_0 rfl (lv_at hl 0 rfl) ?_
  refine g_iconst (v := 1) X dL_size_1 (by decide) ?_
  refine g_icmp_ne (tgt := 10) X dL_size_2 (by decide) (fun hc2 => ?_) (fun hc2 => ?_)
  · have hF := ite_t hF hc2
    refine g_iload_n X dL_size_10 rfl (lv_at hl 0 rfl) ?_
    refine g_iconst (v := 4) X dL_size_11 (by decide) ?_
    refine g_icmp_ge (tgt := 20) X dL_size_12 (by decide) (fun hc12 => ?_) (fun hc12 => ?_)
    · have hF := ite_t hF hc12
      refine g_iload_n X dL_size_20 rfl (lv_at hl 0 rfl) ?_
      refine g_bipush (v := 8) X dL_size_21 (by decide) ?_
      refine g_icmp_ge (tgt := 30) X dL_size_23 (by decide) (fun hc23 => ?_) (fun hc23 => ?_)
      · have hF := ite_t hF hc23
        refine g_iconst (v := 2) X dL_size_30 (by decide) ?_
        exact g_iret X (pP_mk (some_inj hF)) dL_size_31
      · have hF := ite_f hF hc23
        refine g_iconst (v := 4) X dL_size_26 (by decide) ?_
        refine g_goto (tgt := 31) X dL_size_27 (by decide) ?_
        exact g_iret X (pP_mk (some_inj hF)) dL_size_31
    · have hF := ite_f hF hc12
      refine g_bipush (v := 8) X dL_size_15 (by decide) ?_
      refine g_goto (tgt := 31) X dL_size_17 (by decide) ?_
      exact g_iret X (pP_mk (some_inj hF)) dL_size_31
  · have hF := ite_n hF hc2
    refine g_bipush (v := 16) X dL_size_5 (by decide) ?_
    refine g_goto (tgt := 31) X dL_size_7 (by decide) ?_
    exact g_iret X (pP_mk (some_inj hF)) dL_size_31
def F_L_begin (a0 : Int32) : Option Int32 := Option.bind (F_L_size a0) (fun r2 => some ((a0 * r2) - (16 : Int32)))
set_option maxHeartbeats 4000000 in
set_option maxRecDepth 100000 in
theorem c_L_begin {l : Launch} {D : va_G} {ay : Nat → ClassId} {ad : Nat → Nat} {a0 : Int32} {σ : LM} {res : Int32} (hI : axOK ad) (hF : F_L_begin a0 = some res) : Met l yL_begin wsL_begin ({ frames := 1, cells := 0, slots := 0, locals := 20 } : Room) (va_Pc [.int a0] (PP D ay (wX ay ad σ))) (va_Qi (pP res σ) (fun τ => PP D ay (wX ay ad τ)) (AX ad)) 0 0 (AX ad) := by
  refine g_start (wd := wX ay ad) (A := AX ad) (own := RL) (mL := 1) (rt := (some .int)) (by decide) rfl rfl (Nat.le_of_ble_eq_true rfl) ?_
  intro p e s m below meth c ls X hl
  have hl : lv_has ls 1 [(0, .int a0)] := hl
  rw [F_L_begin] at hF
  refine g_iload_n X dL_begin_0 rfl (lv_at hl 0 rfl) ?_
  refine g_iload_n X dL_begin_1 rfl (lv_at hl 0 rfl) ?_
  obtain ⟨r2, hr2, hF⟩ := obind hF
  refine k_Si X (As := [.int a0]) (rest := [.int a0]) (c_L_size hI hr2) (va_cwS 1 X.ts gL_begin_L_size rfl rfl rfl (by decide +kernel) ⟨Nat.le_of_ble_eq_true rfl, Nat.le_of_ble_eq_true rfl⟩) rfl hl.1 rfl (Nat.le_of_ble_eq_true rfl) dL_begin_2 ?_
  refine g_imul X dL_begin_5 ?_
  refine g_bipush (v := 16) X dL_begin_6 (by decide) ?_
  refine g_isub X dL_begin_8 ?_
  exact g_iret X (pP_mk (some_inj hF)) dL_begin_9
def L_L_turns_33 (a0 : Int32) (a1 : Int32) : Nat → Int32 → Int32 → LM → Option (Int32 × LM)
  | 0, _, _, _ => none
  | fu + 1, a6, a7, σ => Option.bind (F_L_begin a0) (fun r36 => Option.bind (F_L_size a0) (fun r40 => (if (r36 + r40) ≤ a7 then some (a6, σ) else if inb ((4 : Int32) * a7) 64 then ((Option.bind (if (σ.2.1 1 (((4 : Int32) * a7).toNatClampNeg)) = 0 then some (a6, σ) else Option.bind (F_L_begin a0) (fun r59 => Option.bind (F_L_size a0) (fun r63 => Option.bind (F_L_wins a7 r59 r63 σ) (fun r72 => (if ¬ r72.1 = 0 then if inb ((4 : Int32) * a7) 64 then ((if ¬ (lg_cmp (r72.2.2.2 0 (((4 : Int32) * a7).toNatClampNeg)) (0 : Int64)) = 0 then if inb ((4 : Int32) * a7) 64 then (if inb (((4 : Int32) * a7) + (1 : Int32)) 64 then ((Option.bind (if 0 < (lg_cmp (r72.2.2.2 0 (((4 : Int32) * a7).toNatClampNeg)) (a1.toInt64 * (r72.2.2.2 0 ((((4 : Int32) * a7) + (1 : Int32)).toNatClampNeg)))) then some (0 : Int32) else some (1 : Int32)) (fun v125 : Int32 => (if (lg_cmp (r72.2.2.2 1 1) (0 : Int64)) < 0 then if inb ((4 : Int32) * a7) 64 then (if inb (((4 : Int32) * a7) + (1 : Int32)) 64 then (some (a6 + v125, (r72.2.1, (r72.2.2.1, upL (upL (upL r72.2.2.2 1 1 a7.toInt64) 1 2 ((upL r72.2.2.2 1 1 a7.toInt64) 0 (((4 : Int32) * a7).toNatClampNeg))) 1 3 ((upL (upL r72.2.2.2 1 1 a7.toInt64) 1 2 ((upL r72.2.2.2 1 1 a7.toInt64) 0 (((4 : Int32) * a7).toNatClampNeg))) 0 ((((4 : Int32) * a7) + (1 : Int32)).toNatClampNeg)))))) else none) else none else if inb ((4 : Int32) * a7) 64 then (if inb (((4 : Int32) * a7) + (1 : Int32)) 64 then ((if (lg_cmp ((r72.2.2.2 0 (((4 : Int32) * a7).toNatClampNeg)) * (r72.2.2.2 1 3)) ((r72.2.2.2 1 2) * (r72.2.2.2 0 ((((4 : Int32) * a7) + (1 : Int32)).toNatClampNeg)))) < 0 then if inb ((4 : Int32) * a7) 64 then (if inb (((4 : Int32) * a7) + (1 : Int32)) 64 then (some (a6 + v125, (r72.2.1, (r72.2.2.1, upL (upL (upL r72.2.2.2 1 1 a7.toInt64) 1 2 ((upL r72.2.2.2 1 1 a7.toInt64) 0 (((4 : Int32) * a7).toNatClampNeg))) 1 3 ((upL (upL r72.2.2.2 1 1 a7.toInt64) 1 2 ((upL r72.2.2.2 1 1 a7.toInt64) 0 (((4 : Int32) * a7).toNatClampNeg))) 0 ((((4 : Int32) * a7) + (1 : Int32)).toNatClampNeg)))))) else none) else none else some (a6 + v125, r72.2))) else none) else none)))) else none) else none else some (a6, (r72.2.1, (r72.2.2.1, upL r72.2.2.2 1 0 a7.toInt64))))) else none else some (a6, r72.2)))))) (fun v53 : Int32 × LM => L_L_turns_33 a0 a1 fu v53.1 (a7 + 1) v53.2))) else none)))
set_option maxHeartbeats 4000000 in
set_option maxRecDepth 100000 in
theorem w_L_turns_33 {D : va_G} {ay : Nat → ClassId} {ad : Nat → Nat} {p : Program} {l : Launch} {e : Env} {s : State} {m : MethodId} {args : Array Value} {below : List Frame} {meth : Method} {c : Code} {Q : State → Prop} {a0 : Int32} {a1 : Int32} {res : Int32 × LM} (X : CX D ay p s m args meth c cL_turns 8 RL (some .int) wsL_turns) (hI : axOK ad) (K : ∀ ls : Array Slot, lv_has ls 8 [(6, .int res.1)] → GW D (wX ay ad) (AX ad) p l e ({ frames := 2, cells := 0, slots := 0, locals := 55 } : Room) s m args below meth c Q res.2 (F0 m 215 ls [])) : ∀ (fu : Nat) (a6 : Int32) (a7 : Int32) (σ : LM), L_L_turns_33 a0 a1 fu a6 a7 σ = some res → ∀ ls : Array Slot, lv_has ls 8 [(0, .int a0), (1, .int a1), (2, .ref (ad 108)), (3, .ref (ad 109)), (4, .ref (ad 110)), (5, .ref (ad 111)), (6, .int a6), (7, .int a7)] → GW D (wX ay ad) (AX ad) p l e ({ frames := 2, cells := 0, slots := 0, locals := 55 } : Room) s m args below meth c Q σ (F0 m 33 ls []) := by
  intro fu
  induction fu with
  | zero =>
    intro a6 a7 σ hF ls hl
    rw [L_L_turns_33] at hF
    cases hF
  | succ fu ih =>
    intro a6 a7 σ hF ls hl
    rw [L_L_turns_33] at hF
    refine g_iload X dL_turns_33 (lv_at hl 7 rfl) ?_
    refine g_iload_n X dL_turns_35 rfl (lv_at hl 0 rfl) ?_
    obtain ⟨r36, hr36, hF⟩ := obind hF
    refine k_Si X (As := [.int a0]) (rest := [.int a7]) (c_L_begin hI hr36) (va_cwS 1 X.ts gL_turns_L_begin rfl rfl rfl (by decide +kernel) ⟨Nat.le_of_ble_eq_true rfl, Nat.le_of_ble_eq_true rfl⟩) rfl hl.1 rfl (Nat.le_of_ble_eq_true rfl) dL_turns_36 ?_
    refine g_iload_n X dL_turns_39 rfl (lv_at hl 0 rfl) ?_
    obtain ⟨r40, hr40, hF⟩ := obind hF
    refine k_Si X (As := [.int a0]) (rest := [.int r36, .int a7]) (c_L_size hI hr40) (va_cwS 1 X.ts gL_turns_L_size rfl rfl rfl (by decide +kernel) ⟨Nat.le_of_ble_eq_true rfl, Nat.le_of_ble_eq_true rfl⟩) rfl hl.1 rfl (Nat.le_of_ble_eq_true rfl) dL_turns_40 ?_
    refine g_iadd X dL_turns_43 ?_
    refine g_icmp_ge (tgt := 215) X dL_turns_44 (by decide) (fun hc44 => ?_) (fun hc44 => ?_)
    · have hF := ite_t hF hc44
      have e33 := some_inj hF
      subst e33
      exact K ls (lv_sub hl [6] rfl)
    · have hF := ite_f hF hc44
      refine g_aload_n X dL_turns_47 rfl (lv_at hl 3 rfl) ?_
      refine g_iconst (v := 4) X dL_turns_48 (by decide) ?_
      refine g_iload X dL_turns_49 (lv_at hl 7 rfl) ?_
      refine g_imul X dL_turns_51 ?_
      obtain ⟨h52, hF⟩ := itn hF
      refine g_iald X 109 (j := ((4 : Int32) * a7).toNatClampNeg) (xa_m) (by first | rfl | decide) (inb_in h52) dL_turns_52 ?_
      obtain ⟨v53, hR53, hF⟩ := obind hF
      refine g_cut (nM := 8) [(0, .int a0), (1, .int a1), (2, .ref (ad 108)), (3, .ref (ad 109)), (4, .ref (ad 110)), (5, .ref (ad 111)), (6, .int v53.1), (7, .int a7)] (v53.2) 209 [] (fun ls hl => ?_) (fun J53 => ?_)
      · refine g_iinc (v := a7 + 1) (lv' := [(7, _), (0, _), (1, _), (2, _), (3, _), (4, _), (5, _), (6, _)]) X dL_turns_209 hl (k := 7) rfl rfl (by decide) rfl (fun ls hl => ?_)
        refine g_goto (tgt := 33) X dL_turns_212 (by decide) ?_
        exact ih v53.1 (a7 + 1) v53.2 hF ls (lv_sub hl [1, 2, 3, 4, 5, 6, 7, 0] rfl)
      · refine g_if_eq (tgt := 209) X dL_turns_53 (by decide) (fun hc53 => ?_) (fun hc53 => ?_)
        · have hR53 := ite_t hR53 hc53
          have e53 := some_inj hR53
          subst e53
          exact J53 ls (lv_sub hl [0, 1, 2, 3, 4, 5, 6, 7] rfl)
        · have hR53 := ite_f hR53 hc53
          refine g_iload X dL_turns_56 (lv_at hl 7 rfl) ?_
          refine g_iload_n X dL_turns_58 rfl (lv_at hl 0 rfl) ?_
          obtain ⟨r59, hr59, hR53⟩ := obind hR53
          refine k_Si X (As := [.int a0]) (rest := [.int a7]) (c_L_begin hI hr59) (va_cwS 1 X.ts gL_turns_L_begin rfl rfl rfl (by decide +kernel) ⟨Nat.le_of_ble_eq_true rfl, Nat.le_of_ble_eq_true rfl⟩) rfl hl.1 rfl (Nat.le_of_ble_eq_true rfl) dL_turns_59 ?_
          refine g_iload_n X dL_turns_62 rfl (lv_at hl 0 rfl) ?_
          obtain ⟨r63, hr63, hR53⟩ := obind hR53
          refine k_Si X (As := [.int a0]) (rest := [.int r59, .int a7]) (c_L_size hI hr63) (va_cwS 1 X.ts gL_turns_L_size rfl rfl rfl (by decide +kernel) ⟨Nat.le_of_ble_eq_true rfl, Nat.le_of_ble_eq_true rfl⟩) rfl hl.1 rfl (Nat.le_of_ble_eq_true rfl) dL_turns_63 ?_
          refine g_aload_n X dL_turns_66 rfl (lv_at hl 2 rfl) ?_
          refine g_aload_n X dL_turns_67 rfl (lv_at hl 3 rfl) ?_
          refine g_aload X dL_turns_68 (lv_at hl 4 rfl) ?_
          refine g_aload X dL_turns_70 (lv_at hl 5 rfl) ?_
          obtain ⟨r72, hr72, hR53⟩ := obind hR53
          refine k_Sze X (As := [.int a7, .int r59, .int r63, .ref (ad 108), .ref (ad 109), .ref (ad 110), .ref (ad 111)]) (rest := []) (c_L_wins hI hr72) (va_cwS 7 X.ts gL_turns_L_wins rfl rfl rfl (by decide +kernel) ⟨Nat.le_of_ble_eq_true rfl, Nat.le_of_ble_eq_true rfl⟩) rfl hl.1 rfl (Nat.le_of_ble_eq_true rfl) dL_turns_72 (fun hz72 => ?_)
          refine g_if_ne (tgt := 81) X dL_turns_75 (by decide) (fun hc75 => ?_) (fun hc75 => ?_)
          · have hR53 := ite_t hR53 hc75
            refine g_aload X dL_turns_81 (lv_at hl 4 rfl) ?_
            refine g_iconst (v := 4) X dL_turns_83 (by decide) ?_
            refine g_iload X dL_turns_84 (lv_at hl 7 rfl) ?_
            refine g_imul X dL_turns_86 ?_
            obtain ⟨h87, hR53⟩ := itn hR53
            refine g_lald X 110 (j := ((4 : Int32) * a7).toNatClampNeg) (xa_f) (by first | rfl | decide) (inb_in h87) dL_turns_87 ?_
            refine g_lconst (v := 0) X dL_turns_88 (by decide) ?_
            refine g_lcmp X dL_turns_89 ?_
            refine g_if_ne (tgt := 103) X dL_turns_90 (by decide) (fun hc90 => ?_) (fun hc90 => ?_)
            · have hR53 := ite_t hR53 hc90
              refine g_iload X dL_turns_103 (lv_at hl 6 rfl) ?_
              refine g_aload X dL_turns_105 (lv_at hl 4 rfl) ?_
              refine g_iconst (v := 4) X dL_turns_107 (by decide) ?_
              refine g_iload X dL_turns_108 (lv_at hl 7 rfl) ?_
              refine g_imul X dL_turns_110 ?_
              obtain ⟨h111, hR53⟩ := itn hR53
              refine g_lald X 110 (j := ((4 : Int32) * a7).toNatClampNeg) (xa_f) (by first | rfl | decide) (inb_in h111) dL_turns_111 ?_
              refine g_iload_n X dL_turns_112 rfl (lv_at hl 1 rfl) ?_
              refine g_i2l X dL_turns_113 ?_
              refine g_aload X dL_turns_114 (lv_at hl 4 rfl) ?_
              refine g_iconst (v := 4) X dL_turns_116 (by decide) ?_
              refine g_iload X dL_turns_117 (lv_at hl 7 rfl) ?_
              refine g_imul X dL_turns_119 ?_
              refine g_iconst (v := 1) X dL_turns_120 (by decide) ?_
              refine g_iadd X dL_turns_121 ?_
              obtain ⟨h122, hR53⟩ := itn hR53
              refine g_lald X 110 (j := (((4 : Int32) * a7) + (1 : Int32)).toNatClampNeg) (xa_f) (by first | rfl | decide) (inb_in h122) dL_turns_122 ?_
              refine g_lmul X dL_turns_123 ?_
              refine g_lcmp X dL_turns_124 ?_
              obtain ⟨v125, hR125, hR53⟩ := obind hR53
              refine g_cut (nM := 8) [(0, .int a0), (1, .int a1), (2, .ref (ad 108)), (3, .ref (ad 109)), (4, .ref (ad 110)), (5, .ref (ad 111)), (7, .int a7)] (r72.2) 133 [.int v125, .int a6] (fun ls hl => ?_) (fun J125 => ?_)
              · refine g_iadd X dL_turns_133 ?_
                refine g_istore (lv' := [(6, _), (0, _), (1, _), (2, _), (3, _), (4, _), (5, _), (7, _)]) X dL_turns_134 hl (by decide) rfl (fun ls hl => ?_)
                refine g_aload X dL_turns_136 (lv_at hl 6 rfl) ?_
                refine g_iconst (v := 1) X dL_turns_138 (by decide) ?_
                refine g_lald X 111 (j := 1) (xa_g) (by first | rfl | decide) (inb_in (by decide)) dL_turns_139 ?_
                refine g_lconst (v := 0) X dL_turns_140 (by decide) ?_
                refine g_lcmp X dL_turns_141 ?_
                refine g_if_lt (tgt := 178) X dL_turns_142 (by decide) (fun hc142 => ?_) (fun hc142 => ?_)
                · have hR53 := ite_t hR53 hc142
                  refine g_aload X dL_turns_178 (lv_at hl 6 rfl) ?_
                  refine g_iconst (v := 1) X dL_turns_180 (by decide) ?_
                  refine g_iload X dL_turns_181 (lv_at hl 7 rfl) ?_
                  refine g_i2l X dL_turns_183 ?_
                  refine g_last X (wX_D hI) (r72.2.1, (r72.2.2.1, upL r72.2.2.2 1 1 a7.toInt64)) 111 (j := 1) (xa_g) (by first | rfl | decide) set_xg (inb_in (by decide)) dL_turns_184 ?_
                  refine g_aload X dL_turns_185 (lv_at hl 6 rfl) ?_
                  refine g_iconst (v := 2) X dL_turns_187 (by decide) ?_
                  refine g_aload X dL_turns_188 (lv_at hl 5 rfl) ?_
                  refine g_iconst (v := 4) X dL_turns_190 (by decide) ?_
                  refine g_iload X dL_turns_191 (lv_at hl 7 rfl) ?_
                  refine g_imul X dL_turns_193 ?_
                  obtain ⟨h194, hR53⟩ := itn hR53
                  refine g_lald X 110 (j := ((4 : Int32) * a7).toNatClampNeg) (xa_f) (by first | rfl | decide) (inb_in h194) dL_turns_194 ?_
                  refine g_last X (wX_D hI) (r72.2.1, (r72.2.2.1, upL (upL r72.2.2.2 1 1 a7.toInt64) 1 2 ((upL r72.2.2.2 1 1 a7.toInt64) 0 (((4 : Int32) * a7).toNatClampNeg)))) 111 (j := 2) (xa_g) (by first | rfl | decide) set_xg (inb_in (by decide)) dL_turns_195 ?_
                  refine g_aload X dL_turns_196 (lv_at hl 6 rfl) ?_
                  refine g_iconst (v := 3) X dL_turns_198 (by decide) ?_
                  refine g_aload X dL_turns_199 (lv_at hl 5 rfl) ?_
                  refine g_iconst (v := 4) X dL_turns_201 (by decide) ?_
                  refine g_iload X dL_turns_202 (lv_at hl 7 rfl) ?_
                  refine g_imul X dL_turns_204 ?_
                  refine g_iconst (v := 1) X dL_turns_205 (by decide) ?_
                  refine g_iadd X dL_turns_206 ?_
                  obtain ⟨h207, hR53⟩ := itn hR53
                  refine g_lald X 110 (j := (((4 : Int32) * a7) + (1 : Int32)).toNatClampNeg) (xa_f) (by first | rfl | decide) (inb_in h207) dL_turns_207 ?_
                  refine g_last X (wX_D hI) (r72.2.1, (r72.2.2.1, upL (upL (upL r72.2.2.2 1 1 a7.toInt64) 1 2 ((upL r72.2.2.2 1 1 a7.toInt64) 0 (((4 : Int32) * a7).toNatClampNeg))) 1 3 ((upL (upL r72.2.2.2 1 1 a7.toInt64) 1 2 ((upL r72.2.2.2 1 1 a7.toInt64) 0 (((4 : Int32) * a7).toNatClampNeg))) 0 ((((4 : Int32) * a7) + (1 : Int32)).toNatClampNeg)))) 111 (j := 3) (xa_g) (by first | rfl | decide) set_xg (inb_in (by decide)) dL_turns_208 ?_
                  have e53 := some_inj hR53
                  subst e53
                  exact J53 ls (lv_sub hl [1, 2, 3, 4, 5, 6, 0, 7] rfl)
                · have hR53 := ite_f hR53 hc142
                  refine g_aload X dL_turns_145 (lv_at hl 5 rfl) ?_
                  refine g_iconst (v := 4) X dL_turns_147 (by decide) ?_
                  refine g_iload X dL_turns_148 (lv_at hl 7 rfl) ?_
                  refine g_imul X dL_turns_150 ?_
                  obtain ⟨h151, hR53⟩ := itn hR53
                  refine g_lald X 110 (j := ((4 : Int32) * a7).toNatClampNeg) (xa_f) (by first | rfl | decide) (inb_in h151) dL_turns_151 ?_
                  refine g_aload X dL_turns_152 (lv_at hl 6 rfl) ?_
                  refine g_iconst (v := 3) X dL_turns_154 (by decide) ?_
                  refine g_lald X 111 (j := 3) (xa_g) (by first | rfl | decide) (inb_in (by decide)) dL_turns_155 ?_
                  refine g_lmul X dL_turns_156 ?_
                  refine g_aload X dL_turns_157 (lv_at hl 6 rfl) ?_
                  refine g_iconst (v := 2) X dL_turns_159 (by decide) ?_
                  refine g_lald X 111 (j := 2) (xa_g) (by first | rfl | decide) (inb_in (by decide)) dL_turns_160 ?_
                  refine g_aload X dL_turns_161 (lv_at hl 5 rfl) ?_
                  refine g_iconst (v := 4) X dL_turns_163 (by decide) ?_
                  refine g_iload X dL_turns_164 (lv_at hl 7 rfl) ?_
                  refine g_imul X dL_turns_166 ?_
                  refine g_iconst (v := 1) X dL_turns_167 (by decide) ?_
                  refine g_iadd X dL_turns_168 ?_
                  obtain ⟨h169, hR53⟩ := itn hR53
                  refine g_lald X 110 (j := (((4 : Int32) * a7) + (1 : Int32)).toNatClampNeg) (xa_f) (by first | rfl | decide) (inb_in h169) dL_turns_169 ?_
                  refine g_lmul X dL_turns_170 ?_
                  refine g_lcmp X dL_turns_171 ?_
                  refine g_if_lt (tgt := 178) X dL_turns_172 (by decide) (fun hc172 => ?_) (fun hc172 => ?_)
                  · have hR53 := ite_t hR53 hc172
                    refine g_aload X dL_turns_178 (lv_at hl 6 rfl) ?_
                    refine g_iconst (v := 1) X dL_turns_180 (by decide) ?_
                    refine g_iload X dL_turns_181 (lv_at hl 7 rfl) ?_
                    refine g_i2l X dL_turns_183 ?_
                    refine g_last X (wX_D hI) (r72.2.1, (r72.2.2.1, upL r72.2.2.2 1 1 a7.toInt64)) 111 (j := 1) (xa_g) (by first | rfl | decide) set_xg (inb_in (by decide)) dL_turns_184 ?_
                    refine g_aload X dL_turns_185 (lv_at hl 6 rfl) ?_
                    refine g_iconst (v := 2) X dL_turns_187 (by decide) ?_
                    refine g_aload X dL_turns_188 (lv_at hl 5 rfl) ?_
                    refine g_iconst (v := 4) X dL_turns_190 (by decide) ?_
                    refine g_iload X dL_turns_191 (lv_at hl 7 rfl) ?_
                    refine g_imul X dL_turns_193 ?_
                    obtain ⟨h194, hR53⟩ := itn hR53
                    refine g_lald X 110 (j := ((4 : Int32) * a7).toNatClampNeg) (xa_f) (by first | rfl | decide) (inb_in h194) dL_turns_194 ?_
                    refine g_last X (wX_D hI) (r72.2.1, (r72.2.2.1, upL (upL r72.2.2.2 1 1 a7.toInt64) 1 2 ((upL r72.2.2.2 1 1 a7.toInt64) 0 (((4 : Int32) * a7).toNatClampNeg)))) 111 (j := 2) (xa_g) (by first | rfl | decide) set_xg (inb_in (by decide)) dL_turns_195 ?_
                    refine g_aload X dL_turns_196 (lv_at hl 6 rfl) ?_
                    refine g_iconst (v := 3) X dL_turns_198 (by decide) ?_
                    refine g_aload X dL_turns_199 (lv_at hl 5 rfl) ?_
                    refine g_iconst (v := 4) X dL_turns_201 (by decide) ?_
                    refine g_iload X dL_turns_202 (lv_at hl 7 rfl) ?_
                    refine g_imul X dL_turns_204 ?_
                    refine g_iconst (v := 1) X dL_turns_205 (by decide) ?_
                    refine g_iadd X dL_turns_206 ?_
                    obtain ⟨h207, hR53⟩ := itn hR53
                    refine g_lald X 110 (j := (((4 : Int32) * a7) + (1 : Int32)).toNatClampNeg) (xa_f) (by first | rfl | decide) (inb_in h207) dL_turns_207 ?_
                    refine g_last X (wX_D hI) (r72.2.1, (r72.2.2.1, upL (upL (upL r72.2.2.2 1 1 a7.toInt64) 1 2 ((upL r72.2.2.2 1 1 a7.toInt64) 0 (((4 : Int32) * a7).toNatClampNeg))) 1 3 ((upL (upL r72.2.2.2 1 1 a7.toInt64) 1 2 ((upL r72.2.2.2 1 1 a7.toInt64) 0 (((4 : Int32) * a7).toNatClampNeg))) 0 ((((4 : Int32) * a7) + (1 : Int32)).toNatClampNeg)))) 111 (j := 3) (xa_g) (by first | rfl | decide) set_xg (inb_in (by decide)) dL_turns_208 ?_
                    have e53 := some_inj hR53
                    subst e53
                    exact J53 ls (lv_sub hl [1, 2, 3, 4, 5, 6, 0, 7] rfl)
                  · have hR53 := ite_f hR53 hc172
                    refine g_goto (tgt := 209) X dL_turns_175 (by decide) ?_
                    have e53 := some_inj hR53
                    subst e53
                    exact J53 ls (lv_sub hl [1, 2, 3, 4, 5, 6, 0, 7] rfl)
              · refine g_if_gt (tgt := 132) X dL_turns_125 (by decide) (fun hc125 => ?_) (fun hc125 => ?_)
                · have hR125 := ite_t hR125 hc125
                  refine g_iconst (v := 0) X dL_turns_132 (by decide) ?_
                  have e125 := some_inj hR125
                  subst e125
                  exact J125 ls (lv_sub hl [0, 1, 2, 3, 4, 5, 7] rfl)
                · have hR125 := ite_f hR125 hc125
                  refine g_iconst (v := 1) X dL_turns_128 (by decide) ?_
                  refine g_goto (tgt := 133) X dL_turns_129 (by decide) ?_
                  have e125 := some_inj hR125
                  subst e125
                  exact J125 ls (lv_sub hl [0, 1, 2, 3, 4, 5, 7] rfl)
            · have hR53 := ite_n hR53 hc90
              refine g_aload X dL_turns_93 (lv_at hl 5 rfl) ?_
              refine g_iconst (v := 0) X dL_turns_95 (by decide) ?_
              refine g_iload X dL_turns_96 (lv_at hl 7 rfl) ?_
              refine g_i2l X dL_turns_98 ?_
              refine g_last X (wX_D hI) (r72.2.1, (r72.2.2.1, upL r72.2.2.2 1 0 a7.toInt64)) 111 (j := 0) (xa_g) (by first | rfl | decide) set_xg (inb_in (by decide)) dL_turns_99 ?_
              refine g_goto (tgt := 209) X dL_turns_100 (by decide) ?_
              have e53 := some_inj hR53
              subst e53
              exact J53 ls (lv_sub hl [0, 1, 2, 3, 4, 5, 6, 7] rfl)
          · have hR53 := ite_n hR53 hc75
            refine g_goto (tgt := 209) X dL_turns_78 (by decide) ?_
            have e53 := some_inj hR53
            subst e53
            exact J53 ls (lv_sub hl [0, 1, 2, 3, 4, 5, 6, 7] rfl)
def F_L_turns (a0 : Int32) (a1 : Int32) (σ : LM) : Option (Int32 × LM) := Option.bind (F_L_begin a0) (fun r28 => Option.bind (L_L_turns_33 a0 a1 FU (0 : Int32) r28 (σ.1, (σ.2.1, upL (upL (upL (upL σ.2.2 1 0 (-1 : Int64)) 1 1 (-1 : Int64)) 1 2 (0 : Int64)) 1 3 (0 : Int64)))) (fun v33 : Int32 × LM => some (v33.1, v33.2)))
set_option maxHeartbeats 4000000 in
set_option maxRecDepth 100000 in
theorem c_L_turns {l : Launch} {D : va_G} {ay : Nat → ClassId} {ad : Nat → Nat} {a0 : Int32} {a1 : Int32} {σ : LM} {res : Int32 × LM} (hI : axOK ad) (hF : F_L_turns a0 a1 σ = some res) : Met l yL_turns wsL_turns ({ frames := 2, cells := 0, slots := 0, locals := 55 } : Room) (va_Pc [.int a0, .int a1, .ref (ad 108), .ref (ad 109), .ref (ad 110), .ref (ad 111)] (PP D ay (wX ay ad σ))) (va_Qi (pE res) (fun τ => PP D ay (wX ay ad τ)) (AX ad)) 0 0 (AX ad) := by
  refine g_start (wd := wX ay ad) (A := AX ad) (own := RL) (mL := 8) (rt := (some .int)) (by decide) rfl rfl (Nat.le_of_ble_eq_true rfl) ?_
  intro p e s m below meth c ls X hl
  have hl : lv_has ls 8 [(0, .int a0), (1, .int a1), (2, .ref (ad 108)), (3, .ref (ad 109)), (4, .ref (ad 110)), (5, .ref (ad 111))] := hl
  rw [F_L_turns] at hF
  refine g_iconst (v := 0) X dL_turns_0 (by decide) ?_
  refine g_istore (lv' := [(6, _), (0, _), (1, _), (2, _), (3, _), (4, _), (5, _)]) X dL_turns_1 hl (by decide) rfl (fun ls hl => ?_)
  refine g_aload X dL_turns_3 (lv_at hl 6 rfl) ?_
  refine g_iconst (v := 0) X dL_turns_5 (by decide) ?_
  refine g_ldc2 X dL_turns_6 (X.ts (.constantLong RL 18 (-1)) (by decide +kernel)) ?_
  refine g_last X (wX_D hI) (σ.1, (σ.2.1, upL σ.2.2 1 0 (-1 : Int64))) 111 (j := 0) (xa_g) (by first | rfl | decide) set_xg (inb_in (by decide)) dL_turns_9 ?_
  refine g_aload X dL_turns_10 (lv_at hl 6 rfl) ?_
  refine g_iconst (v := 1) X dL_turns_12 (by decide) ?_
  refine g_ldc2 X dL_turns_13 (X.ts (.constantLong RL 18 (-1)) (by decide +kernel)) ?_
  refine g_last X (wX_D hI) (σ.1, (σ.2.1, upL (upL σ.2.2 1 0 (-1 : Int64)) 1 1 (-1 : Int64))) 111 (j := 1) (xa_g) (by first | rfl | decide) set_xg (inb_in (by decide)) dL_turns_16 ?_
  refine g_aload X dL_turns_17 (lv_at hl 6 rfl) ?_
  refine g_iconst (v := 2) X dL_turns_19 (by decide) ?_
  refine g_lconst (v := 0) X dL_turns_20 (by decide) ?_
  refine g_last X (wX_D hI) (σ.1, (σ.2.1, upL (upL (upL σ.2.2 1 0 (-1 : Int64)) 1 1 (-1 : Int64)) 1 2 (0 : Int64))) 111 (j := 2) (xa_g) (by first | rfl | decide) set_xg (inb_in (by decide)) dL_turns_21 ?_
  refine g_aload X dL_turns_22 (lv_at hl 6 rfl) ?_
  refine g_iconst (v := 3) X dL_turns_24 (by decide) ?_
  refine g_lconst (v := 0) X dL_turns_25 (by decide) ?_
  refine g_last X (wX_D hI) (σ.1, (σ.2.1, upL (upL (upL (upL σ.2.2 1 0 (-1 : Int64)) 1 1 (-1 : Int64)) 1 2 (0 : Int64)) 1 3 (0 : Int64))) 111 (j := 3) (xa_g) (by first | rfl | decide) set_xg (inb_in (by decide)) dL_turns_26 ?_
  refine g_iload_n X dL_turns_27 rfl (lv_at hl 1 rfl) ?_
  obtain ⟨r28, hr28, hF⟩ := obind hF
  refine k_Si X (As := [.int a0]) (rest := []) (c_L_begin hI hr28) (va_cwS 1 X.ts gL_turns_L_begin rfl rfl rfl (by decide +kernel) ⟨Nat.le_of_ble_eq_true rfl, Nat.le_of_ble_eq_true rfl⟩) rfl hl.1 rfl (Nat.le_of_ble_eq_true rfl) dL_turns_28 ?_
  refine g_istore (lv' := [(7, _), (6, _), (0, _), (1, _), (2, _), (3, _), (4, _), (5, _)]) X dL_turns_31 hl (by decide) rfl (fun ls hl => ?_)
  obtain ⟨v33, hL33, hF⟩ := obind hF
  refine w_L_turns_33 X hI (fun ls hl => ?_) FU (0 : Int32) r28 (σ.1, (σ.2.1, upL (upL (upL (upL σ.2.2 1 0 (-1 : Int64)) 1 1 (-1 : Int64)) 1 2 (0 : Int64)) 1 3 (0 : Int64))) hL33 ls (lv_sub hl [2, 3, 4, 5, 6, 7, 1, 0] rfl)
  refine g_iload X dL_turns_215 (lv_at hl 0 rfl) ?_
  exact g_iret X (pE_mk (some_inj hF)) dL_turns_217
def L_L_same_60 (σ : LM) : Nat → Int32 → Int32 → Option Int32
  | 0, _, _ => none
  | fu + 1, a7, a8 => (if a8 = 0 then some a7 else if ¬ a8 = 0 then (L_L_same_60 σ fu a8 (a7 - a7 / a8 * a8)) else none)
set_option maxHeartbeats 4000000 in
set_option maxRecDepth 100000 in
theorem w_L_same_60 {D : va_G} {ay : Nat → ClassId} {ad : Nat → Nat} {p : Program} {l : Launch} {e : Env} {s : State} {m : MethodId} {args : Array Value} {below : List Frame} {meth : Method} {c : Code} {Q : State → Prop} {σ : LM} {res : Int32} (X : CX D ay p s m args meth c cL_same 10 RL (some .boolean) wsL_same) (hI : axOK ad) (K : ∀ ls : Array Slot, lv_has ls 10 [(7, .int res)] → GW D (wX ay ad) (AX ad) p l e ({ frames := 0, cells := 0, slots := 0, locals := 0 } : Room) s m args below meth c Q σ (F0 m 83 ls [])) : ∀ (fu : Nat) (a7 : Int32) (a8 : Int32), L_L_same_60 σ fu a7 a8 = some res → ∀ ls : Array Slot, lv_has ls 10 [(7, .int a7), (8, .int a8)] → GW D (wX ay ad) (AX ad) p l e ({ frames := 0, cells := 0, slots := 0, locals := 0 } : Room) s m args below meth c Q σ (F0 m 60 ls []) := by
  intro fu
  induction fu with
  | zero =>
    intro a7 a8 hF ls hl
    rw [L_L_same_60] at hF
    cases hF
  | succ fu ih =>
    intro a7 a8 hF ls hl
    rw [L_L_same_60] at hF
    refine g_iload X dL_same_60 (lv_at hl 1 rfl) ?_
    refine g_if_eq (tgt := 83) X dL_same_62 (by decide) (fun hc62 => ?_) (fun hc62 => ?_)
    · have hF := ite_t hF hc62
      have e60 := some_inj hF
      subst e60
      exact K ls (lv_sub hl [0] rfl)
    · have hF := ite_f hF hc62
      refine g_iload X dL_same_65 (lv_at hl 0 rfl) ?_
      refine g_iload X dL_same_67 (lv_at hl 1 rfl) ?_
      obtain ⟨h69, hF⟩ := itn hF
      refine g_irem X dL_same_69 h69 ?_
      refine g_istore (lv' := [(9, _), (7, _), (8, _)]) X dL_same_70 hl (by decide) rfl (fun ls hl => ?_)
      refine g_iload X dL_same_72 (lv_at hl 2 rfl) ?_
      refine g_istore (lv' := [(7, _), (9, _), (8, _)]) X dL_same_74 hl (by decide) rfl (fun ls hl => ?_)
      refine g_iload X dL_same_76 (lv_at hl 1 rfl) ?_
      refine g_istore (lv' := [(8, _), (7, _), (9, _)]) X dL_same_78 hl (by decide) rfl (fun ls hl => ?_)
      refine g_goto (tgt := 60) X dL_same_80 (by decide) ?_
      exact ih a8 (a7 - a7 / a8 * a8) hF ls (lv_sub hl [1, 0] rfl)
def F_L_same (a0 : Int64) (a2 : Int64) (a4 : Int32) (a5 : Int32) (σ : LM) : Option Int32 := (if ¬ (lg_cmp a2 (0 : Int64)) = 0 then (if a5 < (1 : Int32) then some (0 : Int32) else (if (lg_cmp (((((σ.2.1 0 0).toInt64) * a2) + a0) * a5.toInt64) (a4.toInt64 * a2)) = 0 then Option.bind (L_L_same_60 σ FU a4 a5) (fun v60 : Int32 => (if ¬ v60 = (1 : Int32) then some (0 : Int32) else some (1 : Int32))) else some (0 : Int32))) else (if ¬ a4 = 0 then some (0 : Int32) else (if ¬ a5 = 0 then some (0 : Int32) else some (1 : Int32))))
set_option maxHeartbeats 4000000 in
set_option maxRecDepth 100000 in
theorem c_L_same {l : Launch} {D : va_G} {ay : Nat → ClassId} {ad : Nat → Nat} {a0 : Int64} {a2 : Int64} {a4 : Int32} {a5 : Int32} {σ : LM} {res : Int32} (hI : axOK ad) (hF : F_L_same a0 a2 a4 a5 σ = some res) : Met l yL_same wsL_same ({ frames := 0, cells := 0, slots := 0, locals := 0 } : Room) (va_Pc [.long a0, .long a2, .int a4, .int a5, .ref (ad 108)] (PP D ay (wX ay ad σ))) (va_Qi (pZ res σ) (fun τ => PP D ay (wX ay ad τ)) (AX ad)) 0 0 (AX ad) := by
  refine g_start (wd := wX ay ad) (A := AX ad) (own := RL) (mL := 10) (rt := (some .boolean)) (by decide) rfl rfl (Nat.le_of_ble_eq_true rfl) ?_
  intro p e s m below meth c ls X hl
  have hl : lv_has ls 10 [(0, .long a0), (2, .long a2), (4, .int a4), (5, .int a5), (6, .ref (ad 108))] := hl
  rw [F_L_same] at hF
  refine g_lload_n X dL_same_0 rfl (lv_at hl 1 rfl) ?_
  refine g_lconst (v := 0) X dL_same_1 (by decide) ?_
  refine g_lcmp X dL_same_2 ?_
  refine g_if_ne (tgt := 22) X dL_same_3 (by decide) (fun hc3 => ?_) (fun hc3 => ?_)
  · have hF := ite_t hF hc3
    refine g_iload X dL_same_22 (lv_at hl 3 rfl) ?_
    refine g_iconst (v := 1) X dL_same_24 (by decide) ?_
    refine g_icmp_lt (tgt := 50) X dL_same_25 (by decide) (fun hc25 => ?_) (fun hc25 => ?_)
    · have hF := ite_t hF hc25
      refine g_iconst (v := 0) X dL_same_50 (by decide) ?_
      exact g_zret X rfl (pZ_mk (some_inj hF) rfl) dL_same_51
    · have hF := ite_f hF hc25
      refine g_aload X dL_same_28 (lv_at hl 4 rfl) ?_
      refine g_iconst (v := 0) X dL_same_30 (by decide) ?_
      refine g_iald X 108 (j := 0) (xa_c) (by first | rfl | decide) (inb_in (by decide)) dL_same_31 ?_
      refine g_i2l X dL_same_32 ?_
      refine g_lload_n X dL_same_33 rfl (lv_at hl 1 rfl) ?_
      refine g_lmul X dL_same_34 ?_
      refine g_lload_n X dL_same_35 rfl (lv_at hl 0 rfl) ?_
      refine g_ladd X dL_same_36 ?_
      refine g_iload X dL_same_37 (lv_at hl 3 rfl) ?_
      refine g_i2l X dL_same_39 ?_
      refine g_lmul X dL_same_40 ?_
      refine g_iload X dL_same_41 (lv_at hl 2 rfl) ?_
      refine g_i2l X dL_same_43 ?_
      refine g_lload_n X dL_same_44 rfl (lv_at hl 1 rfl) ?_
      refine g_lmul X dL_same_45 ?_
      refine g_lcmp X dL_same_46 ?_
      refine g_if_eq (tgt := 52) X dL_same_47 (by decide) (fun hc47 => ?_) (fun hc47 => ?_)
      · have hF := ite_t hF hc47
        refine g_iload X dL_same_52 (lv_at hl 2 rfl) ?_
        refine g_istore (lv' := [(7, _), (0, _), (2, _), (4, _), (5, _), (6, _)]) X dL_same_54 hl (by decide) rfl (fun ls hl => ?_)
        refine g_iload X dL_same_56 (lv_at hl 4 rfl) ?_
        refine g_istore (lv' := [(8, _), (7, _), (0, _), (2, _), (4, _), (5, _), (6, _)]) X dL_same_58 hl (by decide) rfl (fun ls hl => ?_)
        obtain ⟨v60, hL60, hF⟩ := obind hF
        refine w_L_same_60 X hI (fun ls hl => ?_) FU a4 a5 hL60 ls (lv_sub hl [1, 0] rfl)
        refine g_iload X dL_same_83 (lv_at hl 0 rfl) ?_
        refine g_iconst (v := 1) X dL_same_85 (by decide) ?_
        refine g_icmp_ne (tgt := 93) X dL_same_86 (by decide) (fun hc86 => ?_) (fun hc86 => ?_)
        · have hF := ite_t hF hc86
          refine g_iconst (v := 0) X dL_same_93 (by decide) ?_
          exact g_zret X rfl (pZ_mk (some_inj hF) rfl) dL_same_94
        · have hF := ite_n hF hc86
          refine g_iconst (v := 1) X dL_same_89 (by decide) ?_
          refine g_goto (tgt := 94) X dL_same_90 (by decide) ?_
          exact g_zret X rfl (pZ_mk (some_inj hF) rfl) dL_same_94
      · have hF := ite_f hF hc47
        refine g_iconst (v := 0) X dL_same_50 (by decide) ?_
        exact g_zret X rfl (pZ_mk (some_inj hF) rfl) dL_same_51
  · have hF := ite_n hF hc3
    refine g_iload X dL_same_6 (lv_at hl 2 rfl) ?_
    refine g_if_ne (tgt := 20) X dL_same_8 (by decide) (fun hc8 => ?_) (fun hc8 => ?_)
    · have hF := ite_t hF hc8
      refine g_iconst (v := 0) X dL_same_20 (by decide) ?_
      exact g_zret X rfl (pZ_mk (some_inj hF) rfl) dL_same_21
    · have hF := ite_n hF hc8
      refine g_iload X dL_same_11 (lv_at hl 3 rfl) ?_
      refine g_if_ne (tgt := 20) X dL_same_13 (by decide) (fun hc13 => ?_) (fun hc13 => ?_)
      · have hF := ite_t hF hc13
        refine g_iconst (v := 0) X dL_same_20 (by decide) ?_
        exact g_zret X rfl (pZ_mk (some_inj hF) rfl) dL_same_21
      · have hF := ite_n hF hc13
        refine g_iconst (v := 1) X dL_same_16 (by decide) ?_
        refine g_goto (tgt := 21) X dL_same_17 (by decide) ?_
        exact g_zret X rfl (pZ_mk (some_inj hF) rfl) dL_same_21
