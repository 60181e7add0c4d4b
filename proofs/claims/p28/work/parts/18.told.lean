def L_L_spans_14 (a1 : Int32) (σ : LM) : Nat → Int32 → Option Int32
  | 0, _ => none
  | fu + 1, a3 => (if a1 ≤ a3 then some (1 : Int32) else oR (F_X3_span a3 (0 : Int32) σ.1) (fun r22 => oR (F_X3_span a3 (1 : Int32) σ.1) (fun r30 => oR (F_X3_mover r22 (4 : Int32) σ.1) (fun r37 => (if ¬ r30 = r37 then some (0 : Int32) else oR (F_X3_span a3 (2 : Int32) σ.1) (fun r46 => oR (F_X3_mover r22 (5 : Int32) σ.1) (fun r53 => (if ¬ r46 = r53 then some (0 : Int32) else (if ¬ a3 = 0 then (if a3 ≤ 0 then L_L_spans_14 a1 σ fu (a3 + 1) else if inb ((4 : Int32) * r22) 64 then (oR (F_X3_span (a3 - (1 : Int32)) (0 : Int32) σ.1) (fun r93 => if inb (((4 : Int32) * r93) + (1 : Int32)) 64 then (oR (F_X3_span (a3 - (1 : Int32)) (0 : Int32) σ.1) (fun r108 => if inb ((4 : Int32) * r108) 64 then (if inb (((4 : Int32) * r22) + (1 : Int32)) 64 then ((if 0 < (lg_cmp ((σ.2.2 0 (((4 : Int32) * r22).toNatClampNeg)) * (σ.2.2 0 ((((4 : Int32) * r93) + (1 : Int32)).toNatClampNeg))) ((σ.2.2 0 (((4 : Int32) * r108).toNatClampNeg)) * (σ.2.2 0 ((((4 : Int32) * r22) + (1 : Int32)).toNatClampNeg)))) then L_L_spans_14 a1 σ fu (a3 + 1) else some (0 : Int32))) else none) else none)) else none)) else none) else if inb ((4 : Int32) * r22) 64 then ((if (lg_cmp (σ.2.2 0 (((4 : Int32) * r22).toNatClampNeg)) (0 : Int64)) = 0 then (if a3 ≤ 0 then L_L_spans_14 a1 σ fu (a3 + 1) else if inb ((4 : Int32) * r22) 64 then (oR (F_X3_span (a3 - (1 : Int32)) (0 : Int32) σ.1) (fun r93 => if inb (((4 : Int32) * r93) + (1 : Int32)) 64 then (oR (F_X3_span (a3 - (1 : Int32)) (0 : Int32) σ.1) (fun r108 => if inb ((4 : Int32) * r108) 64 then (if inb (((4 : Int32) * r22) + (1 : Int32)) 64 then ((if 0 < (lg_cmp ((σ.2.2 0 (((4 : Int32) * r22).toNatClampNeg)) * (σ.2.2 0 ((((4 : Int32) * r93) + (1 : Int32)).toNatClampNeg))) ((σ.2.2 0 (((4 : Int32) * r108).toNatClampNeg)) * (σ.2.2 0 ((((4 : Int32) * r22) + (1 : Int32)).toNatClampNeg)))) then L_L_spans_14 a1 σ fu (a3 + 1) else some (0 : Int32))) else none) else none)) else none)) else none) else some (0 : Int32))) else none)))))))))
set_option maxHeartbeats 4000000 in
set_option maxRecDepth 100000 in
theorem w_L_spans_14 {D : va_G} {ay : Nat → ClassId} {ad : Nat → Nat} {p : Program} {l : Launch} {e : Env} {s : State} {m : MethodId} {args : Array Value} {below : List Frame} {meth : Method} {c : Code} {a1 : Int32} {σ : LM} {res : Int32} (X : CX D ay p s m args meth c cL_spans 5 RL (some .boolean) wsL_spans) (hI : axOK ad) : ∀ (fu : Nat) (a3 : Int32), L_L_spans_14 a1 σ fu a3 = some res → ∀ ls : Array Slot, lv_has ls 5 [(0, .ref (ad 0)), (1, .int a1), (2, .ref (ad 110)), (3, .int a3)] → GW D (wX ay ad) (AX ad) p l e ({ frames := 5, cells := 0, slots := 0, locals := 118 } : Room) s m args below meth c (MQ below (va_Qi (pZ res σ) (fun τ => PP D ay (wX ay ad τ)) (AX ad)) args s 0 0 (AX ad)) σ (F0 m 14 ls []) := by
  intro fu
  induction fu with
  | zero =>
    intro a3 hF ls hl
    rw [L_L_spans_14] at hF
    cases hF
  | succ fu ih =>
    intro a3 hF ls hl
    rw [L_L_spans_14] at hF
    refine g_iload_n X dL_spans_14 rfl (lv_at hl 3 rfl) ?_
    refine g_iload_n X dL_spans_15 rfl (lv_at hl 1 rfl) ?_
    refine g_icmp_ge (tgt := 134) X dL_spans_16 (by decide) (fun hc16 => ?_) (fun hc16 => ?_)
    · have hF := ite_t hF hc16
      refine g_iconst (v := 1) X dL_spans_134 (by decide) ?_
      exact g_zret X rfl (pZ_mk (some_inj hF) rfl) dL_spans_135
    · have hF := ite_f hF hc16
      refine g_aload_n X dL_spans_19 rfl (lv_at hl 0 rfl) ?_
      refine g_iload_n X dL_spans_20 rfl (lv_at hl 3 rfl) ?_
      refine g_iconst (v := 0) X dL_spans_21 (by decide) ?_
      obtain ⟨r22, hr22, hF⟩ := oR_some hF
      refine kx_Vi X hI (As := [.int a3, .int (0 : Int32)]) (rest := []) (c_X3_span hI.c hr22) (cwV 2 X.ts gL_spans_X3_span rfl rfl rfl (by decide +kernel) ⟨Nat.le_of_ble_eq_true rfl, Nat.le_of_ble_eq_true rfl⟩) rfl hl.1 rfl (Nat.le_of_ble_eq_true rfl) dL_spans_22 ?_
      refine g_istore (lv' := [(4, _), (0, _), (1, _), (2, _), (3, _)]) X dL_spans_25 hl (by decide) rfl (fun ls hl => ?_)
      refine g_aload_n X dL_spans_27 rfl (lv_at hl 1 rfl) ?_
      refine g_iload_n X dL_spans_28 rfl (lv_at hl 4 rfl) ?_
      refine g_iconst (v := 1) X dL_spans_29 (by decide) ?_
      obtain ⟨r30, hr30, hF⟩ := oR_some hF
      refine kx_Vi X hI (As := [.int a3, .int (1 : Int32)]) (rest := []) (c_X3_span hI.c hr30) (cwV 2 X.ts gL_spans_X3_span rfl rfl rfl (by decide +kernel) ⟨Nat.le_of_ble_eq_true rfl, Nat.le_of_ble_eq_true rfl⟩) rfl hl.1 rfl (Nat.le_of_ble_eq_true rfl) dL_spans_30 ?_
      refine g_aload_n X dL_spans_33 rfl (lv_at hl 1 rfl) ?_
      refine g_iload X dL_spans_34 (lv_at hl 0 rfl) ?_
      refine g_iconst (v := 4) X dL_spans_36 (by decide) ?_
      obtain ⟨r37, hr37, hF⟩ := oR_some hF
      refine kx_Vi X hI (As := [.int r22, .int (4 : Int32)]) (rest := [.int r30]) (c_X3_mover hI.c hr37) (cwV 2 X.ts gL_spans_X3_mover rfl rfl rfl (by decide +kernel) ⟨Nat.le_of_ble_eq_true rfl, Nat.le_of_ble_eq_true rfl⟩) rfl hl.1 rfl (Nat.le_of_ble_eq_true rfl) dL_spans_37 ?_
      refine g_icmp_ne (tgt := 74) X dL_spans_40 (by decide) (fun hc40 => ?_) (fun hc40 => ?_)
      · have hF := ite_t hF hc40
        refine g_iconst (v := 0) X dL_spans_74 (by decide) ?_
        exact g_zret X rfl (pZ_mk (some_inj hF) rfl) dL_spans_75
      · have hF := ite_n hF hc40
        refine g_aload_n X dL_spans_43 rfl (lv_at hl 1 rfl) ?_
        refine g_iload_n X dL_spans_44 rfl (lv_at hl 4 rfl) ?_
        refine g_iconst (v := 2) X dL_spans_45 (by decide) ?_
        obtain ⟨r46, hr46, hF⟩ := oR_some hF
        refine kx_Vi X hI (As := [.int a3, .int (2 : Int32)]) (rest := []) (c_X3_span hI.c hr46) (cwV 2 X.ts gL_spans_X3_span rfl rfl rfl (by decide +kernel) ⟨Nat.le_of_ble_eq_true rfl, Nat.le_of_ble_eq_true rfl⟩) rfl hl.1 rfl (Nat.le_of_ble_eq_true rfl) dL_spans_46 ?_
        refine g_aload_n X dL_spans_49 rfl (lv_at hl 1 rfl) ?_
        refine g_iload X dL_spans_50 (lv_at hl 0 rfl) ?_
        refine g_iconst (v := 5) X dL_spans_52 (by decide) ?_
        obtain ⟨r53, hr53, hF⟩ := oR_some hF
        refine kx_Vi X hI (As := [.int r22, .int (5 : Int32)]) (rest := [.int r46]) (c_X3_mover hI.c hr53) (cwV 2 X.ts gL_spans_X3_mover rfl rfl rfl (by decide +kernel) ⟨Nat.le_of_ble_eq_true rfl, Nat.le_of_ble_eq_true rfl⟩) rfl hl.1 rfl (Nat.le_of_ble_eq_true rfl) dL_spans_53 ?_
        refine g_icmp_ne (tgt := 74) X dL_spans_56 (by decide) (fun hc56 => ?_) (fun hc56 => ?_)
        · have hF := ite_t hF hc56
          refine g_iconst (v := 0) X dL_spans_74 (by decide) ?_
          exact g_zret X rfl (pZ_mk (some_inj hF) rfl) dL_spans_75
        · have hF := ite_n hF hc56
          refine g_iload_n X dL_spans_59 rfl (lv_at hl 4 rfl) ?_
          refine g_if_ne (tgt := 76) X dL_spans_60 (by decide) (fun hc60 => ?_) (fun hc60 => ?_)
          · have hF := ite_t hF hc60
            refine g_iload_n X dL_spans_76 rfl (lv_at hl 4 rfl) ?_
            refine g_if_le (tgt := 128) X dL_spans_77 (by decide) (fun hc77 => ?_) (fun hc77 => ?_)
            · have hF := ite_t hF hc77
              refine g_iinc (v := a3 + 1) (lv' := [(3, _), (4, _), (0, _), (1, _), (2, _)]) X dL_spans_128 hl (k := 4) rfl rfl (by decide) rfl (fun ls hl => ?_)
              refine g_goto (tgt := 14) X dL_spans_131 (by decide) ?_
              exact ih (a3 + 1) hF ls (lv_sub hl [2, 3, 4, 0] rfl)
            · have hF := ite_f hF hc77
              refine g_aload_n X dL_spans_80 rfl (lv_at hl 3 rfl) ?_
              refine g_iconst (v := 4) X dL_spans_81 (by decide) ?_
              refine g_iload X dL_spans_82 (lv_at hl 0 rfl) ?_
              refine g_imul X dL_spans_84 ?_
              obtain ⟨h85, hF⟩ := itn hF
              refine g_lald X 110 (j := ((4 : Int32) * r22).toNatClampNeg) (xa_f) (by first | rfl | decide) (inb_in h85) dL_spans_85 ?_
              refine g_aload_n X dL_spans_86 rfl (lv_at hl 3 rfl) ?_
              refine g_iconst (v := 4) X dL_spans_87 (by decide) ?_
              refine g_aload_n X dL_spans_88 rfl (lv_at hl 1 rfl) ?_
              refine g_iload_n X dL_spans_89 rfl (lv_at hl 4 rfl) ?_
              refine g_iconst (v := 1) X dL_spans_90 (by decide) ?_
              refine g_isub X dL_spans_91 ?_
              refine g_iconst (v := 0) X dL_spans_92 (by decide) ?_
              obtain ⟨r93, hr93, hF⟩ := oR_some hF
              refine kx_Vi X hI (As := [.int (a3 - (1 : Int32)), .int (0 : Int32)]) (rest := [.int (4 : Int32), .ref (ad 110), .long (σ.2.2 0 (((4 : Int32) * r22).toNatClampNeg))]) (c_X3_span hI.c hr93) (cwV 2 X.ts gL_spans_X3_span rfl rfl rfl (by decide +kernel) ⟨Nat.le_of_ble_eq_true rfl, Nat.le_of_ble_eq_true rfl⟩) rfl hl.1 rfl (Nat.le_of_ble_eq_true rfl) dL_spans_93 ?_
              refine g_imul X dL_spans_96 ?_
              refine g_iconst (v := 1) X dL_spans_97 (by decide) ?_
              refine g_iadd X dL_spans_98 ?_
              obtain ⟨h99, hF⟩ := itn hF
              refine g_lald X 110 (j := (((4 : Int32) * r93) + (1 : Int32)).toNatClampNeg) (xa_f) (by first | rfl | decide) (inb_in h99) dL_spans_99 ?_
              refine g_lmul X dL_spans_100 ?_
              refine g_aload_n X dL_spans_101 rfl (lv_at hl 3 rfl) ?_
              refine g_iconst (v := 4) X dL_spans_102 (by decide) ?_
              refine g_aload_n X dL_spans_103 rfl (lv_at hl 1 rfl) ?_
              refine g_iload_n X dL_spans_104 rfl (lv_at hl 4 rfl) ?_
              refine g_iconst (v := 1) X dL_spans_105 (by decide) ?_
              refine g_isub X dL_spans_106 ?_
              refine g_iconst (v := 0) X dL_spans_107 (by decide) ?_
              obtain ⟨r108, hr108, hF⟩ := oR_some hF
              refine kx_Vi X hI (As := [.int (a3 - (1 : Int32)), .int (0 : Int32)]) (rest := [.int (4 : Int32), .ref (ad 110), .long ((σ.2.2 0 (((4 : Int32) * r22).toNatClampNeg)) * (σ.2.2 0 ((((4 : Int32) * r93) + (1 : Int32)).toNatClampNeg)))]) (c_X3_span hI.c hr108) (cwV 2 X.ts gL_spans_X3_span rfl rfl rfl (by decide +kernel) ⟨Nat.le_of_ble_eq_true rfl, Nat.le_of_ble_eq_true rfl⟩) rfl hl.1 rfl (Nat.le_of_ble_eq_true rfl) dL_spans_108 ?_
              refine g_imul X dL_spans_111 ?_
              obtain ⟨h112, hF⟩ := itn hF
              refine g_lald X 110 (j := ((4 : Int32) * r108).toNatClampNeg) (xa_f) (by first | rfl | decide) (inb_in h112) dL_spans_112 ?_
              refine g_aload_n X dL_spans_113 rfl (lv_at hl 3 rfl) ?_
              refine g_iconst (v := 4) X dL_spans_114 (by decide) ?_
              refine g_iload X dL_spans_115 (lv_at hl 0 rfl) ?_
              refine g_imul X dL_spans_117 ?_
              refine g_iconst (v := 1) X dL_spans_118 (by decide) ?_
              refine g_iadd X dL_spans_119 ?_
              obtain ⟨h120, hF⟩ := itn hF
              refine g_lald X 110 (j := (((4 : Int32) * r22) + (1 : Int32)).toNatClampNeg) (xa_f) (by first | rfl | decide) (inb_in h120) dL_spans_120 ?_
              refine g_lmul X dL_spans_121 ?_
              refine g_lcmp X dL_spans_122 ?_
              refine g_if_gt (tgt := 128) X dL_spans_123 (by decide) (fun hc123 => ?_) (fun hc123 => ?_)
              · have hF := ite_t hF hc123
                refine g_iinc (v := a3 + 1) (lv' := [(3, _), (4, _), (0, _), (1, _), (2, _)]) X dL_spans_128 hl (k := 4) rfl rfl (by decide) rfl (fun ls hl => ?_)
                refine g_goto (tgt := 14) X dL_spans_131 (by decide) ?_
                exact ih (a3 + 1) hF ls (lv_sub hl [2, 3, 4, 0] rfl)
              · have hF := ite_f hF hc123
                refine g_iconst (v := 0) X dL_spans_126 (by decide) ?_
                exact g_zret X rfl (pZ_mk (some_inj hF) rfl) dL_spans_127
          · have hF := ite_n hF hc60
            refine g_aload_n X dL_spans_63 rfl (lv_at hl 3 rfl) ?_
            refine g_iconst (v := 4) X dL_spans_64 (by decide) ?_
            refine g_iload X dL_spans_65 (lv_at hl 0 rfl) ?_
            refine g_imul X dL_spans_67 ?_
            obtain ⟨h68, hF⟩ := itn hF
            refine g_lald X 110 (j := ((4 : Int32) * r22).toNatClampNeg) (xa_f) (by first | rfl | decide) (inb_in h68) dL_spans_68 ?_
            refine g_lconst (v := 0) X dL_spans_69 (by decide) ?_
            refine g_lcmp X dL_spans_70 ?_
            refine g_if_eq (tgt := 76) X dL_spans_71 (by decide) (fun hc71 => ?_) (fun hc71 => ?_)
            · have hF := ite_t hF hc71
              refine g_iload_n X dL_spans_76 rfl (lv_at hl 4 rfl) ?_
              refine g_if_le (tgt := 128) X dL_spans_77 (by decide) (fun hc77 => ?_) (fun hc77 => ?_)
              · have hF := ite_t hF hc77
                refine g_iinc (v := a3 + 1) (lv' := [(3, _), (4, _), (0, _), (1, _), (2, _)]) X dL_spans_128 hl (k := 4) rfl rfl (by decide) rfl (fun ls hl => ?_)
                refine g_goto (tgt := 14) X dL_spans_131 (by decide) ?_
                exact ih (a3 + 1) hF ls (lv_sub hl [2, 3, 4, 0] rfl)
              · have hF := ite_f hF hc77
                refine g_aload_n X dL_spans_80 rfl (lv_at hl 3 rfl) ?_
                refine g_iconst (v := 4) X dL_spans_81 (by decide) ?_
                refine g_iload X dL_spans_82 (lv_at hl 0 rfl) ?_
                refine g_imul X dL_spans_84 ?_
                obtain ⟨h85, hF⟩ := itn hF
                refine g_lald X 110 (j := ((4 : Int32) * r22).toNatClampNeg) (xa_f) (by first | rfl | decide) (inb_in h85) dL_spans_85 ?_
                refine g_aload_n X dL_spans_86 rfl (lv_at hl 3 rfl) ?_
                refine g_iconst (v := 4) X dL_spans_87 (by decide) ?_
                refine g_aload_n X dL_spans_88 rfl (lv_at hl 1 rfl) ?_
                refine g_iload_n X dL_spans_89 rfl (lv_at hl 4 rfl) ?_
                refine g_iconst (v := 1) X dL_spans_90 (by decide) ?_
                refine g_isub X dL_spans_91 ?_
                refine g_iconst (v := 0) X dL_spans_92 (by decide) ?_
                obtain ⟨r93, hr93, hF⟩ := oR_some hF
                refine kx_Vi X hI (As := [.int (a3 - (1 : Int32)), .int (0 : Int32)]) (rest := [.int (4 : Int32), .ref (ad 110), .long (σ.2.2 0 (((4 : Int32) * r22).toNatClampNeg))]) (c_X3_span hI.c hr93) (cwV 2 X.ts gL_spans_X3_span rfl rfl rfl (by decide +kernel) ⟨Nat.le_of_ble_eq_true rfl, Nat.le_of_ble_eq_true rfl⟩) rfl hl.1 rfl (Nat.le_of_ble_eq_true rfl) dL_spans_93 ?_
                refine g_imul X dL_spans_96 ?_
                refine g_iconst (v := 1) X dL_spans_97 (by decide) ?_
                refine g_iadd X dL_spans_98 ?_
                obtain ⟨h99, hF⟩ := itn hF
                refine g_lald X 110 (j := (((4 : Int32) * r93) + (1 : Int32)).toNatClampNeg) (xa_f) (by first | rfl | decide) (inb_in h99) dL_spans_99 ?_
                refine g_lmul X dL_spans_100 ?_
                refine g_aload_n X dL_spans_101 rfl (lv_at hl 3 rfl) ?_
                refine g_iconst (v := 4) X dL_spans_102 (by decide) ?_
                refine g_aload_n X dL_spans_103 rfl (lv_at hl 1 rfl) ?_
                refine g_iload_n X dL_spans_104 rfl (lv_at hl 4 rfl) ?_
                refine g_iconst (v := 1) X dL_spans_105 (by decide) ?_
                refine g_isub X dL_spans_106 ?_
                refine g_iconst (v := 0) X dL_spans_107 (by decide) ?_
                obtain ⟨r108, hr108, hF⟩ := oR_some hF
                refine kx_Vi X hI (As := [.int (a3 - (1 : Int32)), .int (0 : Int32)]) (rest := [.int (4 : Int32), .ref (ad 110), .long ((σ.2.2 0 (((4 : Int32) * r22).toNatClampNeg)) * (σ.2.2 0 ((((4 : Int32) * r93) + (1 : Int32)).toNatClampNeg)))]) (c_X3_span hI.c hr108) (cwV 2 X.ts gL_spans_X3_span rfl rfl rfl (by decide +kernel) ⟨Nat.le_of_ble_eq_true rfl, Nat.le_of_ble_eq_true rfl⟩) rfl hl.1 rfl (Nat.le_of_ble_eq_true rfl) dL_spans_108 ?_
                refine g_imul X dL_spans_111 ?_
                obtain ⟨h112, hF⟩ := itn hF
                refine g_lald X 110 (j := ((4 : Int32) * r108).toNatClampNeg) (xa_f) (by first | rfl | decide) (inb_in h112) dL_spans_112 ?_
                refine g_aload_n X dL_spans_113 rfl (lv_at hl 3 rfl) ?_
                refine g_iconst (v := 4) X dL_spans_114 (by decide) ?_
                refine g_iload X dL_spans_115 (lv_at hl 0 rfl) ?_
                refine g_imul X dL_spans_117 ?_
                refine g_iconst (v := 1) X dL_spans_118 (by decide) ?_
                refine g_iadd X dL_spans_119 ?_
                obtain ⟨h120, hF⟩ := itn hF
                refine g_lald X 110 (j := (((4 : Int32) * r22) + (1 : Int32)).toNatClampNeg) (xa_f) (by first | rfl | decide) (inb_in h120) dL_spans_120 ?_
                refine g_lmul X dL_spans_121 ?_
                refine g_lcmp X dL_spans_122 ?_
                refine g_if_gt (tgt := 128) X dL_spans_123 (by decide) (fun hc123 => ?_) (fun hc123 => ?_)
                · have hF := ite_t hF hc123
                  refine g_iinc (v := a3 + 1) (lv' := [(3, _), (4, _), (0, _), (1, _), (2, _)]) X dL_spans_128 hl (k := 4) rfl rfl (by decide) rfl (fun ls hl => ?_)
                  refine g_goto (tgt := 14) X dL_spans_131 (by decide) ?_
                  exact ih (a3 + 1) hF ls (lv_sub hl [2, 3, 4, 0] rfl)
                · have hF := ite_f hF hc123
                  refine g_iconst (v := 0) X dL_spans_126 (by decide) ?_
                  exact g_zret X rfl (pZ_mk (some_inj hF) rfl) dL_spans_127
            · have hF := ite_f hF hc71
              refine g_iconst (v := 0) X dL_spans_74 (by decide) ?_
              exact g_zret X rfl (pZ_mk (some_inj hF) rfl) dL_spans_75
def F_L_spans (a1 : Int32) (σ : LM) : Option Int32 := oR (F_X3_span a1 (0 : Int32) σ.1) (fun r3 => (if r3 = (-1 : Int32) then L_L_spans_14 a1 σ FU (0 : Int32) else some (0 : Int32)))
set_option maxHeartbeats 4000000 in
set_option maxRecDepth 100000 in
theorem c_L_spans {l : Launch} {D : va_G} {ay : Nat → ClassId} {ad : Nat → Nat} {a1 : Int32} {σ : LM} {res : Int32} (hI : axOK ad) (hF : F_L_spans a1 σ = some res) : Met l yL_spans wsL_spans ({ frames := 5, cells := 0, slots := 0, locals := 118 } : Room) (va_Pc [.ref (ad 0), .int a1, .ref (ad 110)] (PP D ay (wX ay ad σ))) (va_Qi (pZ res σ) (fun τ => PP D ay (wX ay ad τ)) (AX ad)) 0 0 (AX ad) := by
  refine g_start (wd := wX ay ad) (A := AX ad) (own := RL) (mL := 5) (rt := (some .boolean)) (by decide) rfl rfl (Nat.le_of_ble_eq_true rfl) ?_
  intro p e s m below meth c ls X hl
  have hl : lv_has ls 5 [(0, .ref (ad 0)), (1, .int a1), (2, .ref (ad 110))] := hl
  rw [F_L_spans] at hF
  refine g_aload_n X dL_spans_0 rfl (lv_at hl 0 rfl) ?_
  refine g_iload_n X dL_spans_1 rfl (lv_at hl 1 rfl) ?_
  refine g_iconst (v := 0) X dL_spans_2 (by decide) ?_
  obtain ⟨r3, hr3, hF⟩ := oR_some hF
  refine kx_Vi X hI (As := [.int a1, .int (0 : Int32)]) (rest := []) (c_X3_span hI.c hr3) (cwV 2 X.ts gL_spans_X3_span rfl rfl rfl (by decide +kernel) ⟨Nat.le_of_ble_eq_true rfl, Nat.le_of_ble_eq_true rfl⟩) rfl hl.1 rfl (Nat.le_of_ble_eq_true rfl) dL_spans_3 ?_
  refine g_iconst (v := -1) X dL_spans_6 (by decide) ?_
  refine g_icmp_eq (tgt := 12) X dL_spans_7 (by decide) (fun hc7 => ?_) (fun hc7 => ?_)
  · have hF := ite_t hF hc7
    refine g_iconst (v := 0) X dL_spans_12 (by decide) ?_
    refine g_istore_n (lv' := [(3, _), (0, _), (1, _), (2, _)]) X dL_spans_13 rfl hl (by decide) rfl (fun ls hl => ?_)
    exact w_L_spans_14 X hI FU (0 : Int32) hF ls (lv_sub hl [1, 2, 3, 0] rfl)
  · have hF := ite_f hF hc7
    refine g_iconst (v := 0) X dL_spans_10 (by decide) ?_
    exact g_zret X rfl (pZ_mk (some_inj hF) rfl) dL_spans_11
def L_L_told_319 (a5 : Int32) (a6 : Int32) (a13 : Int32) (a14 : Int32) (σ : LM) : Nat → Int32 → Int32 → Option Int32
  | 0, _, _ => none
  | fu + 1, a15, a16 => (if (16 : Int32) ≤ a16 then some a15 else (Option.bind (if a16 = a14 then some (0 : Int32) else if inb ((4 : Int32) * a16) 64 then ((if ¬ (σ.2.1 1 (((4 : Int32) * a16).toNatClampNeg)) = (1 : Int32) then some (0 : Int32) else Option.bind (F_L_first a16 a14 σ) (fun r351 => (if r351 = 0 then some (0 : Int32) else some (1 : Int32))))) else none) (fun v332 : Int32 => L_L_told_319 a5 a6 a13 a14 σ fu (a15 + v332) (a16 + 1))))
set_option maxHeartbeats 4000000 in
set_option maxRecDepth 100000 in
theorem w_L_told_319 {D : va_G} {ay : Nat → ClassId} {ad : Nat → Nat} {p : Program} {l : Launch} {e : Env} {s : State} {m : MethodId} {args : Array Value} {below : List Frame} {meth : Method} {c : Code} {Q : State → Prop} {a5 : Int32} {a6 : Int32} {a13 : Int32} {a14 : Int32} {σ : LM} {res : Int32} (X : CX D ay p s m args meth c cL_told 17 RL (some .boolean) wsL_told) (hI : axOK ad) (K : ∀ ls : Array Slot, lv_has ls 17 [(0, .ref (ad 0)), (1, .ref (ad 108)), (2, .ref (ad 109)), (3, .ref (ad 110)), (4, .ref (ad 111)), (5, .int a5), (6, .int a6), (13, .int a13), (14, .int a14), (15, .int res)] → GW D (wX ay ad) (AX ad) p l e ({ frames := 6, cells := 0, slots := 0, locals := 142 } : Room) s m args below meth c Q σ (F0 m 371 ls [])) : ∀ (fu : Nat) (a15 : Int32) (a16 : Int32), L_L_told_319 a5 a6 a13 a14 σ fu a15 a16 = some res → ∀ ls : Array Slot, lv_has ls 17 [(0, .ref (ad 0)), (1, .ref (ad 108)), (2, .ref (ad 109)), (3, .ref (ad 110)), (4, .ref (ad 111)), (5, .int a5), (6, .int a6), (13, .int a13), (14, .int a14), (15, .int a15), (16, .int a16)] → GW D (wX ay ad) (AX ad) p l e ({ frames := 6, cells := 0, slots := 0, locals := 142 } : Room) s m args below meth c Q σ (F0 m 319 ls []) := by
  intro fu
  induction fu with
  | zero =>
    intro a15 a16 hF ls hl
    rw [L_L_told_319] at hF
    cases hF
  | succ fu ih =>
    intro a15 a16 hF ls hl
    rw [L_L_told_319] at hF
    refine g_iload X dL_told_319 (lv_at hl 10 rfl) ?_
    refine g_bipush (v := 16) X dL_told_321 (by decide) ?_
    refine g_icmp_ge (tgt := 371) X dL_told_323 (by decide) (fun hc323 => ?_) (fun hc323 => ?_)
    · have hF := ite_t hF hc323
      have e319 := some_inj hF
      subst e319
      exact K ls (lv_sub hl [0, 1, 2, 3, 4, 5, 6, 7, 8, 9] rfl)
    · have hF := ite_f hF hc323
      refine g_iload X dL_told_326 (lv_at hl 9 rfl) ?_
      refine g_iload X dL_told_328 (lv_at hl 10 rfl) ?_
      refine g_iload X dL_told_330 (lv_at hl 8 rfl) ?_
      obtain ⟨v332, hR332, hF⟩ := obind hF
      refine g_cut (nM := 17) [(0, .ref (ad 0)), (1, .ref (ad 108)), (2, .ref (ad 109)), (3, .ref (ad 110)), (4, .ref (ad 111)), (5, .int a5), (6, .int a6), (13, .int a13), (14, .int a14), (16, .int a16)] (σ) 362 [.int v332, .int a15] (fun ls hl => ?_) (fun J332 => ?_)
      · refine g_iadd X dL_told_362 ?_
        refine g_istore (lv' := [(15, _), (0, _), (1, _), (2, _), (3, _), (4, _), (5, _), (6, _), (13, _), (14, _), (16, _)]) X dL_told_363 hl (by decide) rfl (fun ls hl => ?_)
        refine g_iinc (v := a16 + 1) (lv' := [(16, _), (15, _), (0, _), (1, _), (2, _), (3, _), (4, _), (5, _), (6, _), (13, _), (14, _)]) X dL_told_365 hl (k := 10) rfl rfl (by decide) rfl (fun ls hl => ?_)
        refine g_goto (tgt := 319) X dL_told_368 (by decide) ?_
        exact ih (a15 + v332) (a16 + 1) hF ls (lv_sub hl [2, 3, 4, 5, 6, 7, 8, 9, 10, 1, 0] rfl)
      · refine g_icmp_eq (tgt := 361) X dL_told_332 (by decide) (fun hc332 => ?_) (fun hc332 => ?_)
        · have hR332 := ite_t hR332 hc332
          refine g_iconst (v := 0) X dL_told_361 (by decide) ?_
          have e332 := some_inj hR332
          subst e332
          exact J332 ls (lv_sub hl [0, 1, 2, 3, 4, 5, 6, 7, 8, 10] rfl)
        · have hR332 := ite_f hR332 hc332
          refine g_aload_n X dL_told_335 rfl (lv_at hl 2 rfl) ?_
          refine g_iconst (v := 4) X dL_told_336 (by decide) ?_
          refine g_iload X dL_told_337 (lv_at hl 10 rfl) ?_
          refine g_imul X dL_told_339 ?_
          obtain ⟨h340, hR332⟩ := itn hR332
          refine g_iald X 109 (j := ((4 : Int32) * a16).toNatClampNeg) (xa_m) (by first | rfl | decide) (inb_in h340) dL_told_340 ?_
          refine g_iconst (v := 1) X dL_told_341 (by decide) ?_
          refine g_icmp_ne (tgt := 361) X dL_told_342 (by decide) (fun hc342 => ?_) (fun hc342 => ?_)
          · have hR332 := ite_t hR332 hc342
            refine g_iconst (v := 0) X dL_told_361 (by decide) ?_
            have e332 := some_inj hR332
            subst e332
            exact J332 ls (lv_sub hl [0, 1, 2, 3, 4, 5, 6, 7, 8, 10] rfl)
          · have hR332 := ite_n hR332 hc342
            refine g_iload X dL_told_345 (lv_at hl 10 rfl) ?_
            refine g_iload X dL_told_347 (lv_at hl 8 rfl) ?_
            refine g_aload_n X dL_told_349 rfl (lv_at hl 1 rfl) ?_
            refine g_aload_n X dL_told_350 rfl (lv_at hl 2 rfl) ?_
            obtain ⟨r351, hr351, hR332⟩ := obind hR332
            refine k_Sz X (As := [.int a16, .int a14, .ref (ad 108), .ref (ad 109)]) (rest := [.int a15]) (c_L_first hI hr351) (va_cwS 4 X.ts gL_told_L_first rfl rfl rfl (by decide +kernel) ⟨Nat.le_of_ble_eq_true rfl, Nat.le_of_ble_eq_true rfl⟩) rfl hl.1 rfl (Nat.le_of_ble_eq_true rfl) dL_told_351 (fun hz351 => ?_)
            refine g_if_eq (tgt := 361) X dL_told_354 (by decide) (fun hc354 => ?_) (fun hc354 => ?_)
            · have hR332 := ite_t hR332 hc354
              refine g_iconst (v := 0) X dL_told_361 (by decide) ?_
              have e332 := some_inj hR332
              subst e332
              exact J332 ls (lv_sub hl [0, 1, 2, 3, 4, 5, 6, 7, 8, 10] rfl)
            · have hR332 := ite_f hR332 hc354
              refine g_iconst (v := 1) X dL_told_357 (by decide) ?_
              refine g_goto (tgt := 362) X dL_told_358 (by decide) ?_
              have e332 := some_inj hR332
              subst e332
              exact J332 ls (lv_sub hl [0, 1, 2, 3, 4, 5, 6, 7, 8, 10] rfl)
def L_L_told_291 (a6 : Int32) : Nat → Int32 → Int32 → Int32 → LM → Option (Int32 × LM)
  | 0, _, _, _, _ => none
  | fu + 1, a5, a13, a14, σ => (if (16 : Int32) ≤ a14 then oR (F_X3_count (0 : Int32) σ.1) (fun r522 => (if ¬ r522 = (σ.2.1 0 0) then some ((0 : Int32), σ) else oR (F_X3_count (1 : Int32) σ.1) (fun r533 => (if ¬ r533 = a5 then some ((0 : Int32), σ) else oR (F_X3_count (2 : Int32) σ.1) (fun r543 => (if ¬ r543 = a13 then some ((0 : Int32), σ) else oR (F_X3_count (3 : Int32) σ.1) (fun r553 => (if ¬ r553 = a6 then some ((0 : Int32), σ) else oR (F_X3_count (4 : Int32) σ.1) (fun r563 => (if ¬ r563 = (σ.2.1 0 4) then some ((0 : Int32), σ) else oR (F_X3_count (5 : Int32) σ.1) (fun r574 => (if ¬ r574 = (a5 - a13) then some ((0 : Int32), σ) else oR (F_X3_setting (0 : Int32) σ.1) (fun r587 => (if ¬ r587 = (σ.2.1 0 1) then some ((0 : Int32), σ) else oR (F_X3_setting (1 : Int32) σ.1) (fun r598 => (if ¬ r598 = (σ.2.1 0 2) then some ((0 : Int32), σ) else Option.bind (F_L_spans a13 σ) (fun r611 => (if r611 = 0 then some ((0 : Int32), σ) else some ((1 : Int32), σ))))))))))))))))))) else if inb ((4 : Int32) * a14) 64 then ((if ¬ (σ.2.1 1 (((4 : Int32) * a14).toNatClampNeg)) = 0 then Option.bind (L_L_told_319 (a5 + 1) a6 a13 a14 σ FU (0 : Int32) (0 : Int32)) (fun v319 : Int32 => Option.bind (F_L_wins a14 (0 : Int32) (16 : Int32) σ) (fun r381 => (Option.bind (if r381.1 = 0 then some (0 : Int32) else some (1 : Int32)) (fun v390 : Int32 => oR (F_X3_mover a14 (0 : Int32) r381.2.1) (fun r405 => if inb (((4 : Int32) * a14) + (1 : Int32)) 64 then ((if ¬ r405 = (r381.2.2.1 1 ((((4 : Int32) * a14) + (1 : Int32)).toNatClampNeg)) then some ((0 : Int32), r381.2) else oR (F_X3_mover a14 (1 : Int32) r381.2.1) (fun r423 => if inb (((4 : Int32) * a14) + (2 : Int32)) 64 then ((if ¬ r423 = (r381.2.2.1 1 ((((4 : Int32) * a14) + (2 : Int32)).toNatClampNeg)) then some ((0 : Int32), r381.2) else oR (F_X3_mover a14 (2 : Int32) r381.2.1) (fun r441 => (if ¬ r441 = v319 then some ((0 : Int32), r381.2) else oR (F_X3_mover a14 (6 : Int32) r381.2.1) (fun r454 => if inb (((4 : Int32) * a14) + (3 : Int32)) 64 then ((if ¬ r454 = (r381.2.2.1 1 ((((4 : Int32) * a14) + (3 : Int32)).toNatClampNeg)) then some ((0 : Int32), r381.2) else if inb ((4 : Int32) * a14) 64 then ((Option.bind (if r381.1 = 0 then some (0 : Int64) else if inb (((4 : Int32) * a14) + (1 : Int32)) 64 then (some (r381.2.2.2 0 ((((4 : Int32) * a14) + (1 : Int32)).toNatClampNeg))) else none) (fun v476 : Int64 => oR (F_X3_mover a14 (4 : Int32) r381.2.1) (fun r495 => oR (F_X3_mover a14 (5 : Int32) r381.2.1) (fun r502 => Option.bind (F_L_same (r381.2.2.2 0 (((4 : Int32) * a14).toNatClampNeg)) v476 r495 r502 r381.2) (fun r506 => (if ¬ r506 = 0 then L_L_told_291 a6 fu (a5 + 1) (a13 + v390) (a14 + 1) r381.2 else some ((0 : Int32), r381.2)))))))) else none)) else none))))) else none))) else none))))) else L_L_told_291 a6 fu a5 a13 (a14 + 1) σ)) else none)
set_option maxHeartbeats 4000000 in
set_option maxRecDepth 100000 in
theorem w_L_told_291 {D : va_G} {ay : Nat → ClassId} {ad : Nat → Nat} {p : Program} {l : Launch} {e : Env} {s : State} {m : MethodId} {args : Array Value} {below : List Frame} {meth : Method} {c : Code} {a6 : Int32} {res : Int32 × LM} (X : CX D ay p s m args meth c cL_told 17 RL (some .boolean) wsL_told) (hI : axOK ad) : ∀ (fu : Nat) (a5 : Int32) (a13 : Int32) (a14 : Int32) (σ : LM), L_L_told_291 a6 fu a5 a13 a14 σ = some res → ∀ ls : Array Slot, lv_has ls 17 [(0, .ref (ad 0)), (1, .ref (ad 108)), (2, .ref (ad 109)), (3, .ref (ad 110)), (4, .ref (ad 111)), (5, .int a5), (6, .int a6), (13, .int a13), (14, .int a14)] → GW D (wX ay ad) (AX ad) p l e ({ frames := 6, cells := 0, slots := 0, locals := 142 } : Room) s m args below meth c (MQ below (va_Qi (pF res) (fun τ => PP D ay (wX ay ad τ)) (AX ad)) args s 0 0 (AX ad)) σ (F0 m 291 ls []) := by
  intro fu
  induction fu with
  | zero =>
    intro a5 a13 a14 σ hF ls hl
    rw [L_L_told_291] at hF
    cases hF
  | succ fu ih =>
    intro a5 a13 a14 σ hF ls hl
    rw [L_L_told_291] at hF
    refine g_iload X dL_told_291 (lv_at hl 8 rfl) ?_
    refine g_bipush (v := 16) X dL_told_293 (by decide) ?_
    refine g_icmp_ge (tgt := 520) X dL_told_295 (by decide) (fun hc295 => ?_) (fun hc295 => ?_)
    · have hF := ite_t hF hc295
      refine g_aload_n X dL_told_520 rfl (lv_at hl 0 rfl) ?_
      refine g_iconst (v := 0) X dL_told_521 (by decide) ?_
      obtain ⟨r522, hr522, hF⟩ := oR_some hF
      refine kx_Vi X hI (As := [.int (0 : Int32)]) (rest := []) (c_X3_count hI.c hr522) (cwV 1 X.ts gL_told_X3_count rfl rfl rfl (by decide +kernel) ⟨Nat.le_of_ble_eq_true rfl, Nat.le_of_ble_eq_true rfl⟩) rfl hl.1 rfl (Nat.le_of_ble_eq_true rfl) dL_told_522 ?_
      refine g_aload_n X dL_told_525 rfl (lv_at hl 1 rfl) ?_
      refine g_iconst (v := 0) X dL_told_526 (by decide) ?_
      refine g_iald X 108 (j := 0) (xa_c) (by first | rfl | decide) (inb_in (by decide)) dL_told_527 ?_
      refine g_icmp_ne (tgt := 621) X dL_told_528 (by decide) (fun hc528 => ?_) (fun hc528 => ?_)
      · have hF := ite_t hF hc528
        refine g_iconst (v := 0) X dL_told_621 (by decide) ?_
        exact g_zret X rfl (pF_mk (some_inj hF) rfl) dL_told_622
      · have hF := ite_n hF hc528
        refine g_aload_n X dL_told_531 rfl (lv_at hl 0 rfl) ?_
        refine g_iconst (v := 1) X dL_told_532 (by decide) ?_
        obtain ⟨r533, hr533, hF⟩ := oR_some hF
        refine kx_Vi X hI (As := [.int (1 : Int32)]) (rest := []) (c_X3_count hI.c hr533) (cwV 1 X.ts gL_told_X3_count rfl rfl rfl (by decide +kernel) ⟨Nat.le_of_ble_eq_true rfl, Nat.le_of_ble_eq_true rfl⟩) rfl hl.1 rfl (Nat.le_of_ble_eq_true rfl) dL_told_533 ?_
        refine g_iload X dL_told_536 (lv_at hl 5 rfl) ?_
        refine g_icmp_ne (tgt := 621) X dL_told_538 (by decide) (fun hc538 => ?_) (fun hc538 => ?_)
        · have hF := ite_t hF hc538
          refine g_iconst (v := 0) X dL_told_621 (by decide) ?_
          exact g_zret X rfl (pF_mk (some_inj hF) rfl) dL_told_622
        · have hF := ite_n hF hc538
          refine g_aload_n X dL_told_541 rfl (lv_at hl 0 rfl) ?_
          refine g_iconst (v := 2) X dL_told_542 (by decide) ?_
          obtain ⟨r543, hr543, hF⟩ := oR_some hF
          refine kx_Vi X hI (As := [.int (2 : Int32)]) (rest := []) (c_X3_count hI.c hr543) (cwV 1 X.ts gL_told_X3_count rfl rfl rfl (by decide +kernel) ⟨Nat.le_of_ble_eq_true rfl, Nat.le_of_ble_eq_true rfl⟩) rfl hl.1 rfl (Nat.le_of_ble_eq_true rfl) dL_told_543 ?_
          refine g_iload X dL_told_546 (lv_at hl 7 rfl) ?_
          refine g_icmp_ne (tgt := 621) X dL_told_548 (by decide) (fun hc548 => ?_) (fun hc548 => ?_)
          · have hF := ite_t hF hc548
            refine g_iconst (v := 0) X dL_told_621 (by decide) ?_
            exact g_zret X rfl (pF_mk (some_inj hF) rfl) dL_told_622
          · have hF := ite_n hF hc548
            refine g_aload_n X dL_told_551 rfl (lv_at hl 0 rfl) ?_
            refine g_iconst (v := 3) X dL_told_552 (by decide) ?_
            obtain ⟨r553, hr553, hF⟩ := oR_some hF
            refine kx_Vi X hI (As := [.int (3 : Int32)]) (rest := []) (c_X3_count hI.c hr553) (cwV 1 X.ts gL_told_X3_count rfl rfl rfl (by decide +kernel) ⟨Nat.le_of_ble_eq_true rfl, Nat.le_of_ble_eq_true rfl⟩) rfl hl.1 rfl (Nat.le_of_ble_eq_true rfl) dL_told_553 ?_
            refine g_iload X dL_told_556 (lv_at hl 6 rfl) ?_
            refine g_icmp_ne (tgt := 621) X dL_told_558 (by decide) (fun hc558 => ?_) (fun hc558 => ?_)
            · have hF := ite_t hF hc558
              refine g_iconst (v := 0) X dL_told_621 (by decide) ?_
              exact g_zret X rfl (pF_mk (some_inj hF) rfl) dL_told_622
            · have hF := ite_n hF hc558
              refine g_aload_n X dL_told_561 rfl (lv_at hl 0 rfl) ?_
              refine g_iconst (v := 4) X dL_told_562 (by decide) ?_
              obtain ⟨r563, hr563, hF⟩ := oR_some hF
              refine kx_Vi X hI (As := [.int (4 : Int32)]) (rest := []) (c_X3_count hI.c hr563) (cwV 1 X.ts gL_told_X3_count rfl rfl rfl (by decide +kernel) ⟨Nat.le_of_ble_eq_true rfl, Nat.le_of_ble_eq_true rfl⟩) rfl hl.1 rfl (Nat.le_of_ble_eq_true rfl) dL_told_563 ?_
              refine g_aload_n X dL_told_566 rfl (lv_at hl 1 rfl) ?_
              refine g_iconst (v := 4) X dL_told_567 (by decide) ?_
              refine g_iald X 108 (j := 4) (xa_c) (by first | rfl | decide) (inb_in (by decide)) dL_told_568 ?_
              refine g_icmp_ne (tgt := 621) X dL_told_569 (by decide) (fun hc569 => ?_) (fun hc569 => ?_)
              · have hF := ite_t hF hc569
                refine g_iconst (v := 0) X dL_told_621 (by decide) ?_
                exact g_zret X rfl (pF_mk (some_inj hF) rfl) dL_told_622
              · have hF := ite_n hF hc569
                refine g_aload_n X dL_told_572 rfl (lv_at hl 0 rfl) ?_
                refine g_iconst (v := 5) X dL_told_573 (by decide) ?_
                obtain ⟨r574, hr574, hF⟩ := oR_some hF
                refine kx_Vi X hI (As := [.int (5 : Int32)]) (rest := []) (c_X3_count hI.c hr574) (cwV 1 X.ts gL_told_X3_count rfl rfl rfl (by decide +kernel) ⟨Nat.le_of_ble_eq_true rfl, Nat.le_of_ble_eq_true rfl⟩) rfl hl.1 rfl (Nat.le_of_ble_eq_true rfl) dL_told_574 ?_
                refine g_iload X dL_told_577 (lv_at hl 5 rfl) ?_
                refine g_iload X dL_told_579 (lv_at hl 7 rfl) ?_
                refine g_isub X dL_told_581 ?_
                refine g_icmp_ne (tgt := 621) X dL_told_582 (by decide) (fun hc582 => ?_) (fun hc582 => ?_)
                · have hF := ite_t hF hc582
                  refine g_iconst (v := 0) X dL_told_621 (by decide) ?_
                  exact g_zret X rfl (pF_mk (some_inj hF) rfl) dL_told_622
                · have hF := ite_n hF hc582
                  refine g_aload_n X dL_told_585 rfl (lv_at hl 0 rfl) ?_
                  refine g_iconst (v := 0) X dL_told_586 (by decide) ?_
                  obtain ⟨r587, hr587, hF⟩ := oR_some hF
                  refine kx_Vi X hI (As := [.int (0 : Int32)]) (rest := []) (c_X3_setting hI.c hr587) (cwV 1 X.ts gL_told_X3_setting rfl rfl rfl (by decide +kernel) ⟨Nat.le_of_ble_eq_true rfl, Nat.le_of_ble_eq_true rfl⟩) rfl hl.1 rfl (Nat.le_of_ble_eq_true rfl) dL_told_587 ?_
                  refine g_aload_n X dL_told_590 rfl (lv_at hl 1 rfl) ?_
                  refine g_iconst (v := 1) X dL_told_591 (by decide) ?_
                  refine g_iald X 108 (j := 1) (xa_c) (by first | rfl | decide) (inb_in (by decide)) dL_told_592 ?_
                  refine g_icmp_ne (tgt := 621) X dL_told_593 (by decide) (fun hc593 => ?_) (fun hc593 => ?_)
                  · have hF := ite_t hF hc593
                    refine g_iconst (v := 0) X dL_told_621 (by decide) ?_
                    exact g_zret X rfl (pF_mk (some_inj hF) rfl) dL_told_622
                  · have hF := ite_n hF hc593
                    refine g_aload_n X dL_told_596 rfl (lv_at hl 0 rfl) ?_
                    refine g_iconst (v := 1) X dL_told_597 (by decide) ?_
                    obtain ⟨r598, hr598, hF⟩ := oR_some hF
                    refine kx_Vi X hI (As := [.int (1 : Int32)]) (rest := []) (c_X3_setting hI.c hr598) (cwV 1 X.ts gL_told_X3_setting rfl rfl rfl (by decide +kernel) ⟨Nat.le_of_ble_eq_true rfl, Nat.le_of_ble_eq_true rfl⟩) rfl hl.1 rfl (Nat.le_of_ble_eq_true rfl) dL_told_598 ?_
                    refine g_aload_n X dL_told_601 rfl (lv_at hl 1 rfl) ?_
                    refine g_iconst (v := 2) X dL_told_602 (by decide) ?_
                    refine g_iald X 108 (j := 2) (xa_c) (by first | rfl | decide) (inb_in (by decide)) dL_told_603 ?_
                    refine g_icmp_ne (tgt := 621) X dL_told_604 (by decide) (fun hc604 => ?_) (fun hc604 => ?_)
                    · have hF := ite_t hF hc604
                      refine g_iconst (v := 0) X dL_told_621 (by decide) ?_
                      exact g_zret X rfl (pF_mk (some_inj hF) rfl) dL_told_622
                    · have hF := ite_n hF hc604
                      refine g_aload_n X dL_told_607 rfl (lv_at hl 0 rfl) ?_
                      refine g_iload X dL_told_608 (lv_at hl 7 rfl) ?_
                      refine g_aload_n X dL_told_610 rfl (lv_at hl 3 rfl) ?_
                      obtain ⟨r611, hr611, hF⟩ := obind hF
                      refine k_Sz X (As := [.ref (ad 0), .int a13, .ref (ad 110)]) (rest := []) (c_L_spans hI hr611) (va_cwS 3 X.ts gL_told_L_spans rfl rfl rfl (by decide +kernel) ⟨Nat.le_of_ble_eq_true rfl, Nat.le_of_ble_eq_true rfl⟩) rfl hl.1 rfl (Nat.le_of_ble_eq_true rfl) dL_told_611 (fun hz611 => ?_)
                      refine g_if_eq (tgt := 621) X dL_told_614 (by decide) (fun hc614 => ?_) (fun hc614 => ?_)
                      · have hF := ite_t hF hc614
                        refine g_iconst (v := 0) X dL_told_621 (by decide) ?_
                        exact g_zret X rfl (pF_mk (some_inj hF) rfl) dL_told_622
                      · have hF := ite_f hF hc614
                        refine g_iconst (v := 1) X dL_told_617 (by decide) ?_
                        refine g_goto (tgt := 622) X dL_told_618 (by decide) ?_
                        exact g_zret X rfl (pF_mk (some_inj hF) rfl) dL_told_622
    · have hF := ite_f hF hc295
      refine g_aload_n X dL_told_298 rfl (lv_at hl 2 rfl) ?_
      refine g_iconst (v := 4) X dL_told_299 (by decide) ?_
      refine g_iload X dL_told_300 (lv_at hl 8 rfl) ?_
      refine g_imul X dL_told_302 ?_
      obtain ⟨h303, hF⟩ := itn hF
      refine g_iald X 109 (j := ((4 : Int32) * a14).toNatClampNeg) (xa_m) (by first | rfl | decide) (inb_in h303) dL_told_303 ?_
      refine g_if_ne (tgt := 310) X dL_told_304 (by decide) (fun hc304 => ?_) (fun hc304 => ?_)
      · have hF := ite_t hF hc304
        refine g_iinc (v := a5 + 1) (lv' := [(5, _), (0, _), (1, _), (2, _), (3, _), (4, _), (6, _), (13, _), (14, _)]) X dL_told_310 hl (k := 5) rfl rfl (by decide) rfl (fun ls hl => ?_)
        refine g_iconst (v := 0) X dL_told_313 (by decide) ?_
        refine g_istore (lv' := [(15, _), (5, _), (0, _), (1, _), (2, _), (3, _), (4, _), (6, _), (13, _), (14, _)]) X dL_told_314 hl (by decide) rfl (fun ls hl => ?_)
        refine g_iconst (v := 0) X dL_told_316 (by decide) ?_
        refine g_istore (lv' := [(16, _), (15, _), (5, _), (0, _), (1, _), (2, _), (3, _), (4, _), (6, _), (13, _), (14, _)]) X dL_told_317 hl (by decide) rfl (fun ls hl => ?_)
        obtain ⟨v319, hL319, hF⟩ := obind hF
        refine w_L_told_319 X hI (fun ls hl => ?_) FU (0 : Int32) (0 : Int32) hL319 ls (lv_sub hl [3, 4, 5, 6, 7, 2, 8, 9, 10, 1, 0] rfl)
        refine g_iload X dL_told_371 (lv_at hl 8 rfl) ?_
        refine g_iconst (v := 0) X dL_told_373 (by decide) ?_
        refine g_bipush (v := 16) X dL_told_374 (by decide) ?_
        refine g_aload_n X dL_told_376 rfl (lv_at hl 1 rfl) ?_
        refine g_aload_n X dL_told_377 rfl (lv_at hl 2 rfl) ?_
        refine g_aload_n X dL_told_378 rfl (lv_at hl 3 rfl) ?_
        refine g_aload X dL_told_379 (lv_at hl 4 rfl) ?_
        obtain ⟨r381, hr381, hF⟩ := obind hF
        refine k_Sze X (As := [.int a14, .int (0 : Int32), .int (16 : Int32), .ref (ad 108), .ref (ad 109), .ref (ad 110), .ref (ad 111)]) (rest := []) (c_L_wins hI hr381) (va_cwS 7 X.ts gL_told_L_wins rfl rfl rfl (by decide +kernel) ⟨Nat.le_of_ble_eq_true rfl, Nat.le_of_ble_eq_true rfl⟩) rfl hl.1 rfl (Nat.le_of_ble_eq_true rfl) dL_told_381 (fun hz381 => ?_)
        refine g_istore (lv' := [(16, _), (0, _), (1, _), (2, _), (3, _), (4, _), (5, _), (6, _), (13, _), (14, _), (15, _)]) X dL_told_384 hl (by decide) rfl (fun ls hl => ?_)
        refine g_iload X dL_told_386 (lv_at hl 8 rfl) ?_
        refine g_iload X dL_told_388 (lv_at hl 0 rfl) ?_
        obtain ⟨v390, hR390, hF⟩ := obind hF
        refine g_cut (nM := 17) [(0, .ref (ad 0)), (1, .ref (ad 108)), (2, .ref (ad 109)), (3, .ref (ad 110)), (4, .ref (ad 111)), (5, .int (a5 + 1)), (6, .int a6), (14, .int a14), (15, .int v319), (16, .int r381.1)] (r381.2) 398 [.int v390, .int a13] (fun ls hl => ?_) (fun J390 => ?_)
        · refine g_iadd X dL_told_398 ?_
          refine g_istore (lv' := [(13, _), (0, _), (1, _), (2, _), (3, _), (4, _), (5, _), (6, _), (14, _), (15, _), (16, _)]) X dL_told_399 hl (by decide) rfl (fun ls hl => ?_)
          refine g_aload_n X dL_told_401 rfl (lv_at hl 1 rfl) ?_
          refine g_iload X dL_told_402 (lv_at hl 8 rfl) ?_
          refine g_iconst (v := 0) X dL_told_404 (by decide) ?_
          obtain ⟨r405, hr405, hF⟩ := oR_some hF
          refine kx_Vi X hI (As := [.int a14, .int (0 : Int32)]) (rest := []) (c_X3_mover hI.c hr405) (cwV 2 X.ts gL_told_X3_mover rfl rfl rfl (by decide +kernel) ⟨Nat.le_of_ble_eq_true rfl, Nat.le_of_ble_eq_true rfl⟩) rfl hl.1 rfl (Nat.le_of_ble_eq_true rfl) dL_told_405 ?_
          refine g_aload_n X dL_told_408 rfl (lv_at hl 3 rfl) ?_
          refine g_iconst (v := 4) X dL_told_409 (by decide) ?_
          refine g_iload X dL_told_410 (lv_at hl 8 rfl) ?_
          refine g_imul X dL_told_412 ?_
          refine g_iconst (v := 1) X dL_told_413 (by decide) ?_
          refine g_iadd X dL_told_414 ?_
          obtain ⟨h415, hF⟩ := itn hF
          refine g_iald X 109 (j := (((4 : Int32) * a14) + (1 : Int32)).toNatClampNeg) (xa_m) (by first | rfl | decide) (inb_in h415) dL_told_415 ?_
          refine g_icmp_ne (tgt := 512) X dL_told_416 (by decide) (fun hc416 => ?_) (fun hc416 => ?_)
          · have hF := ite_t hF hc416
            refine g_iconst (v := 0) X dL_told_512 (by decide) ?_
            exact g_zret X rfl (pF_mk (some_inj hF) rfl) dL_told_513
          · have hF := ite_n hF hc416
            refine g_aload_n X dL_told_419 rfl (lv_at hl 1 rfl) ?_
            refine g_iload X dL_told_420 (lv_at hl 8 rfl) ?_
            refine g_iconst (v := 1) X dL_told_422 (by decide) ?_
            obtain ⟨r423, hr423, hF⟩ := oR_some hF
            refine kx_Vi X hI (As := [.int a14, .int (1 : Int32)]) (rest := []) (c_X3_mover hI.c hr423) (cwV 2 X.ts gL_told_X3_mover rfl rfl rfl (by decide +kernel) ⟨Nat.le_of_ble_eq_true rfl, Nat.le_of_ble_eq_true rfl⟩) rfl hl.1 rfl (Nat.le_of_ble_eq_true rfl) dL_told_423 ?_
            refine g_aload_n X dL_told_426 rfl (lv_at hl 3 rfl) ?_
            refine g_iconst (v := 4) X dL_told_427 (by decide) ?_
            refine g_iload X dL_told_428 (lv_at hl 8 rfl) ?_
            refine g_imul X dL_told_430 ?_
            refine g_iconst (v := 2) X dL_told_431 (by decide) ?_
            refine g_iadd X dL_told_432 ?_
            obtain ⟨h433, hF⟩ := itn hF
            refine g_iald X 109 (j := (((4 : Int32) * a14) + (2 : Int32)).toNatClampNeg) (xa_m) (by first | rfl | decide) (inb_in h433) dL_told_433 ?_
            refine g_icmp_ne (tgt := 512) X dL_told_434 (by decide) (fun hc434 => ?_) (fun hc434 => ?_)
            · have hF := ite_t hF hc434
              refine g_iconst (v := 0) X dL_told_512 (by decide) ?_
              exact g_zret X rfl (pF_mk (some_inj hF) rfl) dL_told_513
            · have hF := ite_n hF hc434
              refine g_aload_n X dL_told_437 rfl (lv_at hl 1 rfl) ?_
              refine g_iload X dL_told_438 (lv_at hl 8 rfl) ?_
              refine g_iconst (v := 2) X dL_told_440 (by decide) ?_
              obtain ⟨r441, hr441, hF⟩ := oR_some hF
              refine kx_Vi X hI (As := [.int a14, .int (2 : Int32)]) (rest := []) (c_X3_mover hI.c hr441) (cwV 2 X.ts gL_told_X3_mover rfl rfl rfl (by decide +kernel) ⟨Nat.le_of_ble_eq_true rfl, Nat.le_of_ble_eq_true rfl⟩) rfl hl.1 rfl (Nat.le_of_ble_eq_true rfl) dL_told_441 ?_
              refine g_iload X dL_told_444 (lv_at hl 9 rfl) ?_
              refine g_icmp_ne (tgt := 512) X dL_told_446 (by decide) (fun hc446 => ?_) (fun hc446 => ?_)
              · have hF := ite_t hF hc446
                refine g_iconst (v := 0) X dL_told_512 (by decide) ?_
                exact g_zret X rfl (pF_mk (some_inj hF) rfl) dL_told_513
              · have hF := ite_n hF hc446
                refine g_aload_n X dL_told_449 rfl (lv_at hl 1 rfl) ?_
                refine g_iload X dL_told_450 (lv_at hl 8 rfl) ?_
                refine g_bipush (v := 6) X dL_told_452 (by decide) ?_
                obtain ⟨r454, hr454, hF⟩ := oR_some hF
                refine kx_Vi X hI (As := [.int a14, .int (6 : Int32)]) (rest := []) (c_X3_mover hI.c hr454) (cwV 2 X.ts gL_told_X3_mover rfl rfl rfl (by decide +kernel) ⟨Nat.le_of_ble_eq_true rfl, Nat.le_of_ble_eq_true rfl⟩) rfl hl.1 rfl (Nat.le_of_ble_eq_true rfl) dL_told_454 ?_
                refine g_aload_n X dL_told_457 rfl (lv_at hl 3 rfl) ?_
                refine g_iconst (v := 4) X dL_told_458 (by decide) ?_
                refine g_iload X dL_told_459 (lv_at hl 8 rfl) ?_
                refine g_imul X dL_told_461 ?_
                refine g_iconst (v := 3) X dL_told_462 (by decide) ?_
                refine g_iadd X dL_told_463 ?_
                obtain ⟨h464, hF⟩ := itn hF
                refine g_iald X 109 (j := (((4 : Int32) * a14) + (3 : Int32)).toNatClampNeg) (xa_m) (by first | rfl | decide) (inb_in h464) dL_told_464 ?_
                refine g_icmp_ne (tgt := 512) X dL_told_465 (by decide) (fun hc465 => ?_) (fun hc465 => ?_)
                · have hF := ite_t hF hc465
                  refine g_iconst (v := 0) X dL_told_512 (by decide) ?_
                  exact g_zret X rfl (pF_mk (some_inj hF) rfl) dL_told_513
                · have hF := ite_n hF hc465
                  refine g_aload_n X dL_told_468 rfl (lv_at hl 4 rfl) ?_
                  refine g_iconst (v := 4) X dL_told_469 (by decide) ?_
                  refine g_iload X dL_told_470 (lv_at hl 8 rfl) ?_
                  refine g_imul X dL_told_472 ?_
                  obtain ⟨h473, hF⟩ := itn hF
                  refine g_lald X 110 (j := ((4 : Int32) * a14).toNatClampNeg) (xa_f) (by first | rfl | decide) (inb_in h473) dL_told_473 ?_
                  refine g_iload X dL_told_474 (lv_at hl 10 rfl) ?_
                  obtain ⟨v476, hR476, hF⟩ := obind hF
                  refine g_cut (nM := 17) [(0, .ref (ad 0)), (1, .ref (ad 108)), (2, .ref (ad 109)), (3, .ref (ad 110)), (4, .ref (ad 111)), (5, .int (a5 + 1)), (6, .int a6), (13, .int (a13 + v390)), (14, .int a14)] (r381.2) 491 [.long v476, .long (r381.2.2.2 0 (((4 : Int32) * a14).toNatClampNeg))] (fun ls hl => ?_) (fun J476 => ?_)
                  · refine g_aload_n X dL_told_491 rfl (lv_at hl 0 rfl) ?_
                    refine g_iload X dL_told_492 (lv_at hl 8 rfl) ?_
                    refine g_iconst (v := 4) X dL_told_494 (by decide) ?_
                    obtain ⟨r495, hr495, hF⟩ := oR_some hF
                    refine kx_Vi X hI (As := [.int a14, .int (4 : Int32)]) (rest := [.long v476, .long (r381.2.2.2 0 (((4 : Int32) * a14).toNatClampNeg))]) (c_X3_mover hI.c hr495) (cwV 2 X.ts gL_told_X3_mover rfl rfl rfl (by decide +kernel) ⟨Nat.le_of_ble_eq_true rfl, Nat.le_of_ble_eq_true rfl⟩) rfl hl.1 rfl (Nat.le_of_ble_eq_true rfl) dL_told_495 ?_
                    refine g_aload_n X dL_told_498 rfl (lv_at hl 0 rfl) ?_
                    refine g_iload X dL_told_499 (lv_at hl 8 rfl) ?_
                    refine g_iconst (v := 5) X dL_told_501 (by decide) ?_
                    obtain ⟨r502, hr502, hF⟩ := oR_some hF
                    refine kx_Vi X hI (As := [.int a14, .int (5 : Int32)]) (rest := [.int r495, .long v476, .long (r381.2.2.2 0 (((4 : Int32) * a14).toNatClampNeg))]) (c_X3_mover hI.c hr502) (cwV 2 X.ts gL_told_X3_mover rfl rfl rfl (by decide +kernel) ⟨Nat.le_of_ble_eq_true rfl, Nat.le_of_ble_eq_true rfl⟩) rfl hl.1 rfl (Nat.le_of_ble_eq_true rfl) dL_told_502 ?_
                    refine g_aload_n X dL_told_505 rfl (lv_at hl 1 rfl) ?_
                    obtain ⟨r506, hr506, hF⟩ := obind hF
                    refine k_Sz X (As := [.long (r381.2.2.2 0 (((4 : Int32) * a14).toNatClampNeg)), .long v476, .int r495, .int r502, .ref (ad 108)]) (rest := []) (c_L_same hI hr506) (va_cwS 5 X.ts gL_told_L_same rfl rfl rfl (by decide +kernel) ⟨Nat.le_of_ble_eq_true rfl, Nat.le_of_ble_eq_true rfl⟩) rfl hl.1 rfl (Nat.le_of_ble_eq_true rfl) dL_told_506 (fun hz506 => ?_)
                    refine g_if_ne (tgt := 514) X dL_told_509 (by decide) (fun hc509 => ?_) (fun hc509 => ?_)
                    · have hF := ite_t hF hc509
                      refine g_iinc (v := a14 + 1) (lv' := [(14, _), (0, _), (1, _), (2, _), (3, _), (4, _), (5, _), (6, _), (13, _)]) X dL_told_514 hl (k := 8) rfl rfl (by decide) rfl (fun ls hl => ?_)
                      refine g_goto (tgt := 291) X dL_told_517 (by decide) ?_
                      exact ih (a5 + 1) (a13 + v390) (a14 + 1) r381.2 hF ls (lv_sub hl [1, 2, 3, 4, 5, 6, 7, 8, 0] rfl)
                    · have hF := ite_n hF hc509
                      refine g_iconst (v := 0) X dL_told_512 (by decide) ?_
                      exact g_zret X rfl (pF_mk (some_inj hF) rfl) dL_told_513
                  · refine g_if_eq (tgt := 490) X dL_told_476 (by decide) (fun hc476 => ?_) (fun hc476 => ?_)
                    · have hR476 := ite_t hR476 hc476
                      refine g_lconst (v := 0) X dL_told_490 (by decide) ?_
                      have e476 := some_inj hR476
                      subst e476
                      exact J476 ls (lv_sub hl [1, 2, 3, 4, 5, 6, 7, 0, 8] rfl)
                    · have hR476 := ite_f hR476 hc476
                      refine g_aload_n X dL_told_479 rfl (lv_at hl 4 rfl) ?_
                      refine g_iconst (v := 4) X dL_told_480 (by decide) ?_
                      refine g_iload X dL_told_481 (lv_at hl 8 rfl) ?_
                      refine g_imul X dL_told_483 ?_
                      refine g_iconst (v := 1) X dL_told_484 (by decide) ?_
                      refine g_iadd X dL_told_485 ?_
                      obtain ⟨h486, hR476⟩ := itn hR476
                      refine g_lald X 110 (j := (((4 : Int32) * a14) + (1 : Int32)).toNatClampNeg) (xa_f) (by first | rfl | decide) (inb_in h486) dL_told_486 ?_
                      refine g_goto (tgt := 491) X dL_told_487 (by decide) ?_
                      have e476 := some_inj hR476
                      subst e476
                      exact J476 ls (lv_sub hl [1, 2, 3, 4, 5, 6, 7, 0, 8] rfl)
        · refine g_if_eq (tgt := 397) X dL_told_390 (by decide) (fun hc390 => ?_) (fun hc390 => ?_)
          · have hR390 := ite_t hR390 hc390
            refine g_iconst (v := 0) X dL_told_397 (by decide) ?_
            have e390 := some_inj hR390
            subst e390
            exact J390 ls (lv_sub hl [1, 2, 3, 4, 5, 6, 7, 9, 10, 0] rfl)
          · have hR390 := ite_f hR390 hc390
            refine g_iconst (v := 1) X dL_told_393 (by decide) ?_
            refine g_goto (tgt := 398) X dL_told_394 (by decide) ?_
            have e390 := some_inj hR390
            subst e390
            exact J390 ls (lv_sub hl [1, 2, 3, 4, 5, 6, 7, 9, 10, 0] rfl)
      · have hF := ite_n hF hc304
        refine g_goto (tgt := 514) X dL_told_307 (by decide) ?_
        refine g_iinc (v := a14 + 1) (lv' := [(14, _), (0, _), (1, _), (2, _), (3, _), (4, _), (5, _), (6, _), (13, _)]) X dL_told_514 hl (k := 8) rfl rfl (by decide) rfl (fun ls hl => ?_)
        refine g_goto (tgt := 291) X dL_told_517 (by decide) ?_
        exact ih a5 a13 (a14 + 1) σ hF ls (lv_sub hl [1, 2, 3, 4, 5, 6, 7, 8, 0] rfl)
def L_L_told_21 : Nat → Int32 → Int32 → Int64 → Int64 → Int32 → Int32 → Int32 → LM → Option (Int32 × LM)
  | 0, _, _, _, _, _, _, _, _ => none
  | fu + 1, a5, a6, a7, a9, a11, a12, a13, σ => (if (16 : Int32) ≤ a13 then oR (F_X3_nextTurn (0 : Int32) σ.1) (fun r237 => oR (F_X3_nextTurn (1 : Int32) σ.1) (fun r242 => Option.bind (F_L_same a7 a9 r237 r242 σ) (fun r246 => (if r246 = 0 then some ((0 : Int32), σ) else oR (F_X3_nextTurn (2 : Int32) σ.1) (fun r254 => (if ¬ r254 = a11 then some ((0 : Int32), σ) else oR (F_X3_nextTurn (3 : Int32) σ.1) (fun r264 => (if r264 = a12 then Option.bind (F_L_turns (1 : Int32) (0 : Int32) σ) (fun r281 => L_L_told_291 a6 FU a5 (0 : Int32) (0 : Int32) r281.2) else some ((0 : Int32), σ))))))))) else Option.bind (F_L_turns a13 (0 : Int32) σ) (fun r36 => oR (F_X3_contest a13 (0 : Int32) r36.2.1) (fun r44 => (if ¬ (lg_cmp r44.toInt64 (r36.2.2.2 1 0)) = 0 then some ((0 : Int32), r36.2) else oR (F_X3_contest a13 (4 : Int32) r36.2.1) (fun r60 => (if ¬ (lg_cmp r60.toInt64 (r36.2.2.2 1 1)) = 0 then some ((0 : Int32), r36.2) else oR (F_X3_contest a13 (2 : Int32) r36.2.1) (fun r84 => oR (F_X3_contest a13 (3 : Int32) r36.2.1) (fun r91 => Option.bind (F_L_same (r36.2.2.2 1 2) (r36.2.2.2 1 3) r84 r91 r36.2) (fun r95 => (if r95 = 0 then some ((0 : Int32), r36.2) else oR (F_X3_contest a13 (5 : Int32) r36.2.1) (fun r105 => if inb ((3 : Int32) + a13) 19 then ((if r105 = (r36.2.2.1 0 (((3 : Int32) + a13).toNatClampNeg)) then if inb ((3 : Int32) + a13) 19 then ((Option.bind (if 0 ≤ (lg_cmp (r36.2.2.2 1 1) (0 : Int64)) then (Option.bind (if 0 ≤ a12 then some (((r36.2.2.2 1 2) * a9) - (a7 * (r36.2.2.2 1 3))) else some (-1 : Int64)) (fun v144 : Int64 => (Option.bind (if 0 ≤ (lg_cmp v144 (0 : Int64)) then (if ¬ (lg_cmp v144 (0 : Int64)) = 0 then some a11 else some (a11 + (1 : Int32))) else some (1 : Int32)) (fun v174 : Int32 => (if (lg_cmp v144 (0 : Int64)) < 0 then some (r36.2.2.2 1 2, r36.2.2.2 1 3, v174, a13) else some (a7, a9, v174, a12)))))) else some (a7, a9, a11, a12)) (fun v136 : Int64 × Int64 × Int32 × Int32 => L_L_told_21  fu a5 (a6 + (r36.2.2.1 0 (((3 : Int32) + a13).toNatClampNeg))) v136.1 v136.2.1 v136.2.2.1 v136.2.2.2 (a13 + 1) r36.2))) else none else some ((0 : Int32), r36.2))) else none)))))))))))
set_option maxHeartbeats 4000000 in
set_option maxRecDepth 100000 in
theorem w_L_told_21 {D : va_G} {ay : Nat → ClassId} {ad : Nat → Nat} {p : Program} {l : Launch} {e : Env} {s : State} {m : MethodId} {args : Array Value} {below : List Frame} {meth : Method} {c : Code} {res : Int32 × LM} (X : CX D ay p s m args meth c cL_told 17 RL (some .boolean) wsL_told) (hI : axOK ad) : ∀ (fu : Nat) (a5 : Int32) (a6 : Int32) (a7 : Int64) (a9 : Int64) (a11 : Int32) (a12 : Int32) (a13 : Int32) (σ : LM), L_L_told_21  fu a5 a6 a7 a9 a11 a12 a13 σ = some res → ∀ ls : Array Slot, lv_has ls 17 [(0, .ref (ad 0)), (1, .ref (ad 108)), (2, .ref (ad 109)), (3, .ref (ad 110)), (4, .ref (ad 111)), (5, .int a5), (6, .int a6), (7, .long a7), (9, .long a9), (11, .int a11), (12, .int a12), (13, .int a13)] → GW D (wX ay ad) (AX ad) p l e ({ frames := 6, cells := 0, slots := 0, locals := 142 } : Room) s m args below meth c (MQ below (va_Qi (pF res) (fun τ => PP D ay (wX ay ad τ)) (AX ad)) args s 0 0 (AX ad)) σ (F0 m 21 ls []) := by
  intro fu
  induction fu with
  | zero =>
    intro a5 a6 a7 a9 a11 a12 a13 σ hF ls hl
    rw [L_L_told_21] at hF
    cases hF
  | succ fu ih =>
    intro a5 a6 a7 a9 a11 a12 a13 σ hF ls hl
    rw [L_L_told_21] at hF
    refine g_iload X dL_told_21 (lv_at hl 11 rfl) ?_
    refine g_bipush (v := 16) X dL_told_23 (by decide) ?_
    refine g_icmp_ge (tgt := 231) X dL_told_25 (by decide) (fun hc25 => ?_) (fun hc25 => ?_)
    · have hF := ite_t hF hc25
      refine g_lload X dL_told_231 (lv_at hl 7 rfl) ?_
      refine g_lload X dL_told_233 (lv_at hl 8 rfl) ?_
      refine g_aload_n X dL_told_235 rfl (lv_at hl 0 rfl) ?_
      refine g_iconst (v := 0) X dL_told_236 (by decide) ?_
      obtain ⟨r237, hr237, hF⟩ := oR_some hF
      refine kx_Vi X hI (As := [.int (0 : Int32)]) (rest := [.long a9, .long a7]) (c_X3_nextTurn hI.c hr237) (cwV 1 X.ts gL_told_X3_nextTurn rfl rfl rfl (by decide +kernel) ⟨Nat.le_of_ble_eq_true rfl, Nat.le_of_ble_eq_true rfl⟩) rfl hl.1 rfl (Nat.le_of_ble_eq_true rfl) dL_told_237 ?_
      refine g_aload_n X dL_told_240 rfl (lv_at hl 0 rfl) ?_
      refine g_iconst (v := 1) X dL_told_241 (by decide) ?_
      obtain ⟨r242, hr242, hF⟩ := oR_some hF
      refine kx_Vi X hI (As := [.int (1 : Int32)]) (rest := [.int r237, .long a9, .long a7]) (c_X3_nextTurn hI.c hr242) (cwV 1 X.ts gL_told_X3_nextTurn rfl rfl rfl (by decide +kernel) ⟨Nat.le_of_ble_eq_true rfl, Nat.le_of_ble_eq_true rfl⟩) rfl hl.1 rfl (Nat.le_of_ble_eq_true rfl) dL_told_242 ?_
      refine g_aload_n X dL_told_245 rfl (lv_at hl 1 rfl) ?_
      obtain ⟨r246, hr246, hF⟩ := obind hF
      refine k_Sz X (As := [.long a7, .long a9, .int r237, .int r242, .ref (ad 108)]) (rest := []) (c_L_same hI hr246) (va_cwS 5 X.ts gL_told_L_same rfl rfl rfl (by decide +kernel) ⟨Nat.le_of_ble_eq_true rfl, Nat.le_of_ble_eq_true rfl⟩) rfl hl.1 rfl (Nat.le_of_ble_eq_true rfl) dL_told_246 (fun hz246 => ?_)
      refine g_if_eq (tgt := 272) X dL_told_249 (by decide) (fun hc249 => ?_) (fun hc249 => ?_)
      · have hF := ite_t hF hc249
        refine g_iconst (v := 0) X dL_told_272 (by decide) ?_
        exact g_zret X rfl (pF_mk (some_inj hF) rfl) dL_told_273
      · have hF := ite_f hF hc249
        refine g_aload_n X dL_told_252 rfl (lv_at hl 0 rfl) ?_
        refine g_iconst (v := 2) X dL_told_253 (by decide) ?_
        obtain ⟨r254, hr254, hF⟩ := oR_some hF
        refine kx_Vi X hI (As := [.int (2 : Int32)]) (rest := []) (c_X3_nextTurn hI.c hr254) (cwV 1 X.ts gL_told_X3_nextTurn rfl rfl rfl (by decide +kernel) ⟨Nat.le_of_ble_eq_true rfl, Nat.le_of_ble_eq_true rfl⟩) rfl hl.1 rfl (Nat.le_of_ble_eq_true rfl) dL_told_254 ?_
        refine g_iload X dL_told_257 (lv_at hl 9 rfl) ?_
        refine g_icmp_ne (tgt := 272) X dL_told_259 (by decide) (fun hc259 => ?_) (fun hc259 => ?_)
        · have hF := ite_t hF hc259
          refine g_iconst (v := 0) X dL_told_272 (by decide) ?_
          exact g_zret X rfl (pF_mk (some_inj hF) rfl) dL_told_273
        · have hF := ite_n hF hc259
          refine g_aload_n X dL_told_262 rfl (lv_at hl 0 rfl) ?_
          refine g_iconst (v := 3) X dL_told_263 (by decide) ?_
          obtain ⟨r264, hr264, hF⟩ := oR_some hF
          refine kx_Vi X hI (As := [.int (3 : Int32)]) (rest := []) (c_X3_nextTurn hI.c hr264) (cwV 1 X.ts gL_told_X3_nextTurn rfl rfl rfl (by decide +kernel) ⟨Nat.le_of_ble_eq_true rfl, Nat.le_of_ble_eq_true rfl⟩) rfl hl.1 rfl (Nat.le_of_ble_eq_true rfl) dL_told_264 ?_
          refine g_iload X dL_told_267 (lv_at hl 10 rfl) ?_
          refine g_icmp_eq (tgt := 274) X dL_told_269 (by decide) (fun hc269 => ?_) (fun hc269 => ?_)
          · have hF := ite_t hF hc269
            refine g_iconst (v := 1) X dL_told_274 (by decide) ?_
            refine g_iconst (v := 0) X dL_told_275 (by decide) ?_
            refine g_aload_n X dL_told_276 rfl (lv_at hl 1 rfl) ?_
            refine g_aload_n X dL_told_277 rfl (lv_at hl 2 rfl) ?_
            refine g_aload_n X dL_told_278 rfl (lv_at hl 3 rfl) ?_
            refine g_aload X dL_told_279 (lv_at hl 4 rfl) ?_
            obtain ⟨r281, hr281, hF⟩ := obind hF
            refine k_Sie X (As := [.int (1 : Int32), .int (0 : Int32), .ref (ad 108), .ref (ad 109), .ref (ad 110), .ref (ad 111)]) (rest := []) (c_L_turns hI hr281) (va_cwS 6 X.ts gL_told_L_turns rfl rfl rfl (by decide +kernel) ⟨Nat.le_of_ble_eq_true rfl, Nat.le_of_ble_eq_true rfl⟩) rfl hl.1 rfl (Nat.le_of_ble_eq_true rfl) dL_told_281 ?_
            refine g_pop X dL_told_284 rfl ?_
            refine g_iconst (v := 0) X dL_told_285 (by decide) ?_
            refine g_istore (lv' := [(13, _), (0, _), (1, _), (2, _), (3, _), (4, _), (5, _), (6, _), (7, _), (9, _), (11, _), (12, _)]) X dL_told_286 hl (by decide) rfl (fun ls hl => ?_)
            refine g_iconst (v := 0) X dL_told_288 (by decide) ?_
            refine g_istore (lv' := [(14, _), (13, _), (0, _), (1, _), (2, _), (3, _), (4, _), (5, _), (6, _), (7, _), (9, _), (11, _), (12, _)]) X dL_told_289 hl (by decide) rfl (fun ls hl => ?_)
            exact w_L_told_291 X hI FU a5 (0 : Int32) (0 : Int32) r281.2 hF ls (lv_sub hl [2, 3, 4, 5, 6, 7, 8, 1, 0] rfl)
          · have hF := ite_f hF hc269
            refine g_iconst (v := 0) X dL_told_272 (by decide) ?_
            exact g_zret X rfl (pF_mk (some_inj hF) rfl) dL_told_273
    · have hF := ite_f hF hc25
      refine g_iload X dL_told_28 (lv_at hl 11 rfl) ?_
      refine g_iconst (v := 0) X dL_told_30 (by decide) ?_
      refine g_aload_n X dL_told_31 rfl (lv_at hl 1 rfl) ?_
      refine g_aload_n X dL_told_32 rfl (lv_at hl 2 rfl) ?_
      refine g_aload_n X dL_told_33 rfl (lv_at hl 3 rfl) ?_
      refine g_aload X dL_told_34 (lv_at hl 4 rfl) ?_
      obtain ⟨r36, hr36, hF⟩ := obind hF
      refine k_Sie X (As := [.int a13, .int (0 : Int32), .ref (ad 108), .ref (ad 109), .ref (ad 110), .ref (ad 111)]) (rest := []) (c_L_turns hI hr36) (va_cwS 6 X.ts gL_told_L_turns rfl rfl rfl (by decide +kernel) ⟨Nat.le_of_ble_eq_true rfl, Nat.le_of_ble_eq_true rfl⟩) rfl hl.1 rfl (Nat.le_of_ble_eq_true rfl) dL_told_36 ?_
      refine g_pop X dL_told_39 rfl ?_
      refine g_aload_n X dL_told_40 rfl (lv_at hl 0 rfl) ?_
      refine g_iload X dL_told_41 (lv_at hl 11 rfl) ?_
      refine g_iconst (v := 0) X dL_told_43 (by decide) ?_
      obtain ⟨r44, hr44, hF⟩ := oR_some hF
      refine kx_Vi X hI (As := [.int a13, .int (0 : Int32)]) (rest := []) (c_X3_contest hI.c hr44) (cwV 2 X.ts gL_told_X3_contest rfl rfl rfl (by decide +kernel) ⟨Nat.le_of_ble_eq_true rfl, Nat.le_of_ble_eq_true rfl⟩) rfl hl.1 rfl (Nat.le_of_ble_eq_true rfl) dL_told_44 ?_
      refine g_i2l X dL_told_47 ?_
      refine g_aload X dL_told_48 (lv_at hl 4 rfl) ?_
      refine g_iconst (v := 0) X dL_told_50 (by decide) ?_
      refine g_lald X 111 (j := 0) (xa_g) (by first | rfl | decide) (inb_in (by decide)) dL_told_51 ?_
      refine g_lcmp X dL_told_52 ?_
      refine g_if_ne (tgt := 117) X dL_told_53 (by decide) (fun hc53 => ?_) (fun hc53 => ?_)
      · have hF := ite_t hF hc53
        refine g_iconst (v := 0) X dL_told_117 (by decide) ?_
        exact g_zret X rfl (pF_mk (some_inj hF) rfl) dL_told_118
      · have hF := ite_n hF hc53
        refine g_aload_n X dL_told_56 rfl (lv_at hl 0 rfl) ?_
        refine g_iload X dL_told_57 (lv_at hl 11 rfl) ?_
        refine g_iconst (v := 4) X dL_told_59 (by decide) ?_
        obtain ⟨r60, hr60, hF⟩ := oR_some hF
        refine kx_Vi X hI (As := [.int a13, .int (4 : Int32)]) (rest := []) (c_X3_contest hI.c hr60) (cwV 2 X.ts gL_told_X3_contest rfl rfl rfl (by decide +kernel) ⟨Nat.le_of_ble_eq_true rfl, Nat.le_of_ble_eq_true rfl⟩) rfl hl.1 rfl (Nat.le_of_ble_eq_true rfl) dL_told_60 ?_
        refine g_i2l X dL_told_63 ?_
        refine g_aload X dL_told_64 (lv_at hl 4 rfl) ?_
        refine g_iconst (v := 1) X dL_told_66 (by decide) ?_
        refine g_lald X 111 (j := 1) (xa_g) (by first | rfl | decide) (inb_in (by decide)) dL_told_67 ?_
        refine g_lcmp X dL_told_68 ?_
        refine g_if_ne (tgt := 117) X dL_told_69 (by decide) (fun hc69 => ?_) (fun hc69 => ?_)
        · have hF := ite_t hF hc69
          refine g_iconst (v := 0) X dL_told_117 (by decide) ?_
          exact g_zret X rfl (pF_mk (some_inj hF) rfl) dL_told_118
        · have hF := ite_n hF hc69
          refine g_aload X dL_told_72 (lv_at hl 4 rfl) ?_
          refine g_iconst (v := 2) X dL_told_74 (by decide) ?_
          refine g_lald X 111 (j := 2) (xa_g) (by first | rfl | decide) (inb_in (by decide)) dL_told_75 ?_
          refine g_aload X dL_told_76 (lv_at hl 4 rfl) ?_
          refine g_iconst (v := 3) X dL_told_78 (by decide) ?_
          refine g_lald X 111 (j := 3) (xa_g) (by first | rfl | decide) (inb_in (by decide)) dL_told_79 ?_
          refine g_aload_n X dL_told_80 rfl (lv_at hl 0 rfl) ?_
          refine g_iload X dL_told_81 (lv_at hl 11 rfl) ?_
          refine g_iconst (v := 2) X dL_told_83 (by decide) ?_
          obtain ⟨r84, hr84, hF⟩ := oR_some hF
          refine kx_Vi X hI (As := [.int a13, .int (2 : Int32)]) (rest := [.long (r36.2.2.2 1 3), .long (r36.2.2.2 1 2)]) (c_X3_contest hI.c hr84) (cwV 2 X.ts gL_told_X3_contest rfl rfl rfl (by decide +kernel) ⟨Nat.le_of_ble_eq_true rfl, Nat.le_of_ble_eq_true rfl⟩) rfl hl.1 rfl (Nat.le_of_ble_eq_true rfl) dL_told_84 ?_
          refine g_aload_n X dL_told_87 rfl (lv_at hl 0 rfl) ?_
          refine g_iload X dL_told_88 (lv_at hl 11 rfl) ?_
          refine g_iconst (v := 3) X dL_told_90 (by decide) ?_
          obtain ⟨r91, hr91, hF⟩ := oR_some hF
          refine kx_Vi X hI (As := [.int a13, .int (3 : Int32)]) (rest := [.int r84, .long (r36.2.2.2 1 3), .long (r36.2.2.2 1 2)]) (c_X3_contest hI.c hr91) (cwV 2 X.ts gL_told_X3_contest rfl rfl rfl (by decide +kernel) ⟨Nat.le_of_ble_eq_true rfl, Nat.le_of_ble_eq_true rfl⟩) rfl hl.1 rfl (Nat.le_of_ble_eq_true rfl) dL_told_91 ?_
          refine g_aload_n X dL_told_94 rfl (lv_at hl 1 rfl) ?_
          obtain ⟨r95, hr95, hF⟩ := obind hF
          refine k_Sz X (As := [.long (r36.2.2.2 1 2), .long (r36.2.2.2 1 3), .int r84, .int r91, .ref (ad 108)]) (rest := []) (c_L_same hI hr95) (va_cwS 5 X.ts gL_told_L_same rfl rfl rfl (by decide +kernel) ⟨Nat.le_of_ble_eq_true rfl, Nat.le_of_ble_eq_true rfl⟩) rfl hl.1 rfl (Nat.le_of_ble_eq_true rfl) dL_told_95 (fun hz95 => ?_)
          refine g_if_eq (tgt := 117) X dL_told_98 (by decide) (fun hc98 => ?_) (fun hc98 => ?_)
          · have hF := ite_t hF hc98
            refine g_iconst (v := 0) X dL_told_117 (by decide) ?_
            exact g_zret X rfl (pF_mk (some_inj hF) rfl) dL_told_118
          · have hF := ite_f hF hc98
            refine g_aload_n X dL_told_101 rfl (lv_at hl 0 rfl) ?_
            refine g_iload X dL_told_102 (lv_at hl 11 rfl) ?_
            refine g_iconst (v := 5) X dL_told_104 (by decide) ?_
            obtain ⟨r105, hr105, hF⟩ := oR_some hF
            refine kx_Vi X hI (As := [.int a13, .int (5 : Int32)]) (rest := []) (c_X3_contest hI.c hr105) (cwV 2 X.ts gL_told_X3_contest rfl rfl rfl (by decide +kernel) ⟨Nat.le_of_ble_eq_true rfl, Nat.le_of_ble_eq_true rfl⟩) rfl hl.1 rfl (Nat.le_of_ble_eq_true rfl) dL_told_105 ?_
            refine g_aload_n X dL_told_108 rfl (lv_at hl 1 rfl) ?_
            refine g_iconst (v := 3) X dL_told_109 (by decide) ?_
            refine g_iload X dL_told_110 (lv_at hl 11 rfl) ?_
            refine g_iadd X dL_told_112 ?_
            obtain ⟨h113, hF⟩ := itn hF
            refine g_iald X 108 (j := ((3 : Int32) + a13).toNatClampNeg) (xa_c) (by first | rfl | decide) (inb_in h113) dL_told_113 ?_
            refine g_icmp_eq (tgt := 119) X dL_told_114 (by decide) (fun hc114 => ?_) (fun hc114 => ?_)
            · have hF := ite_t hF hc114
              refine g_iload X dL_told_119 (lv_at hl 6 rfl) ?_
              refine g_aload_n X dL_told_121 rfl (lv_at hl 1 rfl) ?_
              refine g_iconst (v := 3) X dL_told_122 (by decide) ?_
              refine g_iload X dL_told_123 (lv_at hl 11 rfl) ?_
              refine g_iadd X dL_told_125 ?_
              obtain ⟨h126, hF⟩ := itn hF
              refine g_iald X 108 (j := ((3 : Int32) + a13).toNatClampNeg) (xa_c) (by first | rfl | decide) (inb_in h126) dL_told_126 ?_
              refine g_iadd X dL_told_127 ?_
              refine g_istore (lv' := [(6, _), (0, _), (1, _), (2, _), (3, _), (4, _), (5, _), (7, _), (9, _), (11, _), (12, _), (13, _)]) X dL_told_128 hl (by decide) rfl (fun ls hl => ?_)
              refine g_aload X dL_told_130 (lv_at hl 5 rfl) ?_
              refine g_iconst (v := 1) X dL_told_132 (by decide) ?_
              refine g_lald X 111 (j := 1) (xa_g) (by first | rfl | decide) (inb_in (by decide)) dL_told_133 ?_
              refine g_lconst (v := 0) X dL_told_134 (by decide) ?_
              refine g_lcmp X dL_told_135 ?_
              obtain ⟨v136, hR136, hF⟩ := obind hF
              refine g_cut (nM := 17) [(0, .ref (ad 0)), (1, .ref (ad 108)), (2, .ref (ad 109)), (3, .ref (ad 110)), (4, .ref (ad 111)), (5, .int a5), (6, .int (a6 + (r36.2.2.1 0 (((3 : Int32) + a13).toNatClampNeg)))), (7, .long v136.1), (9, .long v136.2.1), (11, .int v136.2.2.1), (12, .int v136.2.2.2), (13, .int a13)] (r36.2) 225 [] (fun ls hl => ?_) (fun J136 => ?_)
              · refine g_iinc (v := a13 + 1) (lv' := [(13, _), (0, _), (1, _), (2, _), (3, _), (4, _), (5, _), (6, _), (7, _), (9, _), (11, _), (12, _)]) X dL_told_225 hl (k := 11) rfl rfl (by decide) rfl (fun ls hl => ?_)
                refine g_goto (tgt := 21) X dL_told_228 (by decide) ?_
                exact ih a5 (a6 + (r36.2.2.1 0 (((3 : Int32) + a13).toNatClampNeg))) v136.1 v136.2.1 v136.2.2.1 v136.2.2.2 (a13 + 1) r36.2 hF ls (lv_sub hl [1, 2, 3, 4, 5, 6, 7, 8, 9, 10, 11, 0] rfl)
              · refine g_if_ge (tgt := 142) X dL_told_136 (by decide) (fun hc136 => ?_) (fun hc136 => ?_)
                · have hR136 := ite_t hR136 hc136
                  refine g_iload X dL_told_142 (lv_at hl 10 rfl) ?_
                  obtain ⟨v144, hR144, hR136⟩ := obind hR136
                  refine g_cut (nM := 17) [(0, .ref (ad 0)), (1, .ref (ad 108)), (2, .ref (ad 109)), (3, .ref (ad 110)), (4, .ref (ad 111)), (5, .int a5), (6, .int (a6 + (r36.2.2.1 0 (((3 : Int32) + a13).toNatClampNeg)))), (7, .long a7), (9, .long a9), (11, .int a11), (12, .int a12), (13, .int a13)] (r36.2) 168 [.long v144] (fun ls hl => ?_) (fun J144 => ?_)
                  · refine g_lstore (lv' := [(14, _), (0, _), (1, _), (2, _), (3, _), (4, _), (5, _), (6, _), (7, _), (9, _), (11, _), (12, _), (13, _)]) X dL_told_168 hl (by decide) rfl (fun ls hl => ?_)
                    refine g_lload X dL_told_170 (lv_at hl 0 rfl) ?_
                    refine g_lconst (v := 0) X dL_told_172 (by decide) ?_
                    refine g_lcmp X dL_told_173 ?_
                    obtain ⟨v174, hR174, hR136⟩ := obind hR136
                    refine g_cut (nM := 17) [(0, .ref (ad 0)), (1, .ref (ad 108)), (2, .ref (ad 109)), (3, .ref (ad 110)), (4, .ref (ad 111)), (5, .int a5), (6, .int (a6 + (r36.2.2.1 0 (((3 : Int32) + a13).toNatClampNeg)))), (7, .long a7), (9, .long a9), (12, .int a12), (13, .int a13), (14, .long v144)] (r36.2) 197 [.int v174] (fun ls hl => ?_) (fun J174 => ?_)
                    · refine g_istore (lv' := [(11, _), (0, _), (1, _), (2, _), (3, _), (4, _), (5, _), (6, _), (7, _), (9, _), (12, _), (13, _), (14, _)]) X dL_told_197 hl (by decide) rfl (fun ls hl => ?_)
                      refine g_lload X dL_told_199 (lv_at hl 12 rfl) ?_
                      refine g_lconst (v := 0) X dL_told_201 (by decide) ?_
                      refine g_lcmp X dL_told_202 ?_
                      refine g_if_lt (tgt := 209) X dL_told_203 (by decide) (fun hc203 => ?_) (fun hc203 => ?_)
                      · have hR136 := ite_t hR136 hc203
                        refine g_iload X dL_told_209 (lv_at hl 11 rfl) ?_
                        refine g_istore (lv' := [(12, _), (11, _), (0, _), (1, _), (2, _), (3, _), (4, _), (5, _), (6, _), (7, _), (9, _), (13, _), (14, _)]) X dL_told_211 hl (by decide) rfl (fun ls hl => ?_)
                        refine g_aload X dL_told_213 (lv_at hl 6 rfl) ?_
                        refine g_iconst (v := 2) X dL_told_215 (by decide) ?_
                        refine g_lald X 111 (j := 2) (xa_g) (by first | rfl | decide) (inb_in (by decide)) dL_told_216 ?_
                        refine g_lstore (lv' := [(7, _), (12, _), (11, _), (0, _), (1, _), (2, _), (3, _), (4, _), (5, _), (6, _), (9, _), (13, _), (14, _)]) X dL_told_217 hl (by decide) rfl (fun ls hl => ?_)
                        refine g_aload X dL_told_219 (lv_at hl 7 rfl) ?_
                        refine g_iconst (v := 3) X dL_told_221 (by decide) ?_
                        refine g_lald X 111 (j := 3) (xa_g) (by first | rfl | decide) (inb_in (by decide)) dL_told_222 ?_
                        refine g_lstore (lv' := [(9, _), (7, _), (12, _), (11, _), (0, _), (1, _), (2, _), (3, _), (4, _), (5, _), (6, _), (13, _), (14, _)]) X dL_told_223 hl (by decide) rfl (fun ls hl => ?_)
                        have e136 := some_inj hR136
                        subst e136
                        exact J136 ls (lv_sub hl [4, 5, 6, 7, 8, 9, 10, 1, 0, 3, 2, 11] rfl)
                      · have hR136 := ite_f hR136 hc203
                        refine g_goto (tgt := 225) X dL_told_206 (by decide) ?_
                        have e136 := some_inj hR136
                        subst e136
                        exact J136 ls (lv_sub hl [1, 2, 3, 4, 5, 6, 7, 8, 9, 0, 10, 11] rfl)
                    · refine g_if_ge (tgt := 181) X dL_told_174 (by decide) (fun hc174 => ?_) (fun hc174 => ?_)
                      · have hR174 := ite_t hR174 hc174
                        refine g_lload X dL_told_181 (lv_at hl 0 rfl) ?_
                        refine g_lconst (v := 0) X dL_told_183 (by decide) ?_
                        refine g_lcmp X dL_told_184 ?_
                        refine g_if_ne (tgt := 195) X dL_told_185 (by decide) (fun hc185 => ?_) (fun hc185 => ?_)
                        · have hR174 := ite_t hR174 hc185
                          refine g_iload X dL_told_195 (lv_at hl 10 rfl) ?_
                          have e174 := some_inj hR174
                          subst e174
                          exact J174 ls (lv_sub hl [1, 2, 3, 4, 5, 6, 7, 8, 9, 11, 12, 0] rfl)
                        · have hR174 := ite_n hR174 hc185
                          refine g_iload X dL_told_188 (lv_at hl 10 rfl) ?_
                          refine g_iconst (v := 1) X dL_told_190 (by decide) ?_
                          refine g_iadd X dL_told_191 ?_
                          refine g_goto (tgt := 197) X dL_told_192 (by decide) ?_
                          have e174 := some_inj hR174
                          subst e174
                          exact J174 ls (lv_sub hl [1, 2, 3, 4, 5, 6, 7, 8, 9, 11, 12, 0] rfl)
                      · have hR174 := ite_f hR174 hc174
                        refine g_iconst (v := 1) X dL_told_177 (by decide) ?_
                        refine g_goto (tgt := 197) X dL_told_178 (by decide) ?_
                        have e174 := some_inj hR174
                        subst e174
                        exact J174 ls (lv_sub hl [1, 2, 3, 4, 5, 6, 7, 8, 9, 11, 12, 0] rfl)
                  · refine g_if_ge (tgt := 153) X dL_told_144 (by decide) (fun hc144 => ?_) (fun hc144 => ?_)
                    · have hR144 := ite_t hR144 hc144
                      refine g_aload X dL_told_153 (lv_at hl 5 rfl) ?_
                      refine g_iconst (v := 2) X dL_told_155 (by decide) ?_
                      refine g_lald X 111 (j := 2) (xa_g) (by first | rfl | decide) (inb_in (by decide)) dL_told_156 ?_
                      refine g_lload X dL_told_157 (lv_at hl 8 rfl) ?_
                      refine g_lmul X dL_told_159 ?_
                      refine g_lload X dL_told_160 (lv_at hl 7 rfl) ?_
                      refine g_aload X dL_told_162 (lv_at hl 5 rfl) ?_
                      refine g_iconst (v := 3) X dL_told_164 (by decide) ?_
                      refine g_lald X 111 (j := 3) (xa_g) (by first | rfl | decide) (inb_in (by decide)) dL_told_165 ?_
                      refine g_lmul X dL_told_166 ?_
                      refine g_lsub X dL_told_167 ?_
                      have e144 := some_inj hR144
                      subst e144
                      exact J144 ls (lv_sub hl [1, 2, 3, 4, 5, 6, 0, 7, 8, 9, 10, 11] rfl)
                    · have hR144 := ite_f hR144 hc144
                      refine g_ldc2 X dL_told_147 (X.ts (.constantLong RL 18 (-1)) (by decide +kernel)) ?_
                      refine g_goto (tgt := 168) X dL_told_150 (by decide) ?_
                      have e144 := some_inj hR144
                      subst e144
                      exact J144 ls (lv_sub hl [1, 2, 3, 4, 5, 6, 0, 7, 8, 9, 10, 11] rfl)
                · have hR136 := ite_f hR136 hc136
                  refine g_goto (tgt := 225) X dL_told_139 (by decide) ?_
                  have e136 := some_inj hR136
                  subst e136
                  exact J136 ls (lv_sub hl [1, 2, 3, 4, 5, 6, 0, 7, 8, 9, 10, 11] rfl)
            · have hF := ite_f hF hc114
              refine g_iconst (v := 0) X dL_told_117 (by decide) ?_
              exact g_zret X rfl (pF_mk (some_inj hF) rfl) dL_told_118
def F_L_told (σ : LM) : Option (Int32 × LM) := L_L_told_21  FU (0 : Int32) (0 : Int32) (0 : Int64) (0 : Int64) (0 : Int32) (-1 : Int32) (1 : Int32) σ
set_option maxHeartbeats 4000000 in
set_option maxRecDepth 100000 in
theorem c_L_told {l : Launch} {D : va_G} {ay : Nat → ClassId} {ad : Nat → Nat} {σ : LM} {res : Int32 × LM} (hI : axOK ad) (hF : F_L_told  σ = some res) : Met l yL_told wsL_told ({ frames := 6, cells := 0, slots := 0, locals := 142 } : Room) (va_Pc [.ref (ad 0), .ref (ad 108), .ref (ad 109), .ref (ad 110), .ref (ad 111)] (PP D ay (wX ay ad σ))) (va_Qi (pF res) (fun τ => PP D ay (wX ay ad τ)) (AX ad)) 0 0 (AX ad) := by
  refine g_start (wd := wX ay ad) (A := AX ad) (own := RL) (mL := 17) (rt := (some .boolean)) (by decide) rfl rfl (Nat.le_of_ble_eq_true rfl) ?_
  intro p e s m below meth c ls X hl
  have hl : lv_has ls 17 [(0, .ref (ad 0)), (1, .ref (ad 108)), (2, .ref (ad 109)), (3, .ref (ad 110)), (4, .ref (ad 111))] := hl
  rw [F_L_told] at hF
  refine g_iconst (v := 0) X dL_told_0 (by decide) ?_
  refine g_istore (lv' := [(5, _), (0, _), (1, _), (2, _), (3, _), (4, _)]) X dL_told_1 hl (by decide) rfl (fun ls hl => ?_)
  refine g_iconst (v := 0) X dL_told_3 (by decide) ?_
  refine g_istore (lv' := [(6, _), (5, _), (0, _), (1, _), (2, _), (3, _), (4, _)]) X dL_told_4 hl (by decide) rfl (fun ls hl => ?_)
  refine g_lconst (v := 0) X dL_told_6 (by decide) ?_
  refine g_lstore (lv' := [(7, _), (6, _), (5, _), (0, _), (1, _), (2, _), (3, _), (4, _)]) X dL_told_7 hl (by decide) rfl (fun ls hl => ?_)
  refine g_lconst (v := 0) X dL_told_9 (by decide) ?_
  refine g_lstore (lv' := [(9, _), (7, _), (6, _), (5, _), (0, _), (1, _), (2, _), (3, _), (4, _)]) X dL_told_10 hl (by decide) rfl (fun ls hl => ?_)
  refine g_iconst (v := 0) X dL_told_12 (by decide) ?_
  refine g_istore (lv' := [(11, _), (9, _), (7, _), (6, _), (5, _), (0, _), (1, _), (2, _), (3, _), (4, _)]) X dL_told_13 hl (by decide) rfl (fun ls hl => ?_)
  refine g_iconst (v := -1) X dL_told_15 (by decide) ?_
  refine g_istore (lv' := [(12, _), (11, _), (9, _), (7, _), (6, _), (5, _), (0, _), (1, _), (2, _), (3, _), (4, _)]) X dL_told_16 hl (by decide) rfl (fun ls hl => ?_)
  refine g_iconst (v := 1) X dL_told_18 (by decide) ?_
  refine g_istore (lv' := [(13, _), (12, _), (11, _), (9, _), (7, _), (6, _), (5, _), (0, _), (1, _), (2, _), (3, _), (4, _)]) X dL_told_19 hl (by decide) rfl (fun ls hl => ?_)
  exact w_L_told_21 X hI FU (0 : Int32) (0 : Int32) (0 : Int64) (0 : Int64) (0 : Int32) (-1 : Int32) (1 : Int32) σ hF ls (lv_sub hl [7, 8, 9, 10, 11, 6, 5, 4, 3, 2, 1, 0] rfl)
