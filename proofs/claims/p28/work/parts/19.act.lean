def L_L_passes_6 (a1 : Int32) : Nat → Int32 → Int32 → LM → Option (Int32 × LM)
  | 0, _, _, _ => none
  | fu + 1, a6, a7, σ => (if (16 : Int32) ≤ a7 then some (a6, σ) else Option.bind (F_L_turns a7 a1 σ) (fun r22 => if inb ((3 : Int32) + a7) 19 then (if inb ((3 : Int32) + a7) 19 then (L_L_passes_6 a1 fu (a6 + r22.1) (a7 + 1) (r22.2.1, (up2 r22.2.2.1 0 (((3 : Int32) + a7).toNatClampNeg) ((r22.2.2.1 0 (((3 : Int32) + a7).toNatClampNeg)) + r22.1), r22.2.2.2))) else none) else none))
set_option maxHeartbeats 4000000 in
set_option maxRecDepth 100000 in
theorem w_L_passes_6 {D : va_G} {ay : Nat → ClassId} {ad : Nat → Nat} {p : Program} {l : Launch} {e : Env} {s : State} {m : MethodId} {args : Array Value} {below : List Frame} {meth : Method} {c : Code} {Q : State → Prop} {a1 : Int32} {res : Int32 × LM} (X : CX D ay p s m args meth c cL_passes 9 RL (some .boolean) wsL_passes) (hI : axOK ad) (K : ∀ ls : Array Slot, lv_has ls 9 [(0, .ref (ad 0)), (1, .int a1), (2, .ref (ad 108)), (3, .ref (ad 109)), (6, .int res.1)] → GW D (wX ay ad) (AX ad) p l e ({ frames := 7, cells := 0, slots := 0, locals := 170 } : Room) s m args below meth c Q res.2 (F0 m 51 ls [])) : ∀ (fu : Nat) (a6 : Int32) (a7 : Int32) (σ : LM), L_L_passes_6 a1 fu a6 a7 σ = some res → ∀ ls : Array Slot, lv_has ls 9 [(0, .ref (ad 0)), (1, .int a1), (2, .ref (ad 108)), (3, .ref (ad 109)), (4, .ref (ad 110)), (5, .ref (ad 111)), (6, .int a6), (7, .int a7)] → GW D (wX ay ad) (AX ad) p l e ({ frames := 7, cells := 0, slots := 0, locals := 170 } : Room) s m args below meth c Q σ (F0 m 6 ls []) := by
  intro fu
  induction fu with
  | zero =>
    intro a6 a7 σ hF ls hl
    rw [L_L_passes_6] at hF
    cases hF
  | succ fu ih =>
    intro a6 a7 σ hF ls hl
    rw [L_L_passes_6] at hF
    refine g_iload X dL_passes_6 (lv_at hl 7 rfl) ?_
    refine g_bipush (v := 16) X dL_passes_8 (by decide) ?_
    refine g_icmp_ge (tgt := 51) X dL_passes_10 (by decide) (fun hc10 => ?_) (fun hc10 => ?_)
    · have hF := ite_t hF hc10
      have e6 := some_inj hF
      subst e6
      exact K ls (lv_sub hl [0, 1, 2, 3, 6] rfl)
    · have hF := ite_f hF hc10
      refine g_iload X dL_passes_13 (lv_at hl 7 rfl) ?_
      refine g_iload_n X dL_passes_15 rfl (lv_at hl 1 rfl) ?_
      refine g_aload_n X dL_passes_16 rfl (lv_at hl 2 rfl) ?_
      refine g_aload_n X dL_passes_17 rfl (lv_at hl 3 rfl) ?_
      refine g_aload X dL_passes_18 (lv_at hl 4 rfl) ?_
      refine g_aload X dL_passes_20 (lv_at hl 5 rfl) ?_
      obtain ⟨r22, hr22, hF⟩ := obind hF
      refine k_Sie X (As := [.int a7, .int a1, .ref (ad 108), .ref (ad 109), .ref (ad 110), .ref (ad 111)]) (rest := []) (c_L_turns hI hr22) (va_cwS 6 X.ts gL_passes_L_turns rfl rfl rfl (by decide +kernel) ⟨Nat.le_of_ble_eq_true rfl, Nat.le_of_ble_eq_true rfl⟩) rfl hl.1 rfl (Nat.le_of_ble_eq_true rfl) dL_passes_22 ?_
      refine g_istore (lv' := [(8, _), (0, _), (1, _), (2, _), (3, _), (4, _), (5, _), (6, _), (7, _)]) X dL_passes_25 hl (by decide) rfl (fun ls hl => ?_)
      refine g_aload_n X dL_passes_27 rfl (lv_at hl 3 rfl) ?_
      refine g_iconst (v := 3) X dL_passes_28 (by decide) ?_
      refine g_iload X dL_passes_29 (lv_at hl 8 rfl) ?_
      refine g_iadd X dL_passes_31 ?_
      refine g_dup2 X dL_passes_32 rfl rfl ?_
      obtain ⟨h33, hF⟩ := itn hF
      refine g_iald X 108 (j := ((3 : Int32) + a7).toNatClampNeg) (xa_c) (by first | rfl | decide) (inb_in h33) dL_passes_33 ?_
      refine g_iload X dL_passes_34 (lv_at hl 0 rfl) ?_
      refine g_iadd X dL_passes_36 ?_
      obtain ⟨h37, hF⟩ := itn hF
      refine g_iast X (wX_D hI) (r22.2.1, (up2 r22.2.2.1 0 (((3 : Int32) + a7).toNatClampNeg) ((r22.2.2.1 0 (((3 : Int32) + a7).toNatClampNeg)) + r22.1), r22.2.2.2)) 108 (j := ((3 : Int32) + a7).toNatClampNeg) (xa_c) (by first | rfl | decide) set_xc (inb_in h37) dL_passes_37 ?_
      refine g_iload X dL_passes_38 (lv_at hl 7 rfl) ?_
      refine g_iload X dL_passes_40 (lv_at hl 0 rfl) ?_
      refine g_iadd X dL_passes_42 ?_
      refine g_istore (lv' := [(6, _), (8, _), (0, _), (1, _), (2, _), (3, _), (4, _), (5, _), (7, _)]) X dL_passes_43 hl (by decide) rfl (fun ls hl => ?_)
      refine g_iinc (v := a7 + 1) (lv' := [(7, _), (6, _), (8, _), (0, _), (1, _), (2, _), (3, _), (4, _), (5, _)]) X dL_passes_45 hl (k := 8) rfl rfl (by decide) rfl (fun ls hl => ?_)
      refine g_goto (tgt := 6) X dL_passes_48 (by decide) ?_
      exact ih (a6 + r22.1) (a7 + 1) (r22.2.1, (up2 r22.2.2.1 0 (((3 : Int32) + a7).toNatClampNeg) ((r22.2.2.1 0 (((3 : Int32) + a7).toNatClampNeg)) + r22.1), r22.2.2.2)) hF ls (lv_sub hl [3, 4, 5, 6, 7, 8, 1, 0] rfl)
def L_L_passes_66 (a1 : Int32) (a6 : Int32) : Nat → Int32 → LM → Option LM
  | 0, _, _ => none
  | fu + 1, a7, σ => (if (16 : Int32) ≤ a7 then some σ else if inb (((4 : Int32) * a7) + (1 : Int32)) 64 then (if inb (((4 : Int32) * a7) + (2 : Int32)) 64 then (if inb (((4 : Int32) * a7) + (1 : Int32)) 64 then (L_L_passes_66 a1 a6 fu (a7 + 1) (σ.1, (up2 σ.2.1 1 ((((4 : Int32) * a7) + (1 : Int32)).toNatClampNeg) ((σ.2.1 1 ((((4 : Int32) * a7) + (1 : Int32)).toNatClampNeg)) + (a1 * (σ.2.1 1 ((((4 : Int32) * a7) + (2 : Int32)).toNatClampNeg)))), σ.2.2))) else none) else none) else none)
set_option maxHeartbeats 4000000 in
set_option maxRecDepth 100000 in
theorem w_L_passes_66 {D : va_G} {ay : Nat → ClassId} {ad : Nat → Nat} {p : Program} {l : Launch} {e : Env} {s : State} {m : MethodId} {args : Array Value} {below : List Frame} {meth : Method} {c : Code} {Q : State → Prop} {a1 : Int32} {a6 : Int32} {res : LM} (X : CX D ay p s m args meth c cL_passes 9 RL (some .boolean) wsL_passes) (hI : axOK ad) (K : ∀ ls : Array Slot, lv_has ls 9 [(0, .ref (ad 0)), (1, .int a1), (2, .ref (ad 108)), (6, .int a6)] → GW D (wX ay ad) (AX ad) p l e ({ frames := 7, cells := 0, slots := 0, locals := 170 } : Room) s m args below meth c Q res (F0 m 100 ls [])) : ∀ (fu : Nat) (a7 : Int32) (σ : LM), L_L_passes_66 a1 a6 fu a7 σ = some res → ∀ ls : Array Slot, lv_has ls 9 [(0, .ref (ad 0)), (1, .int a1), (2, .ref (ad 108)), (3, .ref (ad 109)), (6, .int a6), (7, .int a7)] → GW D (wX ay ad) (AX ad) p l e ({ frames := 7, cells := 0, slots := 0, locals := 170 } : Room) s m args below meth c Q σ (F0 m 66 ls []) := by
  intro fu
  induction fu with
  | zero =>
    intro a7 σ hF ls hl
    rw [L_L_passes_66] at hF
    cases hF
  | succ fu ih =>
    intro a7 σ hF ls hl
    rw [L_L_passes_66] at hF
    refine g_iload X dL_passes_66 (lv_at hl 5 rfl) ?_
    refine g_bipush (v := 16) X dL_passes_68 (by decide) ?_
    refine g_icmp_ge (tgt := 100) X dL_passes_70 (by decide) (fun hc70 => ?_) (fun hc70 => ?_)
    · have hF := ite_t hF hc70
      have e66 := some_inj hF
      subst e66
      exact K ls (lv_sub hl [0, 1, 2, 4] rfl)
    · have hF := ite_f hF hc70
      refine g_aload_n X dL_passes_73 rfl (lv_at hl 3 rfl) ?_
      refine g_iconst (v := 4) X dL_passes_74 (by decide) ?_
      refine g_iload X dL_passes_75 (lv_at hl 5 rfl) ?_
      refine g_imul X dL_passes_77 ?_
      refine g_iconst (v := 1) X dL_passes_78 (by decide) ?_
      refine g_iadd X dL_passes_79 ?_
      refine g_dup2 X dL_passes_80 rfl rfl ?_
      obtain ⟨h81, hF⟩ := itn hF
      refine g_iald X 109 (j := (((4 : Int32) * a7) + (1 : Int32)).toNatClampNeg) (xa_m) (by first | rfl | decide) (inb_in h81) dL_passes_81 ?_
      refine g_iload_n X dL_passes_82 rfl (lv_at hl 1 rfl) ?_
      refine g_aload_n X dL_passes_83 rfl (lv_at hl 3 rfl) ?_
      refine g_iconst (v := 4) X dL_passes_84 (by decide) ?_
      refine g_iload X dL_passes_85 (lv_at hl 5 rfl) ?_
      refine g_imul X dL_passes_87 ?_
      refine g_iconst (v := 2) X dL_passes_88 (by decide) ?_
      refine g_iadd X dL_passes_89 ?_
      obtain ⟨h90, hF⟩ := itn hF
      refine g_iald X 109 (j := (((4 : Int32) * a7) + (2 : Int32)).toNatClampNeg) (xa_m) (by first | rfl | decide) (inb_in h90) dL_passes_90 ?_
      refine g_imul X dL_passes_91 ?_
      refine g_iadd X dL_passes_92 ?_
      obtain ⟨h93, hF⟩ := itn hF
      refine g_iast X (wX_D hI) (σ.1, (up2 σ.2.1 1 ((((4 : Int32) * a7) + (1 : Int32)).toNatClampNeg) ((σ.2.1 1 ((((4 : Int32) * a7) + (1 : Int32)).toNatClampNeg)) + (a1 * (σ.2.1 1 ((((4 : Int32) * a7) + (2 : Int32)).toNatClampNeg)))), σ.2.2)) 109 (j := (((4 : Int32) * a7) + (1 : Int32)).toNatClampNeg) (xa_m) (by first | rfl | decide) set_xm (inb_in h93) dL_passes_93 ?_
      refine g_iinc (v := a7 + 1) (lv' := [(7, _), (0, _), (1, _), (2, _), (3, _), (6, _)]) X dL_passes_94 hl (k := 5) rfl rfl (by decide) rfl (fun ls hl => ?_)
      refine g_goto (tgt := 66) X dL_passes_97 (by decide) ?_
      exact ih (a7 + 1) (σ.1, (up2 σ.2.1 1 ((((4 : Int32) * a7) + (1 : Int32)).toNatClampNeg) ((σ.2.1 1 ((((4 : Int32) * a7) + (1 : Int32)).toNatClampNeg)) + (a1 * (σ.2.1 1 ((((4 : Int32) * a7) + (2 : Int32)).toNatClampNeg)))), σ.2.2)) hF ls (lv_sub hl [1, 2, 3, 4, 5, 0] rfl)
def F_L_passes (a1 : Int32) (σ : LM) : Option (Int32 × LM) := Option.bind (L_L_passes_6 a1 FU (0 : Int32) (1 : Int32) σ) (fun v6 : Int32 × LM => oR (F_X3_turnsIn a1 v6.2.1) (fun r53 => (if r53 = v6.1 then Option.bind (L_L_passes_66 a1 v6.1 FU (0 : Int32) v6.2) (fun v66 : LM => oR (F_X3_pass a1 v66.1) (fun r109 => (if ¬ r109.1 = v6.1 then some ((0 : Int32), (r109.2, (up2 v66.2.1 0 0 ((v66.2.1 0 0) + a1), v66.2.2))) else some ((1 : Int32), (r109.2, (up2 v66.2.1 0 0 ((v66.2.1 0 0) + a1), v66.2.2)))))) else some ((0 : Int32), v6.2))))
set_option maxHeartbeats 4000000 in
set_option maxRecDepth 100000 in
theorem c_L_passes {l : Launch} {D : va_G} {ay : Nat → ClassId} {ad : Nat → Nat} {a1 : Int32} {σ : LM} {res : Int32 × LM} (hI : axOK ad) (hF : F_L_passes a1 σ = some res) : Met l yL_passes wsL_passes ({ frames := 7, cells := 0, slots := 0, locals := 170 } : Room) (va_Pc [.ref (ad 0), .int a1, .ref (ad 108), .ref (ad 109), .ref (ad 110), .ref (ad 111)] (PP D ay (wX ay ad σ))) (va_Qi (pF res) (fun τ => PP D ay (wX ay ad τ)) (AX ad)) 0 0 (AX ad) := by
  refine g_start (wd := wX ay ad) (A := AX ad) (own := RL) (mL := 9) (rt := (some .boolean)) (by decide) rfl rfl (Nat.le_of_ble_eq_true rfl) ?_
  intro p e s m below meth c ls X hl
  have hl : lv_has ls 9 [(0, .ref (ad 0)), (1, .int a1), (2, .ref (ad 108)), (3, .ref (ad 109)), (4, .ref (ad 110)), (5, .ref (ad 111))] := hl
  rw [F_L_passes] at hF
  refine g_iconst (v := 0) X dL_passes_0 (by decide) ?_
  refine g_istore (lv' := [(6, _), (0, _), (1, _), (2, _), (3, _), (4, _), (5, _)]) X dL_passes_1 hl (by decide) rfl (fun ls hl => ?_)
  refine g_iconst (v := 1) X dL_passes_3 (by decide) ?_
  refine g_istore (lv' := [(7, _), (6, _), (0, _), (1, _), (2, _), (3, _), (4, _), (5, _)]) X dL_passes_4 hl (by decide) rfl (fun ls hl => ?_)
  obtain ⟨v6, hL6, hF⟩ := obind hF
  refine w_L_passes_6 X hI (fun ls hl => ?_) FU (0 : Int32) (1 : Int32) σ hL6 ls (lv_sub hl [2, 3, 4, 5, 6, 7, 1, 0] rfl)
  refine g_aload_n X dL_passes_51 rfl (lv_at hl 0 rfl) ?_
  refine g_iload_n X dL_passes_52 rfl (lv_at hl 1 rfl) ?_
  obtain ⟨r53, hr53, hF⟩ := oR_some hF
  refine kx_Vi X hI (As := [.int a1]) (rest := []) (c_X3_turnsIn hI.c hr53) (cwV 1 X.ts gL_passes_X3_turnsIn rfl rfl rfl (by decide +kernel) ⟨Nat.le_of_ble_eq_true rfl, Nat.le_of_ble_eq_true rfl⟩) rfl hl.1 rfl (Nat.le_of_ble_eq_true rfl) dL_passes_53 ?_
  refine g_iload X dL_passes_56 (lv_at hl 4 rfl) ?_
  refine g_icmp_eq (tgt := 63) X dL_passes_58 (by decide) (fun hc58 => ?_) (fun hc58 => ?_)
  · have hF := ite_t hF hc58
    refine g_iconst (v := 0) X dL_passes_63 (by decide) ?_
    refine g_istore (lv' := [(7, _), (0, _), (1, _), (2, _), (3, _), (6, _)]) X dL_passes_64 hl (by decide) rfl (fun ls hl => ?_)
    obtain ⟨v66, hL66, hF⟩ := obind hF
    refine w_L_passes_66 X hI (fun ls hl => ?_) FU (0 : Int32) v6.2 hL66 ls (lv_sub hl [1, 2, 3, 4, 5, 0] rfl)
    refine g_aload_n X dL_passes_100 rfl (lv_at hl 2 rfl) ?_
    refine g_iconst (v := 0) X dL_passes_101 (by decide) ?_
    refine g_dup2 X dL_passes_102 rfl rfl ?_
    refine g_iald X 108 (j := 0) (xa_c) (by first | rfl | decide) (inb_in (by decide)) dL_passes_103 ?_
    refine g_iload_n X dL_passes_104 rfl (lv_at hl 1 rfl) ?_
    refine g_iadd X dL_passes_105 ?_
    refine g_iast X (wX_D hI) (v66.1, (up2 v66.2.1 0 0 ((v66.2.1 0 0) + a1), v66.2.2)) 108 (j := 0) (xa_c) (by first | rfl | decide) set_xc (inb_in (by decide)) dL_passes_106 ?_
    refine g_aload_n X dL_passes_107 rfl (lv_at hl 0 rfl) ?_
    refine g_iload_n X dL_passes_108 rfl (lv_at hl 1 rfl) ?_
    obtain ⟨r109, hr109, hF⟩ := oR_some hF
    refine kx_Vie X hI (As := [.int a1]) (rest := []) (c_X3_pass hI.c hr109) (cwV 1 X.ts gL_passes_X3_pass rfl rfl rfl (by decide +kernel) ⟨Nat.le_of_ble_eq_true rfl, Nat.le_of_ble_eq_true rfl⟩) rfl hl.1 rfl (Nat.le_of_ble_eq_true rfl) dL_passes_109 ?_
    refine g_iload X dL_passes_112 (lv_at hl 3 rfl) ?_
    refine g_icmp_ne (tgt := 121) X dL_passes_114 (by decide) (fun hc114 => ?_) (fun hc114 => ?_)
    · have hF := ite_t hF hc114
      refine g_iconst (v := 0) X dL_passes_121 (by decide) ?_
      exact g_zret X rfl (pF_mk (some_inj hF) rfl) dL_passes_122
    · have hF := ite_n hF hc114
      refine g_iconst (v := 1) X dL_passes_117 (by decide) ?_
      refine g_goto (tgt := 122) X dL_passes_118 (by decide) ?_
      exact g_zret X rfl (pF_mk (some_inj hF) rfl) dL_passes_122
  · have hF := ite_f hF hc58
    refine g_iconst (v := 0) X dL_passes_61 (by decide) ?_
    exact g_zret X rfl (pF_mk (some_inj hF) rfl) dL_passes_62
def L_L_act_564 (a8 : Int32) (a11 : Int32) : Nat → Int32 → LM → Option LM
  | 0, _, _ => none
  | fu + 1, a12, σ => (if (4 : Int32) ≤ a12 then some σ else if inb (((4 : Int32) * a8) + a12) 64 then (L_L_act_564 a8 a11 fu (a12 + 1) (σ.1, (up2 σ.2.1 1 ((((4 : Int32) * a8) + a12).toNatClampNeg) (0 : Int32), σ.2.2))) else none)
set_option maxHeartbeats 4000000 in
set_option maxRecDepth 100000 in
theorem w_L_act_564 {D : va_G} {ay : Nat → ClassId} {ad : Nat → Nat} {p : Program} {l : Launch} {e : Env} {s : State} {m : MethodId} {args : Array Value} {below : List Frame} {meth : Method} {c : Code} {Q : State → Prop} {a8 : Int32} {a11 : Int32} {res : LM} (X : CX D ay p s m args meth c cL_act 14 RL (some .boolean) wsL_act) (hI : axOK ad) (K : ∀ ls : Array Slot, lv_has ls 14 [(0, .ref (ad 0)), (8, .int a8), (11, .int a11)] → GW D (wX ay ad) (AX ad) p l e ({ frames := 8, cells := 0, slots := 0, locals := 198 } : Room) s m args below meth c Q res (F0 m 587 ls [])) : ∀ (fu : Nat) (a12 : Int32) (σ : LM), L_L_act_564 a8 a11 fu a12 σ = some res → ∀ ls : Array Slot, lv_has ls 14 [(0, .ref (ad 0)), (5, .ref (ad 109)), (8, .int a8), (11, .int a11), (12, .int a12)] → GW D (wX ay ad) (AX ad) p l e ({ frames := 8, cells := 0, slots := 0, locals := 198 } : Room) s m args below meth c Q σ (F0 m 564 ls []) := by
  intro fu
  induction fu with
  | zero =>
    intro a12 σ hF ls hl
    rw [L_L_act_564] at hF
    cases hF
  | succ fu ih =>
    intro a12 σ hF ls hl
    rw [L_L_act_564] at hF
    refine g_iload X dL_act_564 (lv_at hl 4 rfl) ?_
    refine g_iconst (v := 4) X dL_act_566 (by decide) ?_
    refine g_icmp_ge (tgt := 587) X dL_act_567 (by decide) (fun hc567 => ?_) (fun hc567 => ?_)
    · have hF := ite_t hF hc567
      have e564 := some_inj hF
      subst e564
      exact K ls (lv_sub hl [0, 2, 3] rfl)
    · have hF := ite_f hF hc567
      refine g_aload X dL_act_570 (lv_at hl 1 rfl) ?_
      refine g_iconst (v := 4) X dL_act_572 (by decide) ?_
      refine g_iload X dL_act_573 (lv_at hl 2 rfl) ?_
      refine g_imul X dL_act_575 ?_
      refine g_iload X dL_act_576 (lv_at hl 4 rfl) ?_
      refine g_iadd X dL_act_578 ?_
      refine g_iconst (v := 0) X dL_act_579 (by decide) ?_
      obtain ⟨h580, hF⟩ := itn hF
      refine g_iast X (wX_D hI) (σ.1, (up2 σ.2.1 1 ((((4 : Int32) * a8) + a12).toNatClampNeg) (0 : Int32), σ.2.2)) 109 (j := (((4 : Int32) * a8) + a12).toNatClampNeg) (xa_m) (by first | rfl | decide) set_xm (inb_in h580) dL_act_580 ?_
      refine g_iinc (v := a12 + 1) (lv' := [(12, _), (0, _), (5, _), (8, _), (11, _)]) X dL_act_581 hl (k := 4) rfl rfl (by decide) rfl (fun ls hl => ?_)
      refine g_goto (tgt := 564) X dL_act_584 (by decide) ?_
      exact ih (a12 + 1) (σ.1, (up2 σ.2.1 1 ((((4 : Int32) * a8) + a12).toNatClampNeg) (0 : Int32), σ.2.2)) hF ls (lv_sub hl [1, 2, 3, 4, 0] rfl)
def L_L_act_332 (a8 : Int32) (a11 : Int32) : Nat → Int32 → LM → Option LM
  | 0, _, _ => none
  | fu + 1, a12, σ => (if (4 : Int32) ≤ a12 then some σ else if inb (((4 : Int32) * a8) + a12) 64 then (if inb (((4 : Int32) * a11) + a12) 64 then (if inb (((4 : Int32) * a8) + a12) 64 then (if inb (((4 : Int32) * a11) + a12) 64 then (L_L_act_332 a8 a11 fu (a12 + 1) (σ.1, (up2 (up2 σ.2.1 1 ((((4 : Int32) * a8) + a12).toNatClampNeg) (σ.2.1 1 ((((4 : Int32) * a11) + a12).toNatClampNeg))) 1 ((((4 : Int32) * a11) + a12).toNatClampNeg) (σ.2.1 1 ((((4 : Int32) * a8) + a12).toNatClampNeg)), σ.2.2))) else none) else none) else none) else none)
set_option maxHeartbeats 4000000 in
set_option maxRecDepth 100000 in
theorem w_L_act_332 {D : va_G} {ay : Nat → ClassId} {ad : Nat → Nat} {p : Program} {l : Launch} {e : Env} {s : State} {m : MethodId} {args : Array Value} {below : List Frame} {meth : Method} {c : Code} {Q : State → Prop} {a8 : Int32} {a11 : Int32} {res : LM} (X : CX D ay p s m args meth c cL_act 14 RL (some .boolean) wsL_act) (hI : axOK ad) (K : ∀ ls : Array Slot, lv_has ls 14 [(0, .ref (ad 0)), (8, .int a8), (11, .int a11)] → GW D (wX ay ad) (AX ad) p l e ({ frames := 8, cells := 0, slots := 0, locals := 198 } : Room) s m args below meth c Q res (F0 m 388 ls [])) : ∀ (fu : Nat) (a12 : Int32) (σ : LM), L_L_act_332 a8 a11 fu a12 σ = some res → ∀ ls : Array Slot, lv_has ls 14 [(0, .ref (ad 0)), (5, .ref (ad 109)), (8, .int a8), (11, .int a11), (12, .int a12)] → GW D (wX ay ad) (AX ad) p l e ({ frames := 8, cells := 0, slots := 0, locals := 198 } : Room) s m args below meth c Q σ (F0 m 332 ls []) := by
  intro fu
  induction fu with
  | zero =>
    intro a12 σ hF ls hl
    rw [L_L_act_332] at hF
    cases hF
  | succ fu ih =>
    intro a12 σ hF ls hl
    rw [L_L_act_332] at hF
    refine g_iload X dL_act_332 (lv_at hl 4 rfl) ?_
    refine g_iconst (v := 4) X dL_act_334 (by decide) ?_
    refine g_icmp_ge (tgt := 388) X dL_act_335 (by decide) (fun hc335 => ?_) (fun hc335 => ?_)
    · have hF := ite_t hF hc335
      have e332 := some_inj hF
      subst e332
      exact K ls (lv_sub hl [0, 2, 3] rfl)
    · have hF := ite_f hF hc335
      refine g_aload X dL_act_338 (lv_at hl 1 rfl) ?_
      refine g_iconst (v := 4) X dL_act_340 (by decide) ?_
      refine g_iload X dL_act_341 (lv_at hl 2 rfl) ?_
      refine g_imul X dL_act_343 ?_
      refine g_iload X dL_act_344 (lv_at hl 4 rfl) ?_
      refine g_iadd X dL_act_346 ?_
      obtain ⟨h347, hF⟩ := itn hF
      refine g_iald X 109 (j := (((4 : Int32) * a8) + a12).toNatClampNeg) (xa_m) (by first | rfl | decide) (inb_in h347) dL_act_347 ?_
      refine g_istore (lv' := [(13, _), (0, _), (5, _), (8, _), (11, _), (12, _)]) X dL_act_348 hl (by decide) rfl (fun ls hl => ?_)
      refine g_aload X dL_act_350 (lv_at hl 2 rfl) ?_
      refine g_iconst (v := 4) X dL_act_352 (by decide) ?_
      refine g_iload X dL_act_353 (lv_at hl 3 rfl) ?_
      refine g_imul X dL_act_355 ?_
      refine g_iload X dL_act_356 (lv_at hl 5 rfl) ?_
      refine g_iadd X dL_act_358 ?_
      refine g_aload X dL_act_359 (lv_at hl 2 rfl) ?_
      refine g_iconst (v := 4) X dL_act_361 (by decide) ?_
      refine g_iload X dL_act_362 (lv_at hl 4 rfl) ?_
      refine g_imul X dL_act_364 ?_
      refine g_iload X dL_act_365 (lv_at hl 5 rfl) ?_
      refine g_iadd X dL_act_367 ?_
      obtain ⟨h368, hF⟩ := itn hF
      refine g_iald X 109 (j := (((4 : Int32) * a11) + a12).toNatClampNeg) (xa_m) (by first | rfl | decide) (inb_in h368) dL_act_368 ?_
      obtain ⟨h369, hF⟩ := itn hF
      refine g_iast X (wX_D hI) (σ.1, (up2 σ.2.1 1 ((((4 : Int32) * a8) + a12).toNatClampNeg) (σ.2.1 1 ((((4 : Int32) * a11) + a12).toNatClampNeg)), σ.2.2)) 109 (j := (((4 : Int32) * a8) + a12).toNatClampNeg) (xa_m) (by first | rfl | decide) set_xm (inb_in h369) dL_act_369 ?_
      refine g_aload X dL_act_370 (lv_at hl 2 rfl) ?_
      refine g_iconst (v := 4) X dL_act_372 (by decide) ?_
      refine g_iload X dL_act_373 (lv_at hl 4 rfl) ?_
      refine g_imul X dL_act_375 ?_
      refine g_iload X dL_act_376 (lv_at hl 5 rfl) ?_
      refine g_iadd X dL_act_378 ?_
      refine g_iload X dL_act_379 (lv_at hl 0 rfl) ?_
      obtain ⟨h381, hF⟩ := itn hF
      refine g_iast X (wX_D hI) (σ.1, (up2 (up2 σ.2.1 1 ((((4 : Int32) * a8) + a12).toNatClampNeg) (σ.2.1 1 ((((4 : Int32) * a11) + a12).toNatClampNeg))) 1 ((((4 : Int32) * a11) + a12).toNatClampNeg) (σ.2.1 1 ((((4 : Int32) * a8) + a12).toNatClampNeg)), σ.2.2)) 109 (j := (((4 : Int32) * a11) + a12).toNatClampNeg) (xa_m) (by first | rfl | decide) set_xm (inb_in h381) dL_act_381 ?_
      refine g_iinc (v := a12 + 1) (lv' := [(12, _), (13, _), (0, _), (5, _), (8, _), (11, _)]) X dL_act_382 hl (k := 5) rfl rfl (by decide) rfl (fun ls hl => ?_)
      refine g_goto (tgt := 332) X dL_act_385 (by decide) ?_
      exact ih (a12 + 1) (σ.1, (up2 (up2 σ.2.1 1 ((((4 : Int32) * a8) + a12).toNatClampNeg) (σ.2.1 1 ((((4 : Int32) * a11) + a12).toNatClampNeg))) 1 ((((4 : Int32) * a11) + a12).toNatClampNeg) (σ.2.1 1 ((((4 : Int32) * a8) + a12).toNatClampNeg)), σ.2.2)) hF ls (lv_sub hl [2, 3, 4, 5, 0] rfl)
def L_L_act_102 (a9 : Int32) (a10 : Int32) (σ : LM) : Nat → Int32 → Option Int32
  | 0, _ => none
  | fu + 1, a11 => (if (16 : Int32) ≤ a11 then some a11 else if inb ((4 : Int32) * a11) 64 then ((if ¬ (σ.2.1 1 (((4 : Int32) * a11).toNatClampNeg)) = (1 : Int32) then some a11 else L_L_act_102 a9 a10 σ fu (a11 + 1))) else none)
set_option maxHeartbeats 4000000 in
set_option maxRecDepth 100000 in
theorem w_L_act_102 {D : va_G} {ay : Nat → ClassId} {ad : Nat → Nat} {p : Program} {l : Launch} {e : Env} {s : State} {m : MethodId} {args : Array Value} {below : List Frame} {meth : Method} {c : Code} {Q : State → Prop} {a9 : Int32} {a10 : Int32} {σ : LM} {res : Int32} (X : CX D ay p s m args meth c cL_act 14 RL (some .boolean) wsL_act) (hI : axOK ad) (K : ∀ ls : Array Slot, lv_has ls 14 [(0, .ref (ad 0)), (4, .ref (ad 108)), (5, .ref (ad 109)), (9, .int a9), (10, .int a10), (11, .int res)] → GW D (wX ay ad) (AX ad) p l e ({ frames := 8, cells := 0, slots := 0, locals := 198 } : Room) s m args below meth c Q σ (F0 m 126 ls [])) : ∀ (fu : Nat) (a11 : Int32), L_L_act_102 a9 a10 σ fu a11 = some res → ∀ ls : Array Slot, lv_has ls 14 [(0, .ref (ad 0)), (4, .ref (ad 108)), (5, .ref (ad 109)), (9, .int a9), (10, .int a10), (11, .int a11)] → GW D (wX ay ad) (AX ad) p l e ({ frames := 8, cells := 0, slots := 0, locals := 198 } : Room) s m args below meth c Q σ (F0 m 102 ls []) := by
  intro fu
  induction fu with
  | zero =>
    intro a11 hF ls hl
    rw [L_L_act_102] at hF
    cases hF
  | succ fu ih =>
    intro a11 hF ls hl
    rw [L_L_act_102] at hF
    refine g_iload X dL_act_102 (lv_at hl 5 rfl) ?_
    refine g_bipush (v := 16) X dL_act_104 (by decide) ?_
    refine g_icmp_ge (tgt := 126) X dL_act_106 (by decide) (fun hc106 => ?_) (fun hc106 => ?_)
    · have hF := ite_t hF hc106
      have e102 := some_inj hF
      subst e102
      exact K ls (lv_sub hl [0, 1, 2, 3, 4, 5] rfl)
    · have hF := ite_f hF hc106
      refine g_aload X dL_act_109 (lv_at hl 2 rfl) ?_
      refine g_iconst (v := 4) X dL_act_111 (by decide) ?_
      refine g_iload X dL_act_112 (lv_at hl 5 rfl) ?_
      refine g_imul X dL_act_114 ?_
      obtain ⟨h115, hF⟩ := itn hF
      refine g_iald X 109 (j := ((4 : Int32) * a11).toNatClampNeg) (xa_m) (by first | rfl | decide) (inb_in h115) dL_act_115 ?_
      refine g_iconst (v := 1) X dL_act_116 (by decide) ?_
      refine g_icmp_ne (tgt := 126) X dL_act_117 (by decide) (fun hc117 => ?_) (fun hc117 => ?_)
      · have hF := ite_t hF hc117
        have e102 := some_inj hF
        subst e102
        exact K ls (lv_sub hl [0, 1, 2, 3, 4, 5] rfl)
      · have hF := ite_n hF hc117
        refine g_iinc (v := a11 + 1) (lv' := [(11, _), (0, _), (4, _), (5, _), (9, _), (10, _)]) X dL_act_120 hl (k := 5) rfl rfl (by decide) rfl (fun ls hl => ?_)
        refine g_goto (tgt := 102) X dL_act_123 (by decide) ?_
        exact ih (a11 + 1) hF ls (lv_sub hl [1, 2, 3, 4, 5, 0] rfl)
def F_L_act (a1 : Int32) (a2 : Int32) (a3 : Int32) (σ : LM) : Option (Int32 × LM) := Option.bind (F_L_at a2 (16 : Int32)) (fun r3 => Option.bind (F_L_at (a2 >>> ((4 : Int32) &&& 31)) (3 : Int32)) (fun r13 => (Option.bind (if ¬ r13 = 0 then some (60 : Int32) else some (19999 : Int32)) (fun v16 : Int32 => Option.bind (F_L_at a3 v16) (fun r27 => Option.bind (F_L_at (a2 >>> ((4 : Int32) &&& 31)) (3 : Int32)) (fun r34 => (Option.bind (if ¬ r34 = 0 then some (30 : Int32) else some (9999 : Int32)) (fun v37 : Int32 => Option.bind (F_L_at (a2 >>> ((5 : Int32) &&& 31)) (3 : Int32)) (fun r58 => (Option.bind (if ¬ r58 = 0 then some (11 : Int32) else some (199 : Int32)) (fun v61 : Int32 => Option.bind (F_L_at (a3 >>> ((5 : Int32) &&& 31)) v61) (fun r72 => Option.bind (F_L_at (a2 >>> ((5 : Int32) &&& 31)) (3 : Int32)) (fun r79 => (Option.bind (if ¬ r79 = 0 then some (5 : Int32) else some (99 : Int32)) (fun v82 : Int32 => (if (5 : Int32) ≤ a1 then (if (8 : Int32) ≤ a1 then (if ¬ a1 = (8 : Int32) then (if ¬ a1 = (9 : Int32) then if inb ((4 : Int32) * r3) 64 then ((if ¬ (σ.2.1 1 (((4 : Int32) * r3).toNatClampNeg)) = 0 then (if (12 : Int32) ≤ a1 then (if ¬ a1 = (12 : Int32) then if inb (((4 : Int32) * r3) + (1 : Int32)) 64 then (Option.bind (L_L_act_564 r3 (σ.2.1 1 ((((4 : Int32) * r3) + (1 : Int32)).toNatClampNeg)) FU (0 : Int32) σ) (fun v564 : LM => oR (F_X3_remove r3 v564.1) (fun r590 => (if ¬ r590.1 = (σ.2.1 1 ((((4 : Int32) * r3) + (1 : Int32)).toNatClampNeg)) then some ((0 : Int32), (r590.2, v564.2)) else some ((1 : Int32), (r590.2, v564.2)))))) else none else if inb (((4 : Int32) * r3) + (1 : Int32)) 64 then (if inb (((4 : Int32) * r3) + (1 : Int32)) 64 then (if inb (((4 : Int32) * r3) + (1 : Int32)) 64 then ((if ((up2 σ.2.1 1 ((((4 : Int32) * r3) + (1 : Int32)).toNatClampNeg) ((σ.2.1 1 ((((4 : Int32) * r3) + (1 : Int32)).toNatClampNeg)) + (r27 - v37))) 1 ((((4 : Int32) * r3) + (1 : Int32)).toNatClampNeg)) ≤ (-1000000 : Int32) then some ((0 : Int32), (σ.1, (up2 σ.2.1 1 ((((4 : Int32) * r3) + (1 : Int32)).toNatClampNeg) ((σ.2.1 1 ((((4 : Int32) * r3) + (1 : Int32)).toNatClampNeg)) + (r27 - v37)), σ.2.2))) else if inb (((4 : Int32) * r3) + (1 : Int32)) 64 then ((if (1000000 : Int32) ≤ ((up2 σ.2.1 1 ((((4 : Int32) * r3) + (1 : Int32)).toNatClampNeg) ((σ.2.1 1 ((((4 : Int32) * r3) + (1 : Int32)).toNatClampNeg)) + (r27 - v37))) 1 ((((4 : Int32) * r3) + (1 : Int32)).toNatClampNeg)) then some ((0 : Int32), (σ.1, (up2 σ.2.1 1 ((((4 : Int32) * r3) + (1 : Int32)).toNatClampNeg) ((σ.2.1 1 ((((4 : Int32) * r3) + (1 : Int32)).toNatClampNeg)) + (r27 - v37)), σ.2.2))) else oR (F_X3_jump r3 (r27 - v37) σ.1) (fun r529 => if inb (((4 : Int32) * r3) + (1 : Int32)) 64 then ((if ¬ r529.1 = ((up2 σ.2.1 1 ((((4 : Int32) * r3) + (1 : Int32)).toNatClampNeg) ((σ.2.1 1 ((((4 : Int32) * r3) + (1 : Int32)).toNatClampNeg)) + (r27 - v37))) 1 ((((4 : Int32) * r3) + (1 : Int32)).toNatClampNeg)) then some ((0 : Int32), (r529.2, (up2 σ.2.1 1 ((((4 : Int32) * r3) + (1 : Int32)).toNatClampNeg) ((σ.2.1 1 ((((4 : Int32) * r3) + (1 : Int32)).toNatClampNeg)) + (r27 - v37)), σ.2.2))) else some ((1 : Int32), (r529.2, (up2 σ.2.1 1 ((((4 : Int32) * r3) + (1 : Int32)).toNatClampNeg) ((σ.2.1 1 ((((4 : Int32) * r3) + (1 : Int32)).toNatClampNeg)) + (r27 - v37)), σ.2.2))))) else none))) else none)) else none) else none) else none) else if inb (((4 : Int32) * r3) + (2 : Int32)) 64 then (if inb (((4 : Int32) * r3) + (2 : Int32)) 64 then (oR (F_X3_speed r3 (r72 - v82) σ.1) (fun r462 => (if ¬ r462.1 = (σ.2.1 1 ((((4 : Int32) * r3) + (2 : Int32)).toNatClampNeg)) then some ((0 : Int32), (r462.2, (up2 σ.2.1 1 ((((4 : Int32) * r3) + (2 : Int32)).toNatClampNeg) (r72 - v82), σ.2.2))) else some ((1 : Int32), (r462.2, (up2 σ.2.1 1 ((((4 : Int32) * r3) + (2 : Int32)).toNatClampNeg) (r72 - v82), σ.2.2)))))) else none) else none) else some ((1 : Int32), σ))) else none else Option.bind (F_L_at a3 (16 : Int32)) (fun r324 => Option.bind (L_L_act_332 r3 r324 FU (0 : Int32) σ) (fun v332 : LM => oR (F_X3_swap r3 r324 v332.1) (fun r393 => (Option.bind (if ¬ r3 = r324 then some (-1 : Int32) else some (0 : Int32)) (fun v400 : Int32 => (if r393.1 < v400 then some ((0 : Int32), (r393.2, v332.2)) else some ((1 : Int32), (r393.2, v332.2))))))))) else Option.bind (F_L_at (a2 >>> ((6 : Int32) &&& 31)) (2 : Int32)) (fun r248 => if inb ((1 : Int32) + r248) 19 then ((Option.bind (if ¬ r248 = 0 then Option.bind (F_L_at a3 (999 : Int32)) (fun r286 => some ((1 : Int32) + r286)) else Option.bind (F_L_at a3 (2 : Int32)) (fun r275 => some r275)) (fun v270 : Int32 => if inb ((1 : Int32) + r248) 19 then (if inb ((1 : Int32) + r248) 19 then (oR (F_X3_set r248 ((up2 σ.2.1 0 (((1 : Int32) + r248).toNatClampNeg) v270) 0 (((1 : Int32) + r248).toNatClampNeg)) σ.1) (fun r301 => (if ¬ r301.1 = (σ.2.1 0 (((1 : Int32) + r248).toNatClampNeg)) then some ((0 : Int32), (r301.2, (up2 σ.2.1 0 (((1 : Int32) + r248).toNatClampNeg) v270, σ.2.2))) else some ((1 : Int32), (r301.2, (up2 σ.2.1 0 (((1 : Int32) + r248).toNatClampNeg) v270, σ.2.2)))))) else none) else none))) else none)) else Option.bind (F_L_at a2 (3 : Int32)) (fun r208 => (Option.bind (if ¬ r208 = 0 then some (6 : Int32) else some (99 : Int32)) (fun v211 : Int32 => Option.bind (F_L_at a3 v211) (fun r221 => Option.bind (F_L_passes ((1 : Int32) + r221) σ) (fun r233 => some (r233.1, r233.2))))))) else Option.bind (L_L_act_102 (r27 - v37) (r72 - v82) σ FU (0 : Int32)) (fun v102 : Int32 => (if ¬ v102 = (16 : Int32) then if inb ((4 : Int32) * v102) 64 then (if inb (((4 : Int32) * v102) + (1 : Int32)) 64 then (if inb (((4 : Int32) * v102) + (2 : Int32)) 64 then (if inb (((4 : Int32) * v102) + (3 : Int32)) 64 then (oR (F_X3_add (r27 - v37) (r72 - v82) σ.1) (fun r183 => (if ¬ r183.1 = v102 then some ((0 : Int32), (r183.2, (up2 (up2 (up2 (up2 σ.2.1 1 (((4 : Int32) * v102).toNatClampNeg) (1 : Int32)) 1 ((((4 : Int32) * v102) + (1 : Int32)).toNatClampNeg) (r27 - v37)) 1 ((((4 : Int32) * v102) + (2 : Int32)).toNatClampNeg) (r72 - v82)) 1 ((((4 : Int32) * v102) + (3 : Int32)).toNatClampNeg) ((up2 (up2 (up2 σ.2.1 1 (((4 : Int32) * v102).toNatClampNeg) (1 : Int32)) 1 ((((4 : Int32) * v102) + (1 : Int32)).toNatClampNeg) (r27 - v37)) 1 ((((4 : Int32) * v102) + (2 : Int32)).toNatClampNeg) (r72 - v82)) 0 0), σ.2.2))) else some ((1 : Int32), (r183.2, (up2 (up2 (up2 (up2 σ.2.1 1 (((4 : Int32) * v102).toNatClampNeg) (1 : Int32)) 1 ((((4 : Int32) * v102) + (1 : Int32)).toNatClampNeg) (r27 - v37)) 1 ((((4 : Int32) * v102) + (2 : Int32)).toNatClampNeg) (r72 - v82)) 1 ((((4 : Int32) * v102) + (3 : Int32)).toNatClampNeg) ((up2 (up2 (up2 σ.2.1 1 (((4 : Int32) * v102).toNatClampNeg) (1 : Int32)) 1 ((((4 : Int32) * v102) + (1 : Int32)).toNatClampNeg) (r27 - v37)) 1 ((((4 : Int32) * v102) + (2 : Int32)).toNatClampNeg) (r72 - v82)) 0 0), σ.2.2)))))) else none) else none) else none) else none else some ((1 : Int32), σ)))))))))))))))))))
set_option maxHeartbeats 4000000 in
set_option maxRecDepth 100000 in
theorem c_L_act {l : Launch} {D : va_G} {ay : Nat → ClassId} {ad : Nat → Nat} {a1 : Int32} {a2 : Int32} {a3 : Int32} {σ : LM} {res : Int32 × LM} (hI : axOK ad) (hF : F_L_act a1 a2 a3 σ = some res) : Met l yL_act wsL_act ({ frames := 8, cells := 0, slots := 0, locals := 198 } : Room) (va_Pc [.ref (ad 0), .int a1, .int a2, .int a3, .ref (ad 108), .ref (ad 109), .ref (ad 110), .ref (ad 111)] (PP D ay (wX ay ad σ))) (va_Qi (pF res) (fun τ => PP D ay (wX ay ad τ)) (AX ad)) 0 0 (AX ad) := by
  refine g_start (wd := wX ay ad) (A := AX ad) (own := RL) (mL := 14) (rt := (some .boolean)) (by decide) rfl rfl (Nat.le_of_ble_eq_true rfl) ?_
  intro p e s m below meth c ls X hl
  have hl : lv_has ls 14 [(0, .ref (ad 0)), (1, .int a1), (2, .int a2), (3, .int a3), (4, .ref (ad 108)), (5, .ref (ad 109)), (6, .ref (ad 110)), (7, .ref (ad 111))] := hl
  rw [F_L_act] at hF
  refine g_iload_n X dL_act_0 rfl (lv_at hl 2 rfl) ?_
  refine g_bipush (v := 16) X dL_act_1 (by decide) ?_
  obtain ⟨r3, hr3, hF⟩ := obind hF
  refine k_Si X (As := [.int a2, .int (16 : Int32)]) (rest := []) (c_L_at hI hr3) (va_cwS 2 X.ts gL_act_L_at rfl rfl rfl (by decide +kernel) ⟨Nat.le_of_ble_eq_true rfl, Nat.le_of_ble_eq_true rfl⟩) rfl hl.1 rfl (Nat.le_of_ble_eq_true rfl) dL_act_3 ?_
  refine g_istore (lv' := [(8, _), (0, _), (1, _), (2, _), (3, _), (4, _), (5, _), (6, _), (7, _)]) X dL_act_6 hl (by decide) rfl (fun ls hl => ?_)
  refine g_iload_n X dL_act_8 rfl (lv_at hl 4 rfl) ?_
  refine g_iload_n X dL_act_9 rfl (lv_at hl 3 rfl) ?_
  refine g_iconst (v := 4) X dL_act_10 (by decide) ?_
  refine g_ishr X dL_act_11 ?_
  refine g_iconst (v := 3) X dL_act_12 (by decide) ?_
  obtain ⟨r13, hr13, hF⟩ := obind hF
  refine k_Si X (As := [.int (a2 >>> ((4 : Int32) &&& 31)), .int (3 : Int32)]) (rest := [.int a3]) (c_L_at hI hr13) (va_cwS 2 X.ts gL_act_L_at rfl rfl rfl (by decide +kernel) ⟨Nat.le_of_ble_eq_true rfl, Nat.le_of_ble_eq_true rfl⟩) rfl hl.1 rfl (Nat.le_of_ble_eq_true rfl) dL_act_13 ?_
  obtain ⟨v16, hR16, hF⟩ := obind hF
  refine g_cut (nM := 14) [(0, .ref (ad 0)), (1, .int a1), (2, .int a2), (3, .int a3), (4, .ref (ad 108)), (5, .ref (ad 109)), (6, .ref (ad 110)), (7, .ref (ad 111)), (8, .int r3)] (σ) 27 [.int v16, .int a3] (fun ls hl => ?_) (fun J16 => ?_)
  · obtain ⟨r27, hr27, hF⟩ := obind hF
    refine k_Si X (As := [.int a3, .int v16]) (rest := []) (c_L_at hI hr27) (va_cwS 2 X.ts gL_act_L_at rfl rfl rfl (by decide +kernel) ⟨Nat.le_of_ble_eq_true rfl, Nat.le_of_ble_eq_true rfl⟩) rfl hl.1 rfl (Nat.le_of_ble_eq_true rfl) dL_act_27 ?_
    refine g_iload_n X dL_act_30 rfl (lv_at hl 2 rfl) ?_
    refine g_iconst (v := 4) X dL_act_31 (by decide) ?_
    refine g_ishr X dL_act_32 ?_
    refine g_iconst (v := 3) X dL_act_33 (by decide) ?_
    obtain ⟨r34, hr34, hF⟩ := obind hF
    refine k_Si X (As := [.int (a2 >>> ((4 : Int32) &&& 31)), .int (3 : Int32)]) (rest := [.int r27]) (c_L_at hI hr34) (va_cwS 2 X.ts gL_act_L_at rfl rfl rfl (by decide +kernel) ⟨Nat.le_of_ble_eq_true rfl, Nat.le_of_ble_eq_true rfl⟩) rfl hl.1 rfl (Nat.le_of_ble_eq_true rfl) dL_act_34 ?_
    obtain ⟨v37, hR37, hF⟩ := obind hF
    refine g_cut (nM := 14) [(0, .ref (ad 0)), (1, .int a1), (2, .int a2), (3, .int a3), (4, .ref (ad 108)), (5, .ref (ad 109)), (6, .ref (ad 110)), (7, .ref (ad 111)), (8, .int r3)] (σ) 48 [.int v37, .int r27] (fun ls hl => ?_) (fun J37 => ?_)
    · refine g_isub X dL_act_48 ?_
      refine g_istore (lv' := [(9, _), (0, _), (1, _), (2, _), (3, _), (4, _), (5, _), (6, _), (7, _), (8, _)]) X dL_act_49 hl (by decide) rfl (fun ls hl => ?_)
      refine g_iload_n X dL_act_51 rfl (lv_at hl 4 rfl) ?_
      refine g_iconst (v := 5) X dL_act_52 (by decide) ?_
      refine g_ishr X dL_act_53 ?_
      refine g_iload_n X dL_act_54 rfl (lv_at hl 3 rfl) ?_
      refine g_iconst (v := 5) X dL_act_55 (by decide) ?_
      refine g_ishr X dL_act_56 ?_
      refine g_iconst (v := 3) X dL_act_57 (by decide) ?_
      obtain ⟨r58, hr58, hF⟩ := obind hF
      refine k_Si X (As := [.int (a2 >>> ((5 : Int32) &&& 31)), .int (3 : Int32)]) (rest := [.int (a3 >>> ((5 : Int32) &&& 31))]) (c_L_at hI hr58) (va_cwS 2 X.ts gL_act_L_at rfl rfl rfl (by decide +kernel) ⟨Nat.le_of_ble_eq_true rfl, Nat.le_of_ble_eq_true rfl⟩) rfl hl.1 rfl (Nat.le_of_ble_eq_true rfl) dL_act_58 ?_
      obtain ⟨v61, hR61, hF⟩ := obind hF
      refine g_cut (nM := 14) [(0, .ref (ad 0)), (1, .int a1), (2, .int a2), (3, .int a3), (4, .ref (ad 108)), (5, .ref (ad 109)), (6, .ref (ad 110)), (7, .ref (ad 111)), (8, .int r3), (9, .int (r27 - v37))] (σ) 72 [.int v61, .int (a3 >>> ((5 : Int32) &&& 31))] (fun ls hl => ?_) (fun J61 => ?_)
      · obtain ⟨r72, hr72, hF⟩ := obind hF
        refine k_Si X (As := [.int (a3 >>> ((5 : Int32) &&& 31)), .int v61]) (rest := []) (c_L_at hI hr72) (va_cwS 2 X.ts gL_act_L_at rfl rfl rfl (by decide +kernel) ⟨Nat.le_of_ble_eq_true rfl, Nat.le_of_ble_eq_true rfl⟩) rfl hl.1 rfl (Nat.le_of_ble_eq_true rfl) dL_act_72 ?_
        refine g_iload_n X dL_act_75 rfl (lv_at hl 2 rfl) ?_
        refine g_iconst (v := 5) X dL_act_76 (by decide) ?_
        refine g_ishr X dL_act_77 ?_
        refine g_iconst (v := 3) X dL_act_78 (by decide) ?_
        obtain ⟨r79, hr79, hF⟩ := obind hF
        refine k_Si X (As := [.int (a2 >>> ((5 : Int32) &&& 31)), .int (3 : Int32)]) (rest := [.int r72]) (c_L_at hI hr79) (va_cwS 2 X.ts gL_act_L_at rfl rfl rfl (by decide +kernel) ⟨Nat.le_of_ble_eq_true rfl, Nat.le_of_ble_eq_true rfl⟩) rfl hl.1 rfl (Nat.le_of_ble_eq_true rfl) dL_act_79 ?_
        obtain ⟨v82, hR82, hF⟩ := obind hF
        refine g_cut (nM := 14) [(0, .ref (ad 0)), (1, .int a1), (2, .int a2), (3, .int a3), (4, .ref (ad 108)), (5, .ref (ad 109)), (6, .ref (ad 110)), (7, .ref (ad 111)), (8, .int r3), (9, .int (r27 - v37))] (σ) 91 [.int v82, .int r72] (fun ls hl => ?_) (fun J82 => ?_)
        · refine g_isub X dL_act_91 ?_
          refine g_istore (lv' := [(10, _), (0, _), (1, _), (2, _), (3, _), (4, _), (5, _), (6, _), (7, _), (8, _), (9, _)]) X dL_act_92 hl (by decide) rfl (fun ls hl => ?_)
          refine g_iload_n X dL_act_94 rfl (lv_at hl 2 rfl) ?_
          refine g_iconst (v := 5) X dL_act_95 (by decide) ?_
          refine g_icmp_ge (tgt := 197) X dL_act_96 (by decide) (fun hc96 => ?_) (fun hc96 => ?_)
          · have hF := ite_t hF hc96
            refine g_iload_n X dL_act_197 rfl (lv_at hl 2 rfl) ?_
            refine g_bipush (v := 8) X dL_act_198 (by decide) ?_
            refine g_icmp_ge (tgt := 237) X dL_act_200 (by decide) (fun hc200 => ?_) (fun hc200 => ?_)
            · have hF := ite_t hF hc200
              refine g_iload_n X dL_act_237 rfl (lv_at hl 2 rfl) ?_
              refine g_bipush (v := 8) X dL_act_238 (by decide) ?_
              refine g_icmp_ne (tgt := 315) X dL_act_240 (by decide) (fun hc240 => ?_) (fun hc240 => ?_)
              · have hF := ite_t hF hc240
                refine g_iload_n X dL_act_315 rfl (lv_at hl 2 rfl) ?_
                refine g_bipush (v := 9) X dL_act_316 (by decide) ?_
                refine g_icmp_ne (tgt := 417) X dL_act_318 (by decide) (fun hc318 => ?_) (fun hc318 => ?_)
                · have hF := ite_t hF hc318
                  refine g_aload X dL_act_417 (lv_at hl 6 rfl) ?_
                  refine g_iconst (v := 4) X dL_act_419 (by decide) ?_
                  refine g_iload X dL_act_420 (lv_at hl 9 rfl) ?_
                  refine g_imul X dL_act_422 ?_
                  obtain ⟨h423, hF⟩ := itn hF
                  refine g_iald X 109 (j := ((4 : Int32) * r3).toNatClampNeg) (xa_m) (by first | rfl | decide) (inb_in h423) dL_act_423 ?_
                  refine g_if_ne (tgt := 429) X dL_act_424 (by decide) (fun hc424 => ?_) (fun hc424 => ?_)
                  · have hF := ite_t hF hc424
                    refine g_iload_n X dL_act_429 rfl (lv_at hl 2 rfl) ?_
                    refine g_bipush (v := 12) X dL_act_430 (by decide) ?_
                    refine g_icmp_ge (tgt := 476) X dL_act_432 (by decide) (fun hc432 => ?_) (fun hc432 => ?_)
                    · have hF := ite_t hF hc432
                      refine g_iload_n X dL_act_476 rfl (lv_at hl 2 rfl) ?_
                      refine g_bipush (v := 12) X dL_act_477 (by decide) ?_
                      refine g_icmp_ne (tgt := 550) X dL_act_479 (by decide) (fun hc479 => ?_) (fun hc479 => ?_)
                      · have hF := ite_t hF hc479
                        refine g_aload X dL_act_550 (lv_at hl 6 rfl) ?_
                        refine g_iconst (v := 4) X dL_act_552 (by decide) ?_
                        refine g_iload X dL_act_553 (lv_at hl 9 rfl) ?_
                        refine g_imul X dL_act_555 ?_
                        refine g_iconst (v := 1) X dL_act_556 (by decide) ?_
                        refine g_iadd X dL_act_557 ?_
                        obtain ⟨h558, hF⟩ := itn hF
                        refine g_iald X 109 (j := (((4 : Int32) * r3) + (1 : Int32)).toNatClampNeg) (xa_m) (by first | rfl | decide) (inb_in h558) dL_act_558 ?_
                        refine g_istore (lv' := [(11, _), (10, _), (0, _), (1, _), (2, _), (3, _), (4, _), (5, _), (6, _), (7, _), (8, _), (9, _)]) X dL_act_559 hl (by decide) rfl (fun ls hl => ?_)
                        refine g_iconst (v := 0) X dL_act_561 (by decide) ?_
                        refine g_istore (lv' := [(12, _), (11, _), (10, _), (0, _), (1, _), (2, _), (3, _), (4, _), (5, _), (6, _), (7, _), (8, _), (9, _)]) X dL_act_562 hl (by decide) rfl (fun ls hl => ?_)
                        obtain ⟨v564, hL564, hF⟩ := obind hF
                        refine w_L_act_564 X hI (fun ls hl => ?_) FU (0 : Int32) σ hL564 ls (lv_sub hl [3, 8, 11, 1, 0] rfl)
                        refine g_aload_n X dL_act_587 rfl (lv_at hl 0 rfl) ?_
                        refine g_iload X dL_act_588 (lv_at hl 1 rfl) ?_
                        obtain ⟨r590, hr590, hF⟩ := oR_some hF
                        refine kx_Vie X hI (As := [.int r3]) (rest := []) (c_X3_remove hI.c hr590) (cwV 1 X.ts gL_act_X3_remove rfl rfl rfl (by decide +kernel) ⟨Nat.le_of_ble_eq_true rfl, Nat.le_of_ble_eq_true rfl⟩) rfl hl.1 rfl (Nat.le_of_ble_eq_true rfl) dL_act_590 ?_
                        refine g_iload X dL_act_593 (lv_at hl 2 rfl) ?_
                        refine g_icmp_ne (tgt := 602) X dL_act_595 (by decide) (fun hc595 => ?_) (fun hc595 => ?_)
                        · have hF := ite_t hF hc595
                          refine g_iconst (v := 0) X dL_act_602 (by decide) ?_
                          exact g_zret X rfl (pF_mk (some_inj hF) rfl) dL_act_603
                        · have hF := ite_n hF hc595
                          refine g_iconst (v := 1) X dL_act_598 (by decide) ?_
                          refine g_goto (tgt := 603) X dL_act_599 (by decide) ?_
                          exact g_zret X rfl (pF_mk (some_inj hF) rfl) dL_act_603
                      · have hF := ite_n hF hc479
                        refine g_aload X dL_act_482 (lv_at hl 6 rfl) ?_
                        refine g_iconst (v := 4) X dL_act_484 (by decide) ?_
                        refine g_iload X dL_act_485 (lv_at hl 9 rfl) ?_
                        refine g_imul X dL_act_487 ?_
                        refine g_iconst (v := 1) X dL_act_488 (by decide) ?_
                        refine g_iadd X dL_act_489 ?_
                        refine g_dup2 X dL_act_490 rfl rfl ?_
                        obtain ⟨h491, hF⟩ := itn hF
                        refine g_iald X 109 (j := (((4 : Int32) * r3) + (1 : Int32)).toNatClampNeg) (xa_m) (by first | rfl | decide) (inb_in h491) dL_act_491 ?_
                        refine g_iload X dL_act_492 (lv_at hl 10 rfl) ?_
                        refine g_iadd X dL_act_494 ?_
                        obtain ⟨h495, hF⟩ := itn hF
                        refine g_iast X (wX_D hI) (σ.1, (up2 σ.2.1 1 ((((4 : Int32) * r3) + (1 : Int32)).toNatClampNeg) ((σ.2.1 1 ((((4 : Int32) * r3) + (1 : Int32)).toNatClampNeg)) + (r27 - v37)), σ.2.2)) 109 (j := (((4 : Int32) * r3) + (1 : Int32)).toNatClampNeg) (xa_m) (by first | rfl | decide) set_xm (inb_in h495) dL_act_495 ?_
                        refine g_aload X dL_act_496 (lv_at hl 6 rfl) ?_
                        refine g_iconst (v := 4) X dL_act_498 (by decide) ?_
                        refine g_iload X dL_act_499 (lv_at hl 9 rfl) ?_
                        refine g_imul X dL_act_501 ?_
                        refine g_iconst (v := 1) X dL_act_502 (by decide) ?_
                        refine g_iadd X dL_act_503 ?_
                        obtain ⟨h504, hF⟩ := itn hF
                        refine g_iald X 109 (j := (((4 : Int32) * r3) + (1 : Int32)).toNatClampNeg) (xa_m) (by first | rfl | decide) (inb_in h504) dL_act_504 ?_
                        refine g_ldc X dL_act_505 (X.ts (.constant RL 85 (-1000000)) (by decide +kernel)) ?_
                        refine g_icmp_le (tgt := 548) X dL_act_507 (by decide) (fun hc507 => ?_) (fun hc507 => ?_)
                        · have hF := ite_t hF hc507
                          refine g_iconst (v := 0) X dL_act_548 (by decide) ?_
                          exact g_zret X rfl (pF_mk (some_inj hF) rfl) dL_act_549
                        · have hF := ite_f hF hc507
                          refine g_aload X dL_act_510 (lv_at hl 6 rfl) ?_
                          refine g_iconst (v := 4) X dL_act_512 (by decide) ?_
                          refine g_iload X dL_act_513 (lv_at hl 9 rfl) ?_
                          refine g_imul X dL_act_515 ?_
                          refine g_iconst (v := 1) X dL_act_516 (by decide) ?_
                          refine g_iadd X dL_act_517 ?_
                          obtain ⟨h518, hF⟩ := itn hF
                          refine g_iald X 109 (j := (((4 : Int32) * r3) + (1 : Int32)).toNatClampNeg) (xa_m) (by first | rfl | decide) (inb_in h518) dL_act_518 ?_
                          refine g_ldc X dL_act_519 (X.ts (.constant RL 86 (1000000)) (by decide +kernel)) ?_
                          refine g_icmp_ge (tgt := 548) X dL_act_521 (by decide) (fun hc521 => ?_) (fun hc521 => ?_)
                          · have hF := ite_t hF hc521
                            refine g_iconst (v := 0) X dL_act_548 (by decide) ?_
                            exact g_zret X rfl (pF_mk (some_inj hF) rfl) dL_act_549
                          · have hF := ite_f hF hc521
                            refine g_aload_n X dL_act_524 rfl (lv_at hl 1 rfl) ?_
                            refine g_iload X dL_act_525 (lv_at hl 9 rfl) ?_
                            refine g_iload X dL_act_527 (lv_at hl 10 rfl) ?_
                            obtain ⟨r529, hr529, hF⟩ := oR_some hF
                            refine kx_Vie X hI (As := [.int r3, .int (r27 - v37)]) (rest := []) (c_X3_jump hI.c hr529) (cwV 2 X.ts gL_act_X3_jump rfl rfl rfl (by decide +kernel) ⟨Nat.le_of_ble_eq_true rfl, Nat.le_of_ble_eq_true rfl⟩) rfl hl.1 rfl (Nat.le_of_ble_eq_true rfl) dL_act_529 ?_
                            refine g_aload X dL_act_532 (lv_at hl 6 rfl) ?_
                            refine g_iconst (v := 4) X dL_act_534 (by decide) ?_
                            refine g_iload X dL_act_535 (lv_at hl 9 rfl) ?_
                            refine g_imul X dL_act_537 ?_
                            refine g_iconst (v := 1) X dL_act_538 (by decide) ?_
                            refine g_iadd X dL_act_539 ?_
                            obtain ⟨h540, hF⟩ := itn hF
                            refine g_iald X 109 (j := (((4 : Int32) * r3) + (1 : Int32)).toNatClampNeg) (xa_m) (by first | rfl | decide) (inb_in h540) dL_act_540 ?_
                            refine g_icmp_ne (tgt := 548) X dL_act_541 (by decide) (fun hc541 => ?_) (fun hc541 => ?_)
                            · have hF := ite_t hF hc541
                              refine g_iconst (v := 0) X dL_act_548 (by decide) ?_
                              exact g_zret X rfl (pF_mk (some_inj hF) rfl) dL_act_549
                            · have hF := ite_n hF hc541
                              refine g_iconst (v := 1) X dL_act_544 (by decide) ?_
                              refine g_goto (tgt := 549) X dL_act_545 (by decide) ?_
                              exact g_zret X rfl (pF_mk (some_inj hF) rfl) dL_act_549
                    · have hF := ite_f hF hc432
                      refine g_aload X dL_act_435 (lv_at hl 6 rfl) ?_
                      refine g_iconst (v := 4) X dL_act_437 (by decide) ?_
                      refine g_iload X dL_act_438 (lv_at hl 9 rfl) ?_
                      refine g_imul X dL_act_440 ?_
                      refine g_iconst (v := 2) X dL_act_441 (by decide) ?_
                      refine g_iadd X dL_act_442 ?_
                      obtain ⟨h443, hF⟩ := itn hF
                      refine g_iald X 109 (j := (((4 : Int32) * r3) + (2 : Int32)).toNatClampNeg) (xa_m) (by first | rfl | decide) (inb_in h443) dL_act_443 ?_
                      refine g_istore (lv' := [(11, _), (10, _), (0, _), (1, _), (2, _), (3, _), (4, _), (5, _), (6, _), (7, _), (8, _), (9, _)]) X dL_act_444 hl (by decide) rfl (fun ls hl => ?_)
                      refine g_aload X dL_act_446 (lv_at hl 7 rfl) ?_
                      refine g_iconst (v := 4) X dL_act_448 (by decide) ?_
                      refine g_iload X dL_act_449 (lv_at hl 10 rfl) ?_
                      refine g_imul X dL_act_451 ?_
                      refine g_iconst (v := 2) X dL_act_452 (by decide) ?_
                      refine g_iadd X dL_act_453 ?_
                      refine g_iload X dL_act_454 (lv_at hl 1 rfl) ?_
                      obtain ⟨h456, hF⟩ := itn hF
                      refine g_iast X (wX_D hI) (σ.1, (up2 σ.2.1 1 ((((4 : Int32) * r3) + (2 : Int32)).toNatClampNeg) (r72 - v82), σ.2.2)) 109 (j := (((4 : Int32) * r3) + (2 : Int32)).toNatClampNeg) (xa_m) (by first | rfl | decide) set_xm (inb_in h456) dL_act_456 ?_
                      refine g_aload_n X dL_act_457 rfl (lv_at hl 2 rfl) ?_
                      refine g_iload X dL_act_458 (lv_at hl 10 rfl) ?_
                      refine g_iload X dL_act_460 (lv_at hl 1 rfl) ?_
                      obtain ⟨r462, hr462, hF⟩ := oR_some hF
                      refine kx_Vie X hI (As := [.int r3, .int (r72 - v82)]) (rest := []) (c_X3_speed hI.c hr462) (cwV 2 X.ts gL_act_X3_speed rfl rfl rfl (by decide +kernel) ⟨Nat.le_of_ble_eq_true rfl, Nat.le_of_ble_eq_true rfl⟩) rfl hl.1 rfl (Nat.le_of_ble_eq_true rfl) dL_act_462 ?_
                      refine g_iload X dL_act_465 (lv_at hl 0 rfl) ?_
                      refine g_icmp_ne (tgt := 474) X dL_act_467 (by decide) (fun hc467 => ?_) (fun hc467 => ?_)
                      · have hF := ite_t hF hc467
                        refine g_iconst (v := 0) X dL_act_474 (by decide) ?_
                        exact g_zret X rfl (pF_mk (some_inj hF) rfl) dL_act_475
                      · have hF := ite_n hF hc467
                        refine g_iconst (v := 1) X dL_act_470 (by decide) ?_
                        refine g_goto (tgt := 475) X dL_act_471 (by decide) ?_
                        exact g_zret X rfl (pF_mk (some_inj hF) rfl) dL_act_475
                  · have hF := ite_n hF hc424
                    refine g_iconst (v := 1) X dL_act_427 (by decide) ?_
                    exact g_zret X rfl (pF_mk (some_inj hF) rfl) dL_act_428
                · have hF := ite_n hF hc318
                  refine g_iload_n X dL_act_321 rfl (lv_at hl 4 rfl) ?_
                  refine g_bipush (v := 16) X dL_act_322 (by decide) ?_
                  obtain ⟨r324, hr324, hF⟩ := obind hF
                  refine k_Si X (As := [.int a3, .int (16 : Int32)]) (rest := []) (c_L_at hI hr324) (va_cwS 2 X.ts gL_act_L_at rfl rfl rfl (by decide +kernel) ⟨Nat.le_of_ble_eq_true rfl, Nat.le_of_ble_eq_true rfl⟩) rfl hl.1 rfl (Nat.le_of_ble_eq_true rfl) dL_act_324 ?_
                  refine g_istore (lv' := [(11, _), (10, _), (0, _), (1, _), (2, _), (3, _), (4, _), (5, _), (6, _), (7, _), (8, _), (9, _)]) X dL_act_327 hl (by decide) rfl (fun ls hl => ?_)
                  refine g_iconst (v := 0) X dL_act_329 (by decide) ?_
                  refine g_istore (lv' := [(12, _), (11, _), (10, _), (0, _), (1, _), (2, _), (3, _), (4, _), (5, _), (6, _), (7, _), (8, _), (9, _)]) X dL_act_330 hl (by decide) rfl (fun ls hl => ?_)
                  obtain ⟨v332, hL332, hF⟩ := obind hF
                  refine w_L_act_332 X hI (fun ls hl => ?_) FU (0 : Int32) σ hL332 ls (lv_sub hl [3, 8, 11, 1, 0] rfl)
                  refine g_aload_n X dL_act_388 rfl (lv_at hl 0 rfl) ?_
                  refine g_iload X dL_act_389 (lv_at hl 1 rfl) ?_
                  refine g_iload X dL_act_391 (lv_at hl 2 rfl) ?_
                  obtain ⟨r393, hr393, hF⟩ := oR_some hF
                  refine kx_Vie X hI (As := [.int r3, .int r324]) (rest := []) (c_X3_swap hI.c hr393) (cwV 2 X.ts gL_act_X3_swap rfl rfl rfl (by decide +kernel) ⟨Nat.le_of_ble_eq_true rfl, Nat.le_of_ble_eq_true rfl⟩) rfl hl.1 rfl (Nat.le_of_ble_eq_true rfl) dL_act_393 ?_
                  refine g_iload X dL_act_396 (lv_at hl 1 rfl) ?_
                  refine g_iload X dL_act_398 (lv_at hl 2 rfl) ?_
                  obtain ⟨v400, hR400, hF⟩ := obind hF
                  refine g_cut (nM := 14) [] ((r393.2, v332.2)) 408 [.int v400, .int r393.1] (fun ls hl => ?_) (fun J400 => ?_)
                  · refine g_icmp_lt (tgt := 415) X dL_act_408 (by decide) (fun hc408 => ?_) (fun hc408 => ?_)
                    · have hF := ite_t hF hc408
                      refine g_iconst (v := 0) X dL_act_415 (by decide) ?_
                      exact g_zret X rfl (pF_mk (some_inj hF) rfl) dL_act_416
                    · have hF := ite_f hF hc408
                      refine g_iconst (v := 1) X dL_act_411 (by decide) ?_
                      refine g_goto (tgt := 416) X dL_act_412 (by decide) ?_
                      exact g_zret X rfl (pF_mk (some_inj hF) rfl) dL_act_416
                  · refine g_icmp_ne (tgt := 407) X dL_act_400 (by decide) (fun hc400 => ?_) (fun hc400 => ?_)
                    · have hR400 := ite_t hR400 hc400
                      refine g_iconst (v := -1) X dL_act_407 (by decide) ?_
                      have e400 := some_inj hR400
                      subst e400
                      exact J400 ls (lv_sub hl [] rfl)
                    · have hR400 := ite_n hR400 hc400
                      refine g_iconst (v := 0) X dL_act_403 (by decide) ?_
                      refine g_goto (tgt := 408) X dL_act_404 (by decide) ?_
                      have e400 := some_inj hR400
                      subst e400
                      exact J400 ls (lv_sub hl [] rfl)
              · have hF := ite_n hF hc240
                refine g_iload_n X dL_act_243 rfl (lv_at hl 3 rfl) ?_
                refine g_bipush (v := 6) X dL_act_244 (by decide) ?_
                refine g_ishr X dL_act_246 ?_
                refine g_iconst (v := 2) X dL_act_247 (by decide) ?_
                obtain ⟨r248, hr248, hF⟩ := obind hF
                refine k_Si X (As := [.int (a2 >>> ((6 : Int32) &&& 31)), .int (2 : Int32)]) (rest := []) (c_L_at hI hr248) (va_cwS 2 X.ts gL_act_L_at rfl rfl rfl (by decide +kernel) ⟨Nat.le_of_ble_eq_true rfl, Nat.le_of_ble_eq_true rfl⟩) rfl hl.1 rfl (Nat.le_of_ble_eq_true rfl) dL_act_248 ?_
                refine g_istore (lv' := [(11, _), (10, _), (0, _), (1, _), (2, _), (3, _), (4, _), (5, _), (6, _), (7, _), (8, _), (9, _)]) X dL_act_251 hl (by decide) rfl (fun ls hl => ?_)
                refine g_aload X dL_act_253 (lv_at hl 6 rfl) ?_
                refine g_iconst (v := 1) X dL_act_255 (by decide) ?_
                refine g_iload X dL_act_256 (lv_at hl 0 rfl) ?_
                refine g_iadd X dL_act_258 ?_
                obtain ⟨h259, hF⟩ := itn hF
                refine g_iald X 108 (j := ((1 : Int32) + r248).toNatClampNeg) (xa_c) (by first | rfl | decide) (inb_in h259) dL_act_259 ?_
                refine g_istore (lv' := [(12, _), (11, _), (10, _), (0, _), (1, _), (2, _), (3, _), (4, _), (5, _), (6, _), (7, _), (8, _), (9, _)]) X dL_act_260 hl (by decide) rfl (fun ls hl => ?_)
                refine g_aload X dL_act_262 (lv_at hl 7 rfl) ?_
                refine g_iconst (v := 1) X dL_act_264 (by decide) ?_
                refine g_iload X dL_act_265 (lv_at hl 1 rfl) ?_
                refine g_iadd X dL_act_267 ?_
                refine g_iload X dL_act_268 (lv_at hl 1 rfl) ?_
                obtain ⟨v270, hR270, hF⟩ := obind hF
                refine g_cut (nM := 14) [(0, .ref (ad 0)), (4, .ref (ad 108)), (11, .int r248), (12, .int (σ.2.1 0 (((1 : Int32) + r248).toNatClampNeg)))] (σ) 290 [.int v270, .int ((1 : Int32) + r248), .ref (ad 108)] (fun ls hl => ?_) (fun J270 => ?_)
                · obtain ⟨h290, hF⟩ := itn hF
                  refine g_iast X (wX_D hI) (σ.1, (up2 σ.2.1 0 (((1 : Int32) + r248).toNatClampNeg) v270, σ.2.2)) 108 (j := ((1 : Int32) + r248).toNatClampNeg) (xa_c) (by first | rfl | decide) set_xc (inb_in h290) dL_act_290 ?_
                  refine g_aload_n X dL_act_291 rfl (lv_at hl 0 rfl) ?_
                  refine g_iload X dL_act_292 (lv_at hl 2 rfl) ?_
                  refine g_aload X dL_act_294 (lv_at hl 1 rfl) ?_
                  refine g_iconst (v := 1) X dL_act_296 (by decide) ?_
                  refine g_iload X dL_act_297 (lv_at hl 2 rfl) ?_
                  refine g_iadd X dL_act_299 ?_
                  obtain ⟨h300, hF⟩ := itn hF
                  refine g_iald X 108 (j := ((1 : Int32) + r248).toNatClampNeg) (xa_c) (by first | rfl | decide) (inb_in h300) dL_act_300 ?_
                  obtain ⟨r301, hr301, hF⟩ := oR_some hF
                  refine kx_Vie X hI (As := [.int r248, .int ((up2 σ.2.1 0 (((1 : Int32) + r248).toNatClampNeg) v270) 0 (((1 : Int32) + r248).toNatClampNeg))]) (rest := []) (c_X3_set hI.c hr301) (cwV 2 X.ts gL_act_X3_set rfl rfl rfl (by decide +kernel) ⟨Nat.le_of_ble_eq_true rfl, Nat.le_of_ble_eq_true rfl⟩) rfl hl.1 rfl (Nat.le_of_ble_eq_true rfl) dL_act_301 ?_
                  refine g_iload X dL_act_304 (lv_at hl 3 rfl) ?_
                  refine g_icmp_ne (tgt := 313) X dL_act_306 (by decide) (fun hc306 => ?_) (fun hc306 => ?_)
                  · have hF := ite_t hF hc306
                    refine g_iconst (v := 0) X dL_act_313 (by decide) ?_
                    exact g_zret X rfl (pF_mk (some_inj hF) rfl) dL_act_314
                  · have hF := ite_n hF hc306
                    refine g_iconst (v := 1) X dL_act_309 (by decide) ?_
                    refine g_goto (tgt := 314) X dL_act_310 (by decide) ?_
                    exact g_zret X rfl (pF_mk (some_inj hF) rfl) dL_act_314
                · refine g_if_ne (tgt := 281) X dL_act_270 (by decide) (fun hc270 => ?_) (fun hc270 => ?_)
                  · have hR270 := ite_t hR270 hc270
                    refine g_iconst (v := 1) X dL_act_281 (by decide) ?_
                    refine g_iload_n X dL_act_282 rfl (lv_at hl 6 rfl) ?_
                    refine g_sipush (v := 999) X dL_act_283 (by decide) ?_
                    obtain ⟨r286, hr286, hR270⟩ := obind hR270
                    refine k_Si X (As := [.int a3, .int (999 : Int32)]) (rest := [.int (1 : Int32), .int ((1 : Int32) + r248), .ref (ad 108)]) (c_L_at hI hr286) (va_cwS 2 X.ts gL_act_L_at rfl rfl rfl (by decide +kernel) ⟨Nat.le_of_ble_eq_true rfl, Nat.le_of_ble_eq_true rfl⟩) rfl hl.1 rfl (Nat.le_of_ble_eq_true rfl) dL_act_286 ?_
                    refine g_iadd X dL_act_289 ?_
                    have e270 := some_inj hR270
                    subst e270
                    exact J270 ls (lv_sub hl [3, 7, 1, 0] rfl)
                  · have hR270 := ite_n hR270 hc270
                    refine g_iload_n X dL_act_273 rfl (lv_at hl 6 rfl) ?_
                    refine g_iconst (v := 2) X dL_act_274 (by decide) ?_
                    obtain ⟨r275, hr275, hR270⟩ := obind hR270
                    refine k_Si X (As := [.int a3, .int (2 : Int32)]) (rest := [.int ((1 : Int32) + r248), .ref (ad 108)]) (c_L_at hI hr275) (va_cwS 2 X.ts gL_act_L_at rfl rfl rfl (by decide +kernel) ⟨Nat.le_of_ble_eq_true rfl, Nat.le_of_ble_eq_true rfl⟩) rfl hl.1 rfl (Nat.le_of_ble_eq_true rfl) dL_act_275 ?_
                    refine g_goto (tgt := 290) X dL_act_278 (by decide) ?_
                    have e270 := some_inj hR270
                    subst e270
                    exact J270 ls (lv_sub hl [3, 7, 1, 0] rfl)
            · have hF := ite_f hF hc200
              refine g_aload_n X dL_act_203 rfl (lv_at hl 1 rfl) ?_
              refine g_iconst (v := 1) X dL_act_204 (by decide) ?_
              refine g_iload_n X dL_act_205 rfl (lv_at hl 4 rfl) ?_
              refine g_iload_n X dL_act_206 rfl (lv_at hl 3 rfl) ?_
              refine g_iconst (v := 3) X dL_act_207 (by decide) ?_
              obtain ⟨r208, hr208, hF⟩ := obind hF
              refine k_Si X (As := [.int a2, .int (3 : Int32)]) (rest := [.int a3, .int (1 : Int32), .ref (ad 0)]) (c_L_at hI hr208) (va_cwS 2 X.ts gL_act_L_at rfl rfl rfl (by decide +kernel) ⟨Nat.le_of_ble_eq_true rfl, Nat.le_of_ble_eq_true rfl⟩) rfl hl.1 rfl (Nat.le_of_ble_eq_true rfl) dL_act_208 ?_
              obtain ⟨v211, hR211, hF⟩ := obind hF
              refine g_cut (nM := 14) [(4, .ref (ad 108)), (5, .ref (ad 109)), (6, .ref (ad 110)), (7, .ref (ad 111))] (σ) 221 [.int v211, .int a3, .int (1 : Int32), .ref (ad 0)] (fun ls hl => ?_) (fun J211 => ?_)
              · obtain ⟨r221, hr221, hF⟩ := obind hF
                refine k_Si X (As := [.int a3, .int v211]) (rest := [.int (1 : Int32), .ref (ad 0)]) (c_L_at hI hr221) (va_cwS 2 X.ts gL_act_L_at rfl rfl rfl (by decide +kernel) ⟨Nat.le_of_ble_eq_true rfl, Nat.le_of_ble_eq_true rfl⟩) rfl hl.1 rfl (Nat.le_of_ble_eq_true rfl) dL_act_221 ?_
                refine g_iadd X dL_act_224 ?_
                refine g_aload X dL_act_225 (lv_at hl 0 rfl) ?_
                refine g_aload X dL_act_227 (lv_at hl 1 rfl) ?_
                refine g_aload X dL_act_229 (lv_at hl 2 rfl) ?_
                refine g_aload X dL_act_231 (lv_at hl 3 rfl) ?_
                obtain ⟨r233, hr233, hF⟩ := obind hF
                refine k_Sze X (As := [.ref (ad 0), .int ((1 : Int32) + r221), .ref (ad 108), .ref (ad 109), .ref (ad 110), .ref (ad 111)]) (rest := []) (c_L_passes hI hr233) (va_cwS 6 X.ts gL_act_L_passes rfl rfl rfl (by decide +kernel) ⟨Nat.le_of_ble_eq_true rfl, Nat.le_of_ble_eq_true rfl⟩) rfl hl.1 rfl (Nat.le_of_ble_eq_true rfl) dL_act_233 (fun hz233 => ?_)
                exact g_zret X hz233 (pF_mk (some_inj hF) hz233) dL_act_236
              · refine g_if_ne (tgt := 219) X dL_act_211 (by decide) (fun hc211 => ?_) (fun hc211 => ?_)
                · have hR211 := ite_t hR211 hc211
                  refine g_bipush (v := 6) X dL_act_219 (by decide) ?_
                  have e211 := some_inj hR211
                  subst e211
                  exact J211 ls (lv_sub hl [5, 6, 7, 8] rfl)
                · have hR211 := ite_n hR211 hc211
                  refine g_bipush (v := 99) X dL_act_214 (by decide) ?_
                  refine g_goto (tgt := 221) X dL_act_216 (by decide) ?_
                  have e211 := some_inj hR211
                  subst e211
                  exact J211 ls (lv_sub hl [5, 6, 7, 8] rfl)
          · have hF := ite_f hF hc96
            refine g_iconst (v := 0) X dL_act_99 (by decide) ?_
            refine g_istore (lv' := [(11, _), (10, _), (0, _), (1, _), (2, _), (3, _), (4, _), (5, _), (6, _), (7, _), (8, _), (9, _)]) X dL_act_100 hl (by decide) rfl (fun ls hl => ?_)
            obtain ⟨v102, hL102, hF⟩ := obind hF
            refine w_L_act_102 X hI (fun ls hl => ?_) FU (0 : Int32) hL102 ls (lv_sub hl [2, 6, 7, 11, 1, 0] rfl)
            refine g_iload X dL_act_126 (lv_at hl 5 rfl) ?_
            refine g_bipush (v := 16) X dL_act_128 (by decide) ?_
            refine g_icmp_ne (tgt := 135) X dL_act_130 (by decide) (fun hc130 => ?_) (fun hc130 => ?_)
            · have hF := ite_t hF hc130
              refine g_aload X dL_act_135 (lv_at hl 2 rfl) ?_
              refine g_iconst (v := 4) X dL_act_137 (by decide) ?_
              refine g_iload X dL_act_138 (lv_at hl 5 rfl) ?_
              refine g_imul X dL_act_140 ?_
              refine g_iconst (v := 1) X dL_act_141 (by decide) ?_
              obtain ⟨h142, hF⟩ := itn hF
              refine g_iast X (wX_D hI) (σ.1, (up2 σ.2.1 1 (((4 : Int32) * v102).toNatClampNeg) (1 : Int32), σ.2.2)) 109 (j := ((4 : Int32) * v102).toNatClampNeg) (xa_m) (by first | rfl | decide) set_xm (inb_in h142) dL_act_142 ?_
              refine g_aload X dL_act_143 (lv_at hl 2 rfl) ?_
              refine g_iconst (v := 4) X dL_act_145 (by decide) ?_
              refine g_iload X dL_act_146 (lv_at hl 5 rfl) ?_
              refine g_imul X dL_act_148 ?_
              refine g_iconst (v := 1) X dL_act_149 (by decide) ?_
              refine g_iadd X dL_act_150 ?_
              refine g_iload X dL_act_151 (lv_at hl 3 rfl) ?_
              obtain ⟨h153, hF⟩ := itn hF
              refine g_iast X (wX_D hI) (σ.1, (up2 (up2 σ.2.1 1 (((4 : Int32) * v102).toNatClampNeg) (1 : Int32)) 1 ((((4 : Int32) * v102) + (1 : Int32)).toNatClampNeg) (r27 - v37), σ.2.2)) 109 (j := (((4 : Int32) * v102) + (1 : Int32)).toNatClampNeg) (xa_m) (by first | rfl | decide) set_xm (inb_in h153) dL_act_153 ?_
              refine g_aload X dL_act_154 (lv_at hl 2 rfl) ?_
              refine g_iconst (v := 4) X dL_act_156 (by decide) ?_
              refine g_iload X dL_act_157 (lv_at hl 5 rfl) ?_
              refine g_imul X dL_act_159 ?_
              refine g_iconst (v := 2) X dL_act_160 (by decide) ?_
              refine g_iadd X dL_act_161 ?_
              refine g_iload X dL_act_162 (lv_at hl 4 rfl) ?_
              obtain ⟨h164, hF⟩ := itn hF
              refine g_iast X (wX_D hI) (σ.1, (up2 (up2 (up2 σ.2.1 1 (((4 : Int32) * v102).toNatClampNeg) (1 : Int32)) 1 ((((4 : Int32) * v102) + (1 : Int32)).toNatClampNeg) (r27 - v37)) 1 ((((4 : Int32) * v102) + (2 : Int32)).toNatClampNeg) (r72 - v82), σ.2.2)) 109 (j := (((4 : Int32) * v102) + (2 : Int32)).toNatClampNeg) (xa_m) (by first | rfl | decide) set_xm (inb_in h164) dL_act_164 ?_
              refine g_aload X dL_act_165 (lv_at hl 2 rfl) ?_
              refine g_iconst (v := 4) X dL_act_167 (by decide) ?_
              refine g_iload X dL_act_168 (lv_at hl 5 rfl) ?_
              refine g_imul X dL_act_170 ?_
              refine g_iconst (v := 3) X dL_act_171 (by decide) ?_
              refine g_iadd X dL_act_172 ?_
              refine g_aload X dL_act_173 (lv_at hl 1 rfl) ?_
              refine g_iconst (v := 0) X dL_act_175 (by decide) ?_
              refine g_iald X 108 (j := 0) (xa_c) (by first | rfl | decide) (inb_in (by decide)) dL_act_176 ?_
              obtain ⟨h177, hF⟩ := itn hF
              refine g_iast X (wX_D hI) (σ.1, (up2 (up2 (up2 (up2 σ.2.1 1 (((4 : Int32) * v102).toNatClampNeg) (1 : Int32)) 1 ((((4 : Int32) * v102) + (1 : Int32)).toNatClampNeg) (r27 - v37)) 1 ((((4 : Int32) * v102) + (2 : Int32)).toNatClampNeg) (r72 - v82)) 1 ((((4 : Int32) * v102) + (3 : Int32)).toNatClampNeg) ((up2 (up2 (up2 σ.2.1 1 (((4 : Int32) * v102).toNatClampNeg) (1 : Int32)) 1 ((((4 : Int32) * v102) + (1 : Int32)).toNatClampNeg) (r27 - v37)) 1 ((((4 : Int32) * v102) + (2 : Int32)).toNatClampNeg) (r72 - v82)) 0 0), σ.2.2)) 109 (j := (((4 : Int32) * v102) + (3 : Int32)).toNatClampNeg) (xa_m) (by first | rfl | decide) set_xm (inb_in h177) dL_act_177 ?_
              refine g_aload_n X dL_act_178 rfl (lv_at hl 0 rfl) ?_
              refine g_iload X dL_act_179 (lv_at hl 3 rfl) ?_
              refine g_iload X dL_act_181 (lv_at hl 4 rfl) ?_
              obtain ⟨r183, hr183, hF⟩ := oR_some hF
              refine kx_Vie X hI (As := [.int (r27 - v37), .int (r72 - v82)]) (rest := []) (c_X3_add hI.c hr183) (cwV 2 X.ts gL_act_X3_add rfl rfl rfl (by decide +kernel) ⟨Nat.le_of_ble_eq_true rfl, Nat.le_of_ble_eq_true rfl⟩) rfl hl.1 rfl (Nat.le_of_ble_eq_true rfl) dL_act_183 ?_
              refine g_iload X dL_act_186 (lv_at hl 5 rfl) ?_
              refine g_icmp_ne (tgt := 195) X dL_act_188 (by decide) (fun hc188 => ?_) (fun hc188 => ?_)
              · have hF := ite_t hF hc188
                refine g_iconst (v := 0) X dL_act_195 (by decide) ?_
                exact g_zret X rfl (pF_mk (some_inj hF) rfl) dL_act_196
              · have hF := ite_n hF hc188
                refine g_iconst (v := 1) X dL_act_191 (by decide) ?_
                refine g_goto (tgt := 196) X dL_act_192 (by decide) ?_
                exact g_zret X rfl (pF_mk (some_inj hF) rfl) dL_act_196
            · have hF := ite_n hF hc130
              refine g_iconst (v := 1) X dL_act_133 (by decide) ?_
              exact g_zret X rfl (pF_mk (some_inj hF) rfl) dL_act_134
        · refine g_if_ne (tgt := 90) X dL_act_82 (by decide) (fun hc82 => ?_) (fun hc82 => ?_)
          · have hR82 := ite_t hR82 hc82
            refine g_iconst (v := 5) X dL_act_90 (by decide) ?_
            have e82 := some_inj hR82
            subst e82
            exact J82 ls (lv_sub hl [0, 1, 2, 3, 4, 5, 6, 7, 8, 9] rfl)
          · have hR82 := ite_n hR82 hc82
            refine g_bipush (v := 99) X dL_act_85 (by decide) ?_
            refine g_goto (tgt := 91) X dL_act_87 (by decide) ?_
            have e82 := some_inj hR82
            subst e82
            exact J82 ls (lv_sub hl [0, 1, 2, 3, 4, 5, 6, 7, 8, 9] rfl)
      · refine g_if_ne (tgt := 70) X dL_act_61 (by decide) (fun hc61 => ?_) (fun hc61 => ?_)
        · have hR61 := ite_t hR61 hc61
          refine g_bipush (v := 11) X dL_act_70 (by decide) ?_
          have e61 := some_inj hR61
          subst e61
          exact J61 ls (lv_sub hl [1, 2, 3, 4, 5, 6, 7, 8, 9, 0] rfl)
        · have hR61 := ite_n hR61 hc61
          refine g_sipush (v := 199) X dL_act_64 (by decide) ?_
          refine g_goto (tgt := 72) X dL_act_67 (by decide) ?_
          have e61 := some_inj hR61
          subst e61
          exact J61 ls (lv_sub hl [1, 2, 3, 4, 5, 6, 7, 8, 9, 0] rfl)
    · refine g_if_ne (tgt := 46) X dL_act_37 (by decide) (fun hc37 => ?_) (fun hc37 => ?_)
      · have hR37 := ite_t hR37 hc37
        refine g_bipush (v := 30) X dL_act_46 (by decide) ?_
        have e37 := some_inj hR37
        subst e37
        exact J37 ls (lv_sub hl [0, 1, 2, 3, 4, 5, 6, 7, 8] rfl)
      · have hR37 := ite_n hR37 hc37
        refine g_sipush (v := 9999) X dL_act_40 (by decide) ?_
        refine g_goto (tgt := 48) X dL_act_43 (by decide) ?_
        have e37 := some_inj hR37
        subst e37
        exact J37 ls (lv_sub hl [0, 1, 2, 3, 4, 5, 6, 7, 8] rfl)
  · refine g_if_ne (tgt := 25) X dL_act_16 (by decide) (fun hc16 => ?_) (fun hc16 => ?_)
    · have hR16 := ite_t hR16 hc16
      refine g_bipush (v := 60) X dL_act_25 (by decide) ?_
      have e16 := some_inj hR16
      subst e16
      exact J16 ls (lv_sub hl [1, 2, 3, 4, 5, 6, 7, 8, 0] rfl)
    · have hR16 := ite_n hR16 hc16
      refine g_sipush (v := 19999) X dL_act_19 (by decide) ?_
      refine g_goto (tgt := 27) X dL_act_22 (by decide) ?_
      have e16 := some_inj hR16
      subst e16
      exact J16 ls (lv_sub hl [1, 2, 3, 4, 5, 6, 7, 8, 0] rfl)
