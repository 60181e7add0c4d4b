theorem in_X0_addRow_X0 : ∀ w ∈ wsX00, w ∈ wsX0_addRow := by decide +kernel
def F_X0_addRow (n : Nat) (a1 : Int32) (a2 : Int32) (a3 : Int32) (σ : Mem) : Option Mem := (if (σ n 5) < 0 then some σ else (if (16 : Int32) ≤ (σ n 5) then some σ else if inb (σ n 5) 16 then (if inb ((up2 σ (n + 1) ((σ n 5).toNatClampNeg) a1) n 5) 16 then (if inb ((up2 (up2 σ (n + 1) ((σ n 5).toNatClampNeg) a1) (n + 2) (((up2 σ (n + 1) ((σ n 5).toNatClampNeg) a1) n 5).toNatClampNeg) a2) n 5) 16 then (some (up2 (up2 (up2 (up2 σ (n + 1) ((σ n 5).toNatClampNeg) a1) (n + 2) (((up2 σ (n + 1) ((σ n 5).toNatClampNeg) a1) n 5).toNatClampNeg) a2) (n + 3) (((up2 (up2 σ (n + 1) ((σ n 5).toNatClampNeg) a1) (n + 2) (((up2 σ (n + 1) ((σ n 5).toNatClampNeg) a1) n 5).toNatClampNeg) a2) n 5).toNatClampNeg) a3) n 5 (((up2 (up2 (up2 σ (n + 1) ((σ n 5).toNatClampNeg) a1) (n + 2) (((up2 σ (n + 1) ((σ n 5).toNatClampNeg) a1) n 5).toNatClampNeg) a2) (n + 3) (((up2 (up2 σ (n + 1) ((σ n 5).toNatClampNeg) a1) (n + 2) (((up2 σ (n + 1) ((σ n 5).toNatClampNeg) a1) n 5).toNatClampNeg) a2) n 5).toNatClampNeg) a3) n 5) + (1 : Int32)))) else none) else none) else none))
set_option maxHeartbeats 4000000 in
set_option maxRecDepth 100000 in
theorem c_X0_addRow {l : Launch} {D : va_G} {ay : Nat → ClassId} {ad : Nat → Nat} {n : Nat} {a1 : Int32} {a2 : Int32} {a3 : Int32} {σ : Mem} {res : Mem} (hI : adOK ad) (hn : IsCo n) (hF : F_X0_addRow n a1 a2 a3 σ = some res) : Met l yX0_addRow wsX0_addRow ({ frames := 0, cells := 0, slots := 0, locals := 0 } : Room) (va_Pc [.ref (ad n), .int a1, .int a2, .int a3] (PP D ay (wC ay ad σ))) (va_Qv (pV res) (fun τ => PP D ay (wC ay ad τ)) (AC ad)) 0 0 (AC ad) := by
  refine g_start (wd := wC ay ad) (A := AC ad) (own := RX0) (mL := 4) (rt := none) (by decide) rfl rfl (Nat.le_of_ble_eq_true rfl) ?_
  intro p e s m below meth c ls X hl
  have hl : lv_has ls 4 [(0, .ref (ad n)), (1, .int a1), (2, .int a2), (3, .int a3)] := hl
  rw [F_X0_addRow] at hF
  refine g_aload_n X dX0_addRow_0 rfl (lv_at hl 0 rfl) ?_
  refine g_get X n (co_obj hn) in_X0_addRow_X0 rfl 5 (by decide) (X.ts (.fieldLink RX0 21 "LeadTimes$Course" "size" "I") (by decide +kernel)) rfl rfl dX0_addRow_1 ?_
  refine g_if_lt (tgt := 56) X dX0_addRow_4 (by decide) (fun hc4 => ?_) (fun hc4 => ?_)
  · have hF := ite_t hF hc4
    exact g_vret X (pV_mk (some_inj hF)) dX0_addRow_56
  · have hF := ite_f hF hc4
    refine g_aload_n X dX0_addRow_7 rfl (lv_at hl 0 rfl) ?_
    refine g_get X n (co_obj hn) in_X0_addRow_X0 rfl 5 (by decide) (X.ts (.fieldLink RX0 21 "LeadTimes$Course" "size" "I") (by decide +kernel)) rfl rfl dX0_addRow_8 ?_
    refine g_bipush (v := 16) X dX0_addRow_11 (by decide) ?_
    refine g_icmp_ge (tgt := 56) X dX0_addRow_13 (by decide) (fun hc13 => ?_) (fun hc13 => ?_)
    · have hF := ite_t hF hc13
      exact g_vret X (pV_mk (some_inj hF)) dX0_addRow_56
    · have hF := ite_f hF hc13
      refine g_aload_n X dX0_addRow_16 rfl (lv_at hl 0 rfl) ?_
      refine g_get X n (co_obj hn) in_X0_addRow_X0 rfl 2 (by decide) (X.ts (.fieldLink RX0 9 "LeadTimes$Course" "winner" "[I") (by decide +kernel)) rfl rfl dX0_addRow_17 ?_
      refine g_aload_n X dX0_addRow_20 rfl (lv_at hl 0 rfl) ?_
      refine g_get X n (co_obj hn) in_X0_addRow_X0 rfl 5 (by decide) (X.ts (.fieldLink RX0 21 "LeadTimes$Course" "size" "I") (by decide +kernel)) rfl rfl dX0_addRow_21 ?_
      refine g_iload_n X dX0_addRow_24 rfl (lv_at hl 1 rfl) ?_
      obtain ⟨h25, hF⟩ := itn hF
      refine g_iast X (wC_D hI) (up2 σ (n + 1) ((σ n 5).toNatClampNeg) a1) (n + 1) (j := (σ n 5).toNatClampNeg) (co_arr hn (by decide) (by decide)) (by first | rfl | decide) (set_arr (a := 0) (n := 16) (fun τ => co_arr hn (by decide) (by decide))) (inb_in h25) dX0_addRow_25 ?_
      refine g_aload_n X dX0_addRow_26 rfl (lv_at hl 0 rfl) ?_
      refine g_get X n (co_obj hn) in_X0_addRow_X0 rfl 3 (by decide) (X.ts (.fieldLink RX0 15 "LeadTimes$Course" "over" "[I") (by decide +kernel)) rfl rfl dX0_addRow_27 ?_
      refine g_aload_n X dX0_addRow_30 rfl (lv_at hl 0 rfl) ?_
      refine g_get X n (co_obj hn) in_X0_addRow_X0 rfl 5 (by decide) (X.ts (.fieldLink RX0 21 "LeadTimes$Course" "size" "I") (by decide +kernel)) rfl rfl dX0_addRow_31 ?_
      refine g_iload_n X dX0_addRow_34 rfl (lv_at hl 2 rfl) ?_
      obtain ⟨h35, hF⟩ := itn hF
      refine g_iast X (wC_D hI) (up2 (up2 σ (n + 1) ((σ n 5).toNatClampNeg) a1) (n + 2) (((up2 σ (n + 1) ((σ n 5).toNatClampNeg) a1) n 5).toNatClampNeg) a2) (n + 2) (j := ((up2 σ (n + 1) ((σ n 5).toNatClampNeg) a1) n 5).toNatClampNeg) (co_arr hn (by decide) (by decide)) (by first | rfl | decide) (set_arr (a := 0) (n := 16) (fun τ => co_arr hn (by decide) (by decide))) (inb_in h35) dX0_addRow_35 ?_
      refine g_aload_n X dX0_addRow_36 rfl (lv_at hl 0 rfl) ?_
      refine g_get X n (co_obj hn) in_X0_addRow_X0 rfl 4 (by decide) (X.ts (.fieldLink RX0 18 "LeadTimes$Course" "under" "[I") (by decide +kernel)) rfl rfl dX0_addRow_37 ?_
      refine g_aload_n X dX0_addRow_40 rfl (lv_at hl 0 rfl) ?_
      refine g_get X n (co_obj hn) in_X0_addRow_X0 rfl 5 (by decide) (X.ts (.fieldLink RX0 21 "LeadTimes$Course" "size" "I") (by decide +kernel)) rfl rfl dX0_addRow_41 ?_
      refine g_iload_n X dX0_addRow_44 rfl (lv_at hl 3 rfl) ?_
      obtain ⟨h45, hF⟩ := itn hF
      refine g_iast X (wC_D hI) (up2 (up2 (up2 σ (n + 1) ((σ n 5).toNatClampNeg) a1) (n + 2) (((up2 σ (n + 1) ((σ n 5).toNatClampNeg) a1) n 5).toNatClampNeg) a2) (n + 3) (((up2 (up2 σ (n + 1) ((σ n 5).toNatClampNeg) a1) (n + 2) (((up2 σ (n + 1) ((σ n 5).toNatClampNeg) a1) n 5).toNatClampNeg) a2) n 5).toNatClampNeg) a3) (n + 3) (j := ((up2 (up2 σ (n + 1) ((σ n 5).toNatClampNeg) a1) (n + 2) (((up2 σ (n + 1) ((σ n 5).toNatClampNeg) a1) n 5).toNatClampNeg) a2) n 5).toNatClampNeg) (co_arr hn (by decide) (by decide)) (by first | rfl | decide) (set_arr (a := 0) (n := 16) (fun τ => co_arr hn (by decide) (by decide))) (inb_in h45) dX0_addRow_45 ?_
      refine g_aload_n X dX0_addRow_46 rfl (lv_at hl 0 rfl) ?_
      refine g_dup X dX0_addRow_47 rfl ?_
      refine g_get X n (co_obj hn) in_X0_addRow_X0 rfl 5 (by decide) (X.ts (.fieldLink RX0 21 "LeadTimes$Course" "size" "I") (by decide +kernel)) rfl rfl dX0_addRow_48 ?_
      refine g_iconst (v := 1) X dX0_addRow_51 (by decide) ?_
      refine g_iadd X dX0_addRow_52 ?_
      refine g_put X (wC_D hI) (up2 (up2 (up2 (up2 σ (n + 1) ((σ n 5).toNatClampNeg) a1) (n + 2) (((up2 σ (n + 1) ((σ n 5).toNatClampNeg) a1) n 5).toNatClampNeg) a2) (n + 3) (((up2 (up2 σ (n + 1) ((σ n 5).toNatClampNeg) a1) (n + 2) (((up2 σ (n + 1) ((σ n 5).toNatClampNeg) a1) n 5).toNatClampNeg) a2) n 5).toNatClampNeg) a3) n 5 (((up2 (up2 (up2 σ (n + 1) ((σ n 5).toNatClampNeg) a1) (n + 2) (((up2 σ (n + 1) ((σ n 5).toNatClampNeg) a1) n 5).toNatClampNeg) a2) (n + 3) (((up2 (up2 σ (n + 1) ((σ n 5).toNatClampNeg) a1) (n + 2) (((up2 σ (n + 1) ((σ n 5).toNatClampNeg) a1) n 5).toNatClampNeg) a2) n 5).toNatClampNeg) a3) n 5) + (1 : Int32))) n (co_obj hn) 5 (set_co hn) tyX0 tyX0_ok nmX0 in_X0_addRow_X0 rfl (by decide) (X.ts (.fieldLink RX0 21 "LeadTimes$Course" "size" "I") (by decide +kernel)) rfl rfl rfl rfl rfl (Nat.le_of_ble_eq_true rfl) dX0_addRow_53 ?_
      exact g_vret X (pV_mk (some_inj hF)) dX0_addRow_56
theorem in_X0_followTurn_X0 : ∀ w ∈ wsX00, w ∈ wsX0_followTurn := by decide +kernel
def L_X0_followTurn_8 (n : Nat) (o1 : Nat) (a2 : Int32) (σ : Mem) : Nat → Int32 → Int32 → Option Int32
  | 0, _, _ => none
  | fu + 1, a3, a4 => (if (σ n 1) ≤ a4 then some a3 else Option.bind (F_X1_has o1 a4 σ) (fun r20 => (Option.bind (if r20 = 0 then some a3 else Option.bind (F_X1_speedOf o1 a4 σ) (fun r29 => Option.bind (F_X1_speedOf o1 a2 σ) (fun r34 => (if r29 ≤ r34 then some a3 else (if a3 = (-1 : Int32) then some a4 else Option.bind (F_X1_isSoonerAhead o1 a4 a3 a2 σ) (fun r50 => (if r50 = 0 then some a3 else some a4))))))) (fun v23 : Int32 => L_X0_followTurn_8 n o1 a2 σ fu v23 (a4 + 1)))))
set_option maxHeartbeats 4000000 in
set_option maxRecDepth 100000 in
theorem w_X0_followTurn_8 {D : va_G} {ay : Nat → ClassId} {ad : Nat → Nat} {p : Program} {l : Launch} {e : Env} {s : State} {m : MethodId} {args : Array Value} {below : List Frame} {meth : Method} {c : Code} {Q : State → Prop} {n : Nat} {o1 : Nat} {a2 : Int32} {σ : Mem} {res : Int32} (X : CX D ay p s m args meth c cX0_followTurn 6 RX0 (some .int) wsX0_followTurn) (hI : adOK ad) (hn : IsCo n) (ho1 : IsSt o1) (K : ∀ ls : Array Slot, lv_has ls 6 [(0, .ref (ad n)), (1, .ref (ad o1)), (2, .int a2), (3, .int res)] → GW D (wC ay ad) (AC ad) p l e ({ frames := 2, cells := 0, slots := 0, locals := 55 } : Room) s m args below meth c Q σ (F0 m 65 ls [])) : ∀ (fu : Nat) (a3 : Int32) (a4 : Int32), L_X0_followTurn_8 n o1 a2 σ fu a3 a4 = some res → ∀ ls : Array Slot, lv_has ls 6 [(0, .ref (ad n)), (1, .ref (ad o1)), (2, .int a2), (3, .int a3), (4, .int a4)] → GW D (wC ay ad) (AC ad) p l e ({ frames := 2, cells := 0, slots := 0, locals := 55 } : Room) s m args below meth c Q σ (F0 m 8 ls []) := by
  intro fu
  induction fu with
  | zero =>
    intro a3 a4 hF ls hl
    rw [L_X0_followTurn_8] at hF
    cases hF
  | succ fu ih =>
    intro a3 a4 hF ls hl
    rw [L_X0_followTurn_8] at hF
    refine g_iload X dX0_followTurn_8 (lv_at hl 4 rfl) ?_
    refine g_aload_n X dX0_followTurn_10 rfl (lv_at hl 0 rfl) ?_
    refine g_get X n (co_obj hn) in_X0_followTurn_X0 rfl 1 (by decide) (X.ts (.fieldLink RX0 28 "LeadTimes$Course" "endSlot" "I") (by decide +kernel)) rfl rfl dX0_followTurn_11 ?_
    refine g_icmp_ge (tgt := 65) X dX0_followTurn_14 (by decide) (fun hc14 => ?_) (fun hc14 => ?_)
    · have hF := ite_t hF hc14
      have e8 := some_inj hF
      subst e8
      exact K ls (lv_sub hl [0, 1, 2, 3] rfl)
    · have hF := ite_f hF hc14
      refine g_aload_n X dX0_followTurn_17 rfl (lv_at hl 1 rfl) ?_
      refine g_iload X dX0_followTurn_18 (lv_at hl 4 rfl) ?_
      obtain ⟨r20, hr20, hF⟩ := obind hF
      refine k_Vz X (As := [.int a4]) (rest := []) (c_X1_has hI ho1 hr20) (cwV 1 X.ts gX0_followTurn_X1_has rfl rfl rfl (by decide +kernel) ⟨Nat.le_of_ble_eq_true rfl, Nat.le_of_ble_eq_true rfl⟩) ⟨o1, 1, _, _, st_obj ho1, rfl, rfl⟩ rfl hl.1 rfl (Nat.le_of_ble_eq_true rfl) dX0_followTurn_20 (fun hz20 => ?_)
      obtain ⟨v23, hR23, hF⟩ := obind hF
      refine g_cut (nM := 6) [(0, .ref (ad n)), (1, .ref (ad o1)), (2, .int a2), (3, .int v23), (4, .int a4)] (σ) 59 [] (fun ls hl => ?_) (fun J23 => ?_)
      · refine g_iinc (v := a4 + 1) (lv' := [(4, _), (0, _), (1, _), (2, _), (3, _)]) X dX0_followTurn_59 hl (k := 4) rfl rfl (by decide) rfl (fun ls hl => ?_)
        refine g_goto (tgt := 8) X dX0_followTurn_62 (by decide) ?_
        exact ih v23 (a4 + 1) hF ls (lv_sub hl [1, 2, 3, 4, 0] rfl)
      · refine g_if_eq (tgt := 59) X dX0_followTurn_23 (by decide) (fun hc23 => ?_) (fun hc23 => ?_)
        · have hR23 := ite_t hR23 hc23
          have e23 := some_inj hR23
          subst e23
          exact J23 ls (lv_sub hl [0, 1, 2, 3, 4] rfl)
        · have hR23 := ite_f hR23 hc23
          refine g_aload_n X dX0_followTurn_26 rfl (lv_at hl 1 rfl) ?_
          refine g_iload X dX0_followTurn_27 (lv_at hl 4 rfl) ?_
          obtain ⟨r29, hr29, hR23⟩ := obind hR23
          refine k_Vi X (As := [.int a4]) (rest := []) (c_X1_speedOf hI ho1 hr29) (cwV 1 X.ts gX0_followTurn_X1_speedOf rfl rfl rfl (by decide +kernel) ⟨Nat.le_of_ble_eq_true rfl, Nat.le_of_ble_eq_true rfl⟩) ⟨o1, 1, _, _, st_obj ho1, rfl, rfl⟩ rfl hl.1 rfl (Nat.le_of_ble_eq_true rfl) dX0_followTurn_29 ?_
          refine g_aload_n X dX0_followTurn_32 rfl (lv_at hl 1 rfl) ?_
          refine g_iload_n X dX0_followTurn_33 rfl (lv_at hl 2 rfl) ?_
          obtain ⟨r34, hr34, hR23⟩ := obind hR23
          refine k_Vi X (As := [.int a2]) (rest := [.int r29]) (c_X1_speedOf hI ho1 hr34) (cwV 1 X.ts gX0_followTurn_X1_speedOf rfl rfl rfl (by decide +kernel) ⟨Nat.le_of_ble_eq_true rfl, Nat.le_of_ble_eq_true rfl⟩) ⟨o1, 1, _, _, st_obj ho1, rfl, rfl⟩ rfl hl.1 rfl (Nat.le_of_ble_eq_true rfl) dX0_followTurn_34 ?_
          refine g_icmp_le (tgt := 59) X dX0_followTurn_37 (by decide) (fun hc37 => ?_) (fun hc37 => ?_)
          · have hR23 := ite_t hR23 hc37
            have e23 := some_inj hR23
            subst e23
            exact J23 ls (lv_sub hl [0, 1, 2, 3, 4] rfl)
          · have hR23 := ite_f hR23 hc37
            refine g_iload_n X dX0_followTurn_40 rfl (lv_at hl 3 rfl) ?_
            refine g_iconst (v := -1) X dX0_followTurn_41 (by decide) ?_
            refine g_icmp_eq (tgt := 56) X dX0_followTurn_42 (by decide) (fun hc42 => ?_) (fun hc42 => ?_)
            · have hR23 := ite_t hR23 hc42
              refine g_iload X dX0_followTurn_56 (lv_at hl 4 rfl) ?_
              refine g_istore_n (lv' := [(3, _), (0, _), (1, _), (2, _), (4, _)]) X dX0_followTurn_58 rfl hl (by decide) rfl (fun ls hl => ?_)
              have e23 := some_inj hR23
              subst e23
              exact J23 ls (lv_sub hl [1, 2, 3, 0, 4] rfl)
            · have hR23 := ite_f hR23 hc42
              refine g_aload_n X dX0_followTurn_45 rfl (lv_at hl 1 rfl) ?_
              refine g_iload X dX0_followTurn_46 (lv_at hl 4 rfl) ?_
              refine g_iload_n X dX0_followTurn_48 rfl (lv_at hl 3 rfl) ?_
              refine g_iload_n X dX0_followTurn_49 rfl (lv_at hl 2 rfl) ?_
              obtain ⟨r50, hr50, hR23⟩ := obind hR23
              refine k_Vz X (As := [.int a4, .int a3, .int a2]) (rest := []) (c_X1_isSoonerAhead hI ho1 hr50) (cwV 3 X.ts gX0_followTurn_X1_isSoonerAhead rfl rfl rfl (by decide +kernel) ⟨Nat.le_of_ble_eq_true rfl, Nat.le_of_ble_eq_true rfl⟩) ⟨o1, 1, _, _, st_obj ho1, rfl, rfl⟩ rfl hl.1 rfl (Nat.le_of_ble_eq_true rfl) dX0_followTurn_50 (fun hz50 => ?_)
              refine g_if_eq (tgt := 59) X dX0_followTurn_53 (by decide) (fun hc53 => ?_) (fun hc53 => ?_)
              · have hR23 := ite_t hR23 hc53
                have e23 := some_inj hR23
                subst e23
                exact J23 ls (lv_sub hl [0, 1, 2, 3, 4] rfl)
              · have hR23 := ite_f hR23 hc53
                refine g_iload X dX0_followTurn_56 (lv_at hl 4 rfl) ?_
                refine g_istore_n (lv' := [(3, _), (0, _), (1, _), (2, _), (4, _)]) X dX0_followTurn_58 rfl hl (by decide) rfl (fun ls hl => ?_)
                have e23 := some_inj hR23
                subst e23
                exact J23 ls (lv_sub hl [1, 2, 3, 0, 4] rfl)
def F_X0_followTurn (n : Nat) (o1 : Nat) (a2 : Int32) (σ : Mem) : Option (Int32 × Mem) := Option.bind (L_X0_followTurn_8 n o1 a2 σ FU (-1 : Int32) (σ n 0)) (fun v8 : Int32 => (Option.bind (if v8 = (-1 : Int32) then some σ else Option.bind (F_X1_valueOf o1 a2 σ) (fun r72 => Option.bind (F_X1_valueOf o1 v8 σ) (fun r77 => Option.bind (F_X1_speedOf o1 v8 σ) (fun r85 => Option.bind (F_X1_speedOf o1 a2 σ) (fun r90 => Option.bind (F_X3_reduced (r72 - r77) (r85 - r90)) (fun r102 => Option.bind (F_X3_reduced (r85 - r90) (r72 - r77)) (fun r109 => Option.bind (F_X0_addRow n v8 r102 r109 σ) (fun r112 => some r112)))))))) (fun v67 : Mem => some (v8, v67))))
set_option maxHeartbeats 4000000 in
set_option maxRecDepth 100000 in
theorem c_X0_followTurn {l : Launch} {D : va_G} {ay : Nat → ClassId} {ad : Nat → Nat} {n : Nat} {o1 : Nat} {a2 : Int32} {σ : Mem} {res : Int32 × Mem} (hI : adOK ad) (hn : IsCo n) (ho1 : IsSt o1) (hF : F_X0_followTurn n o1 a2 σ = some res) : Met l yX0_followTurn wsX0_followTurn ({ frames := 2, cells := 0, slots := 0, locals := 55 } : Room) (va_Pc [.ref (ad n), .ref (ad o1), .int a2] (PP D ay (wC ay ad σ))) (va_Qi (pE res) (fun τ => PP D ay (wC ay ad τ)) (AC ad)) 0 0 (AC ad) := by
  refine g_start (wd := wC ay ad) (A := AC ad) (own := RX0) (mL := 6) (rt := (some .int)) (by decide) rfl rfl (Nat.le_of_ble_eq_true rfl) ?_
  intro p e s m below meth c ls X hl
  have hl : lv_has ls 6 [(0, .ref (ad n)), (1, .ref (ad o1)), (2, .int a2)] := hl
  rw [F_X0_followTurn] at hF
  refine g_iconst (v := -1) X dX0_followTurn_0 (by decide) ?_
  refine g_istore_n (lv' := [(3, _), (0, _), (1, _), (2, _)]) X dX0_followTurn_1 rfl hl (by decide) rfl (fun ls hl => ?_)
  refine g_aload_n X dX0_followTurn_2 rfl (lv_at hl 1 rfl) ?_
  refine g_get X n (co_obj hn) in_X0_followTurn_X0 rfl 0 (by decide) (X.ts (.fieldLink RX0 25 "LeadTimes$Course" "firstSlot" "I") (by decide +kernel)) rfl rfl dX0_followTurn_3 ?_
  refine g_istore (lv' := [(4, _), (3, _), (0, _), (1, _), (2, _)]) X dX0_followTurn_6 hl (by decide) rfl (fun ls hl => ?_)
  obtain ⟨v8, hL8, hF⟩ := obind hF
  refine w_X0_followTurn_8 X hI hn ho1 (fun ls hl => ?_) FU (-1 : Int32) (σ n 0) hL8 ls (lv_sub hl [2, 3, 4, 1, 0] rfl)
  refine g_iload_n X dX0_followTurn_65 rfl (lv_at hl 3 rfl) ?_
  refine g_iconst (v := -1) X dX0_followTurn_66 (by decide) ?_
  obtain ⟨v67, hR67, hF⟩ := obind hF
  refine g_cut (nM := 6) [(3, .int v8)] (v67) 115 [] (fun ls hl => ?_) (fun J67 => ?_)
  · refine g_iload_n X dX0_followTurn_115 rfl (lv_at hl 0 rfl) ?_
    exact g_iret X (pE_mk (some_inj hF)) dX0_followTurn_116
  · refine g_icmp_eq (tgt := 115) X dX0_followTurn_67 (by decide) (fun hc67 => ?_) (fun hc67 => ?_)
    · have hR67 := ite_t hR67 hc67
      have e67 := some_inj hR67
      subst e67
      exact J67 ls (lv_sub hl [3] rfl)
    · have hR67 := ite_f hR67 hc67
      refine g_aload_n X dX0_followTurn_70 rfl (lv_at hl 1 rfl) ?_
      refine g_iload_n X dX0_followTurn_71 rfl (lv_at hl 2 rfl) ?_
      obtain ⟨r72, hr72, hR67⟩ := obind hR67
      refine k_Vi X (As := [.int a2]) (rest := []) (c_X1_valueOf hI ho1 hr72) (cwV 1 X.ts gX0_followTurn_X1_valueOf rfl rfl rfl (by decide +kernel) ⟨Nat.le_of_ble_eq_true rfl, Nat.le_of_ble_eq_true rfl⟩) ⟨o1, 1, _, _, st_obj ho1, rfl, rfl⟩ rfl hl.1 rfl (Nat.le_of_ble_eq_true rfl) dX0_followTurn_72 ?_
      refine g_aload_n X dX0_followTurn_75 rfl (lv_at hl 1 rfl) ?_
      refine g_iload_n X dX0_followTurn_76 rfl (lv_at hl 3 rfl) ?_
      obtain ⟨r77, hr77, hR67⟩ := obind hR67
      refine k_Vi X (As := [.int v8]) (rest := [.int r72]) (c_X1_valueOf hI ho1 hr77) (cwV 1 X.ts gX0_followTurn_X1_valueOf rfl rfl rfl (by decide +kernel) ⟨Nat.le_of_ble_eq_true rfl, Nat.le_of_ble_eq_true rfl⟩) ⟨o1, 1, _, _, st_obj ho1, rfl, rfl⟩ rfl hl.1 rfl (Nat.le_of_ble_eq_true rfl) dX0_followTurn_77 ?_
      refine g_isub X dX0_followTurn_80 ?_
      refine g_istore (lv' := [(4, _), (0, _), (1, _), (2, _), (3, _)]) X dX0_followTurn_81 hl (by decide) rfl (fun ls hl => ?_)
      refine g_aload_n X dX0_followTurn_83 rfl (lv_at hl 2 rfl) ?_
      refine g_iload_n X dX0_followTurn_84 rfl (lv_at hl 4 rfl) ?_
      obtain ⟨r85, hr85, hR67⟩ := obind hR67
      refine k_Vi X (As := [.int v8]) (rest := []) (c_X1_speedOf hI ho1 hr85) (cwV 1 X.ts gX0_followTurn_X1_speedOf rfl rfl rfl (by decide +kernel) ⟨Nat.le_of_ble_eq_true rfl, Nat.le_of_ble_eq_true rfl⟩) ⟨o1, 1, _, _, st_obj ho1, rfl, rfl⟩ rfl hl.1 rfl (Nat.le_of_ble_eq_true rfl) dX0_followTurn_85 ?_
      refine g_aload_n X dX0_followTurn_88 rfl (lv_at hl 2 rfl) ?_
      refine g_iload_n X dX0_followTurn_89 rfl (lv_at hl 3 rfl) ?_
      obtain ⟨r90, hr90, hR67⟩ := obind hR67
      refine k_Vi X (As := [.int a2]) (rest := [.int r85]) (c_X1_speedOf hI ho1 hr90) (cwV 1 X.ts gX0_followTurn_X1_speedOf rfl rfl rfl (by decide +kernel) ⟨Nat.le_of_ble_eq_true rfl, Nat.le_of_ble_eq_true rfl⟩) ⟨o1, 1, _, _, st_obj ho1, rfl, rfl⟩ rfl hl.1 rfl (Nat.le_of_ble_eq_true rfl) dX0_followTurn_90 ?_
      refine g_isub X dX0_followTurn_93 ?_
      refine g_istore (lv' := [(5, _), (4, _), (0, _), (1, _), (2, _), (3, _)]) X dX0_followTurn_94 hl (by decide) rfl (fun ls hl => ?_)
      refine g_aload_n X dX0_followTurn_96 rfl (lv_at hl 2 rfl) ?_
      refine g_iload_n X dX0_followTurn_97 rfl (lv_at hl 5 rfl) ?_
      refine g_iload X dX0_followTurn_98 (lv_at hl 1 rfl) ?_
      refine g_iload X dX0_followTurn_100 (lv_at hl 0 rfl) ?_
      obtain ⟨r102, hr102, hR67⟩ := obind hR67
      refine k_SNi X (As := [.int (r72 - r77), .int (r85 - r90)]) (rest := [.int v8, .ref (ad n)]) (c_X3_reduced hI hr102) ⟨va_cnB 2 X.ts gX0_followTurn_X3_reduced_n60 rfl rfl rfl X.kk.2.1 (X.ts (.initialized RX3) (by decide +kernel)) (by decide +kernel) ⟨Nat.le_of_ble_eq_true rfl, Nat.le_of_ble_eq_true rfl⟩, X.ts (.static yX3_reduced) (by decide +kernel), trivial⟩ rfl hl.1 rfl (Nat.le_of_ble_eq_true rfl) dX0_followTurn_102 ?_
      refine g_iload X dX0_followTurn_105 (lv_at hl 0 rfl) ?_
      refine g_iload X dX0_followTurn_107 (lv_at hl 1 rfl) ?_
      obtain ⟨r109, hr109, hR67⟩ := obind hR67
      refine k_SNi X (As := [.int (r85 - r90), .int (r72 - r77)]) (rest := [.int r102, .int v8, .ref (ad n)]) (c_X3_reduced hI hr109) ⟨va_cnB 2 X.ts gX0_followTurn_X3_reduced_n60 rfl rfl rfl X.kk.2.1 (X.ts (.initialized RX3) (by decide +kernel)) (by decide +kernel) ⟨Nat.le_of_ble_eq_true rfl, Nat.le_of_ble_eq_true rfl⟩, X.ts (.static yX3_reduced) (by decide +kernel), trivial⟩ rfl hl.1 rfl (Nat.le_of_ble_eq_true rfl) dX0_followTurn_109 ?_
      obtain ⟨r112, hr112, hR67⟩ := obind hR67
      refine k_Vv X (As := [.int v8, .int r102, .int r109]) (rest := []) (c_X0_addRow hI hn hr112) (cwV 3 X.ts gX0_followTurn_X0_addRow rfl rfl rfl (by decide +kernel) ⟨Nat.le_of_ble_eq_true rfl, Nat.le_of_ble_eq_true rfl⟩) ⟨n, 0, _, _, co_obj hn, rfl, rfl⟩ rfl hl.1 rfl (Nat.le_of_ble_eq_true rfl) dX0_followTurn_112 ?_
      have e67 := some_inj hR67
      subst e67
      exact J67 ls (lv_sub hl [5] rfl)
theorem in_X0_follow_X0 : ∀ w ∈ wsX00, w ∈ wsX0_follow := by decide +kernel
def L_X0_follow_38 (n : Nat) (o1 : Nat) : Nat → Int32 → Int32 → Mem → Option Mem
  | 0, _, _, _ => none
  | fu + 1, a3, a4, σ => (if (16 : Int32) ≤ a4 then some σ else (if a3 = (-1 : Int32) then some σ else Option.bind (F_X0_followTurn n o1 a3 σ) (fun r53 => L_X0_follow_38 n o1 fu r53.1 (a4 + 1) r53.2)))
set_option maxHeartbeats 4000000 in
set_option maxRecDepth 100000 in
theorem w_X0_follow_38 {D : va_G} {ay : Nat → ClassId} {ad : Nat → Nat} {p : Program} {l : Launch} {e : Env} {s : State} {m : MethodId} {args : Array Value} {below : List Frame} {meth : Method} {c : Code} {n : Nat} {o1 : Nat} {res : Mem} (X : CX D ay p s m args meth c cX0_follow 5 RX0 none wsX0_follow) (hI : adOK ad) (hn : IsCo n) (ho1 : IsSt o1) : ∀ (fu : Nat) (a3 : Int32) (a4 : Int32) (σ : Mem), L_X0_follow_38 n o1 fu a3 a4 σ = some res → ∀ ls : Array Slot, lv_has ls 5 [(0, .ref (ad n)), (1, .ref (ad o1)), (3, .int a3), (4, .int a4)] → GW D (wC ay ad) (AC ad) p l e ({ frames := 3, cells := 0, slots := 0, locals := 80 } : Room) s m args below meth c (MQ below (va_Qv (pV res) (fun τ => PP D ay (wC ay ad τ)) (AC ad)) args s 0 0 (AC ad)) σ (F0 m 38 ls []) := by
  intro fu
  induction fu with
  | zero =>
    intro a3 a4 σ hF ls hl
    rw [L_X0_follow_38] at hF
    cases hF
  | succ fu ih =>
    intro a3 a4 σ hF ls hl
    rw [L_X0_follow_38] at hF
    refine g_iload X dX0_follow_38 (lv_at hl 3 rfl) ?_
    refine g_bipush (v := 16) X dX0_follow_40 (by decide) ?_
    refine g_icmp_ge (tgt := 63) X dX0_follow_42 (by decide) (fun hc42 => ?_) (fun hc42 => ?_)
    · have hF := ite_t hF hc42
      exact g_vret X (pV_mk (some_inj hF)) dX0_follow_63
    · have hF := ite_f hF hc42
      refine g_iload_n X dX0_follow_45 rfl (lv_at hl 2 rfl) ?_
      refine g_iconst (v := -1) X dX0_follow_46 (by decide) ?_
      refine g_icmp_eq (tgt := 63) X dX0_follow_47 (by decide) (fun hc47 => ?_) (fun hc47 => ?_)
      · have hF := ite_t hF hc47
        exact g_vret X (pV_mk (some_inj hF)) dX0_follow_63
      · have hF := ite_f hF hc47
        refine g_aload_n X dX0_follow_50 rfl (lv_at hl 0 rfl) ?_
        refine g_aload_n X dX0_follow_51 rfl (lv_at hl 1 rfl) ?_
        refine g_iload_n X dX0_follow_52 rfl (lv_at hl 2 rfl) ?_
        obtain ⟨r53, hr53, hF⟩ := obind hF
        refine k_Vie X (As := [.ref (ad o1), .int a3]) (rest := []) (c_X0_followTurn hI hn ho1 hr53) (cwV 2 X.ts gX0_follow_X0_followTurn rfl rfl rfl (by decide +kernel) ⟨Nat.le_of_ble_eq_true rfl, Nat.le_of_ble_eq_true rfl⟩) ⟨n, 0, _, _, co_obj hn, rfl, rfl⟩ rfl hl.1 rfl (Nat.le_of_ble_eq_true rfl) dX0_follow_53 ?_
        refine g_istore_n (lv' := [(3, _), (0, _), (1, _), (4, _)]) X dX0_follow_56 rfl hl (by decide) rfl (fun ls hl => ?_)
        refine g_iinc (v := a4 + 1) (lv' := [(4, _), (3, _), (0, _), (1, _)]) X dX0_follow_57 hl (k := 3) rfl rfl (by decide) rfl (fun ls hl => ?_)
        refine g_goto (tgt := 38) X dX0_follow_60 (by decide) ?_
        exact ih r53.1 (a4 + 1) r53.2 hF ls (lv_sub hl [2, 3, 1, 0] rfl)
def F_X0_follow (n : Nat) (o1 : Nat) (σ : Mem) : Option Mem := Option.bind (F_X1_foremost o1 ((up2 σ n 5 (0 : Int32)) n 0) ((up2 σ n 5 (0 : Int32)) n 1) (-1 : Int32) (0 : Int32) (up2 σ n 5 (0 : Int32))) (fun r16 => (if ¬ r16 = (-1 : Int32) then Option.bind (F_X0_addRow n r16 (0 : Int32) (1 : Int32) (up2 σ n 5 (0 : Int32))) (fun r30 => L_X0_follow_38 n o1 FU r16 (1 : Int32) r30) else some (up2 σ n 5 (0 : Int32))))
set_option maxHeartbeats 4000000 in
set_option maxRecDepth 100000 in
theorem c_X0_follow {l : Launch} {D : va_G} {ay : Nat → ClassId} {ad : Nat → Nat} {n : Nat} {o1 : Nat} {σ : Mem} {res : Mem} (hI : adOK ad) (hn : IsCo n) (ho1 : IsSt o1) (hF : F_X0_follow n o1 σ = some res) : Met l yX0_follow wsX0_follow ({ frames := 3, cells := 0, slots := 0, locals := 80 } : Room) (va_Pc [.ref (ad n), .ref (ad o1)] (PP D ay (wC ay ad σ))) (va_Qv (pV res) (fun τ => PP D ay (wC ay ad τ)) (AC ad)) 0 0 (AC ad) := by
  refine g_start (wd := wC ay ad) (A := AC ad) (own := RX0) (mL := 5) (rt := none) (by decide) rfl rfl (Nat.le_of_ble_eq_true rfl) ?_
  intro p e s m below meth c ls X hl
  have hl : lv_has ls 5 [(0, .ref (ad n)), (1, .ref (ad o1))] := hl
  rw [F_X0_follow] at hF
  refine g_aload_n X dX0_follow_0 rfl (lv_at hl 0 rfl) ?_
  refine g_iconst (v := 0) X dX0_follow_1 (by decide) ?_
  refine g_put X (wC_D hI) (up2 σ n 5 (0 : Int32)) n (co_obj hn) 5 (set_co hn) tyX0 tyX0_ok nmX0 in_X0_follow_X0 rfl (by decide) (X.ts (.fieldLink RX0 21 "LeadTimes$Course" "size" "I") (by decide +kernel)) rfl rfl rfl rfl rfl (Nat.le_of_ble_eq_true rfl) dX0_follow_2 ?_
  refine g_aload_n X dX0_follow_5 rfl (lv_at hl 1 rfl) ?_
  refine g_aload_n X dX0_follow_6 rfl (lv_at hl 0 rfl) ?_
  refine g_get X n (co_obj hn) in_X0_follow_X0 rfl 0 (by decide) (X.ts (.fieldLink RX0 25 "LeadTimes$Course" "firstSlot" "I") (by decide +kernel)) rfl rfl dX0_follow_7 ?_
  refine g_aload_n X dX0_follow_10 rfl (lv_at hl 0 rfl) ?_
  refine g_get X n (co_obj hn) in_X0_follow_X0 rfl 1 (by decide) (X.ts (.fieldLink RX0 28 "LeadTimes$Course" "endSlot" "I") (by decide +kernel)) rfl rfl dX0_follow_11 ?_
  refine g_iconst (v := -1) X dX0_follow_14 (by decide) ?_
  refine g_iconst (v := 0) X dX0_follow_15 (by decide) ?_
  obtain ⟨r16, hr16, hF⟩ := obind hF
  refine k_Vi X (As := [.int ((up2 σ n 5 (0 : Int32)) n 0), .int ((up2 σ n 5 (0 : Int32)) n 1), .int (-1 : Int32), .int (0 : Int32)]) (rest := []) (c_X1_foremost hI ho1 hr16) (cwV 4 X.ts gX0_follow_X1_foremost rfl rfl rfl (by decide +kernel) ⟨Nat.le_of_ble_eq_true rfl, Nat.le_of_ble_eq_true rfl⟩) ⟨o1, 1, _, _, st_obj ho1, rfl, rfl⟩ rfl hl.1 rfl (Nat.le_of_ble_eq_true rfl) dX0_follow_16 ?_
  refine g_istore_n (lv' := [(2, _), (0, _), (1, _)]) X dX0_follow_19 rfl hl (by decide) rfl (fun ls hl => ?_)
  refine g_iload_n X dX0_follow_20 rfl (lv_at hl 0 rfl) ?_
  refine g_iconst (v := -1) X dX0_follow_21 (by decide) ?_
  refine g_icmp_ne (tgt := 26) X dX0_follow_22 (by decide) (fun hc22 => ?_) (fun hc22 => ?_)
  · have hF := ite_t hF hc22
    refine g_aload_n X dX0_follow_26 rfl (lv_at hl 1 rfl) ?_
    refine g_iload_n X dX0_follow_27 rfl (lv_at hl 0 rfl) ?_
    refine g_iconst (v := 0) X dX0_follow_28 (by decide) ?_
    refine g_iconst (v := 1) X dX0_follow_29 (by decide) ?_
    obtain ⟨r30, hr30, hF⟩ := obind hF
    refine k_Vv X (As := [.int r16, .int (0 : Int32), .int (1 : Int32)]) (rest := []) (c_X0_addRow hI hn hr30) (cwV 3 X.ts gX0_follow_X0_addRow rfl rfl rfl (by decide +kernel) ⟨Nat.le_of_ble_eq_true rfl, Nat.le_of_ble_eq_true rfl⟩) ⟨n, 0, _, _, co_obj hn, rfl, rfl⟩ rfl hl.1 rfl (Nat.le_of_ble_eq_true rfl) dX0_follow_30 ?_
    refine g_iload_n X dX0_follow_33 rfl (lv_at hl 0 rfl) ?_
    refine g_istore_n (lv' := [(3, _), (2, _), (0, _), (1, _)]) X dX0_follow_34 rfl hl (by decide) rfl (fun ls hl => ?_)
    refine g_iconst (v := 1) X dX0_follow_35 (by decide) ?_
    refine g_istore (lv' := [(4, _), (3, _), (2, _), (0, _), (1, _)]) X dX0_follow_36 hl (by decide) rfl (fun ls hl => ?_)
    exact w_X0_follow_38 X hI hn ho1 FU r16 (1 : Int32) r30 hF ls (lv_sub hl [3, 4, 1, 0] rfl)
  · have hF := ite_n hF hc22
    exact g_vret X (pV_mk (some_inj hF)) dX0_follow_25
theorem in_X0_hasRow_X0 : ∀ w ∈ wsX00, w ∈ wsX0_hasRow := by decide +kernel
def F_X0_hasRow (n : Nat) (a1 : Int32) (σ : Mem) : Option Int32 := (if a1 < 0 then some (0 : Int32) else (if (σ n 5) ≤ a1 then some (0 : Int32) else (if (16 : Int32) ≤ a1 then some (0 : Int32) else some (1 : Int32))))
set_option maxHeartbeats 4000000 in
set_option maxRecDepth 100000 in
theorem c_X0_hasRow {l : Launch} {D : va_G} {ay : Nat → ClassId} {ad : Nat → Nat} {n : Nat} {a1 : Int32} {σ : Mem} {res : Int32} (hI : adOK ad) (hn : IsCo n) (hF : F_X0_hasRow n a1 σ = some res) : Met l yX0_hasRow wsX0_hasRow ({ frames := 0, cells := 0, slots := 0, locals := 0 } : Room) (va_Pc [.ref (ad n), .int a1] (PP D ay (wC ay ad σ))) (va_Qi (pZ res σ) (fun τ => PP D ay (wC ay ad τ)) (AC ad)) 0 0 (AC ad) := by
  refine g_start (wd := wC ay ad) (A := AC ad) (own := RX0) (mL := 2) (rt := (some .boolean)) (by decide) rfl rfl (Nat.le_of_ble_eq_true rfl) ?_
  intro p e s m below meth c ls X hl
  have hl : lv_has ls 2 [(0, .ref (ad n)), (1, .int a1)] := hl
  rw [F_X0_hasRow] at hF
  refine g_iload_n X dX0_hasRow_0 rfl (lv_at hl 1 rfl) ?_
  refine g_if_lt (tgt := 22) X dX0_hasRow_1 (by decide) (fun hc1 => ?_) (fun hc1 => ?_)
  · have hF := ite_t hF hc1
    refine g_iconst (v := 0) X dX0_hasRow_22 (by decide) ?_
    exact g_zret X rfl (pZ_mk (some_inj hF) rfl) dX0_hasRow_23
  · have hF := ite_f hF hc1
    refine g_iload_n X dX0_hasRow_4 rfl (lv_at hl 1 rfl) ?_
    refine g_aload_n X dX0_hasRow_5 rfl (lv_at hl 0 rfl) ?_
    refine g_get X n (co_obj hn) in_X0_hasRow_X0 rfl 5 (by decide) (X.ts (.fieldLink RX0 21 "LeadTimes$Course" "size" "I") (by decide +kernel)) rfl rfl dX0_hasRow_6 ?_
    refine g_icmp_ge (tgt := 22) X dX0_hasRow_9 (by decide) (fun hc9 => ?_) (fun hc9 => ?_)
    · have hF := ite_t hF hc9
      refine g_iconst (v := 0) X dX0_hasRow_22 (by decide) ?_
      exact g_zret X rfl (pZ_mk (some_inj hF) rfl) dX0_hasRow_23
    · have hF := ite_f hF hc9
      refine g_iload_n X dX0_hasRow_12 rfl (lv_at hl 1 rfl) ?_
      refine g_bipush (v := 16) X dX0_hasRow_13 (by decide) ?_
      refine g_icmp_ge (tgt := 22) X dX0_hasRow_15 (by decide) (fun hc15 => ?_) (fun hc15 => ?_)
      · have hF := ite_t hF hc15
        refine g_iconst (v := 0) X dX0_hasRow_22 (by decide) ?_
        exact g_zret X rfl (pZ_mk (some_inj hF) rfl) dX0_hasRow_23
      · have hF := ite_f hF hc15
        refine g_iconst (v := 1) X dX0_hasRow_18 (by decide) ?_
        refine g_goto (tgt := 23) X dX0_hasRow_19 (by decide) ?_
        exact g_zret X rfl (pZ_mk (some_inj hF) rfl) dX0_hasRow_23
theorem in_X0_winnerIn_X0 : ∀ w ∈ wsX00, w ∈ wsX0_winnerIn := by decide +kernel
def F_X0_winnerIn (n : Nat) (a1 : Int32) (σ : Mem) : Option Int32 := Option.bind (F_X0_hasRow n a1 σ) (fun r2 => (if r2 = 0 then some (-1 : Int32) else if inb a1 16 then (some (σ (n + 1) a1.toNatClampNeg)) else none))
set_option maxHeartbeats 4000000 in
set_option maxRecDepth 100000 in
theorem c_X0_winnerIn {l : Launch} {D : va_G} {ay : Nat → ClassId} {ad : Nat → Nat} {n : Nat} {a1 : Int32} {σ : Mem} {res : Int32} (hI : adOK ad) (hn : IsCo n) (hF : F_X0_winnerIn n a1 σ = some res) : Met l yX0_winnerIn wsX0_winnerIn ({ frames := 1, cells := 0, slots := 0, locals := 21 } : Room) (va_Pc [.ref (ad n), .int a1] (PP D ay (wC ay ad σ))) (va_Qi (pP res σ) (fun τ => PP D ay (wC ay ad τ)) (AC ad)) 0 0 (AC ad) := by
  refine g_start (wd := wC ay ad) (A := AC ad) (own := RX0) (mL := 2) (rt := (some .int)) (by decide) rfl rfl (Nat.le_of_ble_eq_true rfl) ?_
  intro p e s m below meth c ls X hl
  have hl : lv_has ls 2 [(0, .ref (ad n)), (1, .int a1)] := hl
  rw [F_X0_winnerIn] at hF
  refine g_aload_n X dX0_winnerIn_0 rfl (lv_at hl 0 rfl) ?_
  refine g_iload_n X dX0_winnerIn_1 rfl (lv_at hl 1 rfl) ?_
  obtain ⟨r2, hr2, hF⟩ := obind hF
  refine k_Vz X (As := [.int a1]) (rest := []) (c_X0_hasRow hI hn hr2) (cwV 1 X.ts gX0_winnerIn_X0_hasRow rfl rfl rfl (by decide +kernel) ⟨Nat.le_of_ble_eq_true rfl, Nat.le_of_ble_eq_true rfl⟩) ⟨n, 0, _, _, co_obj hn, rfl, rfl⟩ rfl hl.1 rfl (Nat.le_of_ble_eq_true rfl) dX0_winnerIn_2 (fun hz2 => ?_)
  refine g_if_eq (tgt := 17) X dX0_winnerIn_5 (by decide) (fun hc5 => ?_) (fun hc5 => ?_)
  · have hF := ite_t hF hc5
    refine g_iconst (v := -1) X dX0_winnerIn_17 (by decide) ?_
    exact g_iret X (pP_mk (some_inj hF)) dX0_winnerIn_18
  · have hF := ite_f hF hc5
    refine g_aload_n X dX0_winnerIn_8 rfl (lv_at hl 0 rfl) ?_
    refine g_get X n (co_obj hn) in_X0_winnerIn_X0 rfl 2 (by decide) (X.ts (.fieldLink RX0 9 "LeadTimes$Course" "winner" "[I") (by decide +kernel)) rfl rfl dX0_winnerIn_9 ?_
    refine g_iload_n X dX0_winnerIn_12 rfl (lv_at hl 1 rfl) ?_
    obtain ⟨h13, hF⟩ := itn hF
    refine g_iald X (n + 1) (j := a1.toNatClampNeg) (co_arr hn (by decide) (by decide)) (by first | rfl | decide) (inb_in h13) dX0_winnerIn_13 ?_
    refine g_goto (tgt := 18) X dX0_winnerIn_14 (by decide) ?_
    exact g_iret X (pP_mk (some_inj hF)) dX0_winnerIn_18
theorem in_X0_rowOf_X0 : ∀ w ∈ wsX00, w ∈ wsX0_rowOf := by decide +kernel
def L_X0_rowOf_2 (n : Nat) (a1 : Int32) (σ : Mem) : Nat → Int32 → Option Int32
  | 0, _ => none
  | fu + 1, a2 => (if (16 : Int32) ≤ a2 then some (-1 : Int32) else (if (σ n 5) ≤ a2 then some (-1 : Int32) else if inb a2 16 then ((if ¬ (σ (n + 1) a2.toNatClampNeg) = a1 then L_X0_rowOf_2 n a1 σ fu (a2 + 1) else some a2)) else none))
set_option maxHeartbeats 4000000 in
set_option maxRecDepth 100000 in
theorem w_X0_rowOf_2 {D : va_G} {ay : Nat → ClassId} {ad : Nat → Nat} {p : Program} {l : Launch} {e : Env} {s : State} {m : MethodId} {args : Array Value} {below : List Frame} {meth : Method} {c : Code} {n : Nat} {a1 : Int32} {σ : Mem} {res : Int32} (X : CX D ay p s m args meth c cX0_rowOf 3 RX0 (some .int) wsX0_rowOf) (hI : adOK ad) (hn : IsCo n) : ∀ (fu : Nat) (a2 : Int32), L_X0_rowOf_2 n a1 σ fu a2 = some res → ∀ ls : Array Slot, lv_has ls 3 [(0, .ref (ad n)), (1, .int a1), (2, .int a2)] → GW D (wC ay ad) (AC ad) p l e ({ frames := 0, cells := 0, slots := 0, locals := 0 } : Room) s m args below meth c (MQ below (va_Qi (pP res σ) (fun τ => PP D ay (wC ay ad τ)) (AC ad)) args s 0 0 (AC ad)) σ (F0 m 2 ls []) := by
  intro fu
  induction fu with
  | zero =>
    intro a2 hF ls hl
    rw [L_X0_rowOf_2] at hF
    cases hF
  | succ fu ih =>
    intro a2 hF ls hl
    rw [L_X0_rowOf_2] at hF
    refine g_iload_n X dX0_rowOf_2 rfl (lv_at hl 2 rfl) ?_
    refine g_bipush (v := 16) X dX0_rowOf_3 (by decide) ?_
    refine g_icmp_ge (tgt := 34) X dX0_rowOf_5 (by decide) (fun hc5 => ?_) (fun hc5 => ?_)
    · have hF := ite_t hF hc5
      refine g_iconst (v := -1) X dX0_rowOf_34 (by decide) ?_
      exact g_iret X (pP_mk (some_inj hF)) dX0_rowOf_35
    · have hF := ite_f hF hc5
      refine g_iload_n X dX0_rowOf_8 rfl (lv_at hl 2 rfl) ?_
      refine g_aload_n X dX0_rowOf_9 rfl (lv_at hl 0 rfl) ?_
      refine g_get X n (co_obj hn) in_X0_rowOf_X0 rfl 5 (by decide) (X.ts (.fieldLink RX0 21 "LeadTimes$Course" "size" "I") (by decide +kernel)) rfl rfl dX0_rowOf_10 ?_
      refine g_icmp_ge (tgt := 34) X dX0_rowOf_13 (by decide) (fun hc13 => ?_) (fun hc13 => ?_)
      · have hF := ite_t hF hc13
        refine g_iconst (v := -1) X dX0_rowOf_34 (by decide) ?_
        exact g_iret X (pP_mk (some_inj hF)) dX0_rowOf_35
      · have hF := ite_f hF hc13
        refine g_aload_n X dX0_rowOf_16 rfl (lv_at hl 0 rfl) ?_
        refine g_get X n (co_obj hn) in_X0_rowOf_X0 rfl 2 (by decide) (X.ts (.fieldLink RX0 9 "LeadTimes$Course" "winner" "[I") (by decide +kernel)) rfl rfl dX0_rowOf_17 ?_
        refine g_iload_n X dX0_rowOf_20 rfl (lv_at hl 2 rfl) ?_
        obtain ⟨h21, hF⟩ := itn hF
        refine g_iald X (n + 1) (j := a2.toNatClampNeg) (co_arr hn (by decide) (by decide)) (by first | rfl | decide) (inb_in h21) dX0_rowOf_21 ?_
        refine g_iload_n X dX0_rowOf_22 rfl (lv_at hl 1 rfl) ?_
        refine g_icmp_ne (tgt := 28) X dX0_rowOf_23 (by decide) (fun hc23 => ?_) (fun hc23 => ?_)
        · have hF := ite_t hF hc23
          refine g_iinc (v := a2 + 1) (lv' := [(2, _), (0, _), (1, _)]) X dX0_rowOf_28 hl (k := 2) rfl rfl (by decide) rfl (fun ls hl => ?_)
          refine g_goto (tgt := 2) X dX0_rowOf_31 (by decide) ?_
          exact ih (a2 + 1) hF ls (lv_sub hl [1, 2, 0] rfl)
        · have hF := ite_n hF hc23
          refine g_iload_n X dX0_rowOf_26 rfl (lv_at hl 2 rfl) ?_
          exact g_iret X (pP_mk (some_inj hF)) dX0_rowOf_27
def F_X0_rowOf (n : Nat) (a1 : Int32) (σ : Mem) : Option Int32 := L_X0_rowOf_2 n a1 σ FU (0 : Int32)
set_option maxHeartbeats 4000000 in
set_option maxRecDepth 100000 in
theorem c_X0_rowOf {l : Launch} {D : va_G} {ay : Nat → ClassId} {ad : Nat → Nat} {n : Nat} {a1 : Int32} {σ : Mem} {res : Int32} (hI : adOK ad) (hn : IsCo n) (hF : F_X0_rowOf n a1 σ = some res) : Met l yX0_rowOf wsX0_rowOf ({ frames := 0, cells := 0, slots := 0, locals := 0 } : Room) (va_Pc [.ref (ad n), .int a1] (PP D ay (wC ay ad σ))) (va_Qi (pP res σ) (fun τ => PP D ay (wC ay ad τ)) (AC ad)) 0 0 (AC ad) := by
  refine g_start (wd := wC ay ad) (A := AC ad) (own := RX0) (mL := 3) (rt := (some .int)) (by decide) rfl rfl (Nat.le_of_ble_eq_true rfl) ?_
  intro p e s m below meth c ls X hl
  have hl : lv_has ls 3 [(0, .ref (ad n)), (1, .int a1)] := hl
  rw [F_X0_rowOf] at hF
  refine g_iconst (v := 0) X dX0_rowOf_0 (by decide) ?_
  refine g_istore_n (lv' := [(2, _), (0, _), (1, _)]) X dX0_rowOf_1 rfl hl (by decide) rfl (fun ls hl => ?_)
  exact w_X0_rowOf_2 X hI hn FU (0 : Int32) hF ls (lv_sub hl [1, 2, 0] rfl)
theorem in_X0_numerator_X0 : ∀ w ∈ wsX00, w ∈ wsX0_numerator := by decide +kernel
def F_X0_numerator (n : Nat) (a1 : Int32) (a2 : Int32) (σ : Mem) : Option Int32 := Option.bind (F_X0_hasRow n a1 σ) (fun r2 => (if r2 = 0 then some (0 : Int32) else if inb a1 16 then (if inb a1 16 then (some ((a2 * (σ (n + 3) a1.toNatClampNeg)) + (σ (n + 2) a1.toNatClampNeg))) else none) else none))
set_option maxHeartbeats 4000000 in
set_option maxRecDepth 100000 in
theorem c_X0_numerator {l : Launch} {D : va_G} {ay : Nat → ClassId} {ad : Nat → Nat} {n : Nat} {a1 : Int32} {a2 : Int32} {σ : Mem} {res : Int32} (hI : adOK ad) (hn : IsCo n) (hF : F_X0_numerator n a1 a2 σ = some res) : Met l yX0_numerator wsX0_numerator ({ frames := 1, cells := 0, slots := 0, locals := 21 } : Room) (va_Pc [.ref (ad n), .int a1, .int a2] (PP D ay (wC ay ad σ))) (va_Qi (pP res σ) (fun τ => PP D ay (wC ay ad τ)) (AC ad)) 0 0 (AC ad) := by
  refine g_start (wd := wC ay ad) (A := AC ad) (own := RX0) (mL := 3) (rt := (some .int)) (by decide) rfl rfl (Nat.le_of_ble_eq_true rfl) ?_
  intro p e s m below meth c ls X hl
  have hl : lv_has ls 3 [(0, .ref (ad n)), (1, .int a1), (2, .int a2)] := hl
  rw [F_X0_numerator] at hF
  refine g_aload_n X dX0_numerator_0 rfl (lv_at hl 0 rfl) ?_
  refine g_iload_n X dX0_numerator_1 rfl (lv_at hl 1 rfl) ?_
  obtain ⟨r2, hr2, hF⟩ := obind hF
  refine k_Vz X (As := [.int a1]) (rest := []) (c_X0_hasRow hI hn hr2) (cwV 1 X.ts gX0_numerator_X0_hasRow rfl rfl rfl (by decide +kernel) ⟨Nat.le_of_ble_eq_true rfl, Nat.le_of_ble_eq_true rfl⟩) ⟨n, 0, _, _, co_obj hn, rfl, rfl⟩ rfl hl.1 rfl (Nat.le_of_ble_eq_true rfl) dX0_numerator_2 (fun hz2 => ?_)
  refine g_if_eq (tgt := 26) X dX0_numerator_5 (by decide) (fun hc5 => ?_) (fun hc5 => ?_)
  · have hF := ite_t hF hc5
    refine g_iconst (v := 0) X dX0_numerator_26 (by decide) ?_
    exact g_iret X (pP_mk (some_inj hF)) dX0_numerator_27
  · have hF := ite_f hF hc5
    refine g_iload_n X dX0_numerator_8 rfl (lv_at hl 2 rfl) ?_
    refine g_aload_n X dX0_numerator_9 rfl (lv_at hl 0 rfl) ?_
    refine g_get X n (co_obj hn) in_X0_numerator_X0 rfl 4 (by decide) (X.ts (.fieldLink RX0 18 "LeadTimes$Course" "under" "[I") (by decide +kernel)) rfl rfl dX0_numerator_10 ?_
    refine g_iload_n X dX0_numerator_13 rfl (lv_at hl 1 rfl) ?_
    obtain ⟨h14, hF⟩ := itn hF
    refine g_iald X (n + 3) (j := a1.toNatClampNeg) (co_arr hn (by decide) (by decide)) (by first | rfl | decide) (inb_in h14) dX0_numerator_14 ?_
    refine g_imul X dX0_numerator_15 ?_
    refine g_aload_n X dX0_numerator_16 rfl (lv_at hl 0 rfl) ?_
    refine g_get X n (co_obj hn) in_X0_numerator_X0 rfl 3 (by decide) (X.ts (.fieldLink RX0 15 "LeadTimes$Course" "over" "[I") (by decide +kernel)) rfl rfl dX0_numerator_17 ?_
    refine g_iload_n X dX0_numerator_20 rfl (lv_at hl 1 rfl) ?_
    obtain ⟨h21, hF⟩ := itn hF
    refine g_iald X (n + 2) (j := a1.toNatClampNeg) (co_arr hn (by decide) (by decide)) (by first | rfl | decide) (inb_in h21) dX0_numerator_21 ?_
    refine g_iadd X dX0_numerator_22 ?_
    refine g_goto (tgt := 27) X dX0_numerator_23 (by decide) ?_
    exact g_iret X (pP_mk (some_inj hF)) dX0_numerator_27
theorem in_X0_denominator_X0 : ∀ w ∈ wsX00, w ∈ wsX0_denominator := by decide +kernel
def F_X0_denominator (n : Nat) (a1 : Int32) (σ : Mem) : Option Int32 := Option.bind (F_X0_hasRow n a1 σ) (fun r2 => (if r2 = 0 then some (0 : Int32) else if inb a1 16 then (some (σ (n + 3) a1.toNatClampNeg)) else none))
set_option maxHeartbeats 4000000 in
set_option maxRecDepth 100000 in
theorem c_X0_denominator {l : Launch} {D : va_G} {ay : Nat → ClassId} {ad : Nat → Nat} {n : Nat} {a1 : Int32} {σ : Mem} {res : Int32} (hI : adOK ad) (hn : IsCo n) (hF : F_X0_denominator n a1 σ = some res) : Met l yX0_denominator wsX0_denominator ({ frames := 1, cells := 0, slots := 0, locals := 21 } : Room) (va_Pc [.ref (ad n), .int a1] (PP D ay (wC ay ad σ))) (va_Qi (pP res σ) (fun τ => PP D ay (wC ay ad τ)) (AC ad)) 0 0 (AC ad) := by
  refine g_start (wd := wC ay ad) (A := AC ad) (own := RX0) (mL := 2) (rt := (some .int)) (by decide) rfl rfl (Nat.le_of_ble_eq_true rfl) ?_
  intro p e s m below meth c ls X hl
  have hl : lv_has ls 2 [(0, .ref (ad n)), (1, .int a1)] := hl
  rw [F_X0_denominator] at hF
  refine g_aload_n X dX0_denominator_0 rfl (lv_at hl 0 rfl) ?_
  refine g_iload_n X dX0_denominator_1 rfl (lv_at hl 1 rfl) ?_
  obtain ⟨r2, hr2, hF⟩ := obind hF
  refine k_Vz X (As := [.int a1]) (rest := []) (c_X0_hasRow hI hn hr2) (cwV 1 X.ts gX0_denominator_X0_hasRow rfl rfl rfl (by decide +kernel) ⟨Nat.le_of_ble_eq_true rfl, Nat.le_of_ble_eq_true rfl⟩) ⟨n, 0, _, _, co_obj hn, rfl, rfl⟩ rfl hl.1 rfl (Nat.le_of_ble_eq_true rfl) dX0_denominator_2 (fun hz2 => ?_)
  refine g_if_eq (tgt := 17) X dX0_denominator_5 (by decide) (fun hc5 => ?_) (fun hc5 => ?_)
  · have hF := ite_t hF hc5
    refine g_iconst (v := 0) X dX0_denominator_17 (by decide) ?_
    exact g_iret X (pP_mk (some_inj hF)) dX0_denominator_18
  · have hF := ite_f hF hc5
    refine g_aload_n X dX0_denominator_8 rfl (lv_at hl 0 rfl) ?_
    refine g_get X n (co_obj hn) in_X0_denominator_X0 rfl 4 (by decide) (X.ts (.fieldLink RX0 18 "LeadTimes$Course" "under" "[I") (by decide +kernel)) rfl rfl dX0_denominator_9 ?_
    refine g_iload_n X dX0_denominator_12 rfl (lv_at hl 1 rfl) ?_
    obtain ⟨h13, hF⟩ := itn hF
    refine g_iald X (n + 3) (j := a1.toNatClampNeg) (co_arr hn (by decide) (by decide)) (by first | rfl | decide) (inb_in h13) dX0_denominator_13 ?_
    refine g_goto (tgt := 18) X dX0_denominator_14 (by decide) ?_
    exact g_iret X (pP_mk (some_inj hF)) dX0_denominator_18
theorem in_X0_turnsWithin_X0 : ∀ w ∈ wsX00, w ∈ wsX0_turnsWithin := by decide +kernel
def L_X0_turnsWithin_4 (n : Nat) (a1 : Int32) (σ : Mem) : Nat → Int32 → Int32 → Option Int32
  | 0, _, _ => none
  | fu + 1, a2, a3 => (if (16 : Int32) ≤ a3 then some a2 else (if (σ n 5) ≤ a3 then some a2 else if inb a3 16 then (if inb a3 16 then ((Option.bind (if 0 < (lg_cmp ((σ (n + 2) a3.toNatClampNeg).toInt64) (a1.toInt64 * ((σ (n + 3) a3.toNatClampNeg).toInt64))) then some a2 else some (a2 + 1)) (fun v36 : Int32 => L_X0_turnsWithin_4 n a1 σ fu v36 (a3 + 1)))) else none) else none))
set_option maxHeartbeats 4000000 in
set_option maxRecDepth 100000 in
theorem w_X0_turnsWithin_4 {D : va_G} {ay : Nat → ClassId} {ad : Nat → Nat} {p : Program} {l : Launch} {e : Env} {s : State} {m : MethodId} {args : Array Value} {below : List Frame} {meth : Method} {c : Code} {Q : State → Prop} {n : Nat} {a1 : Int32} {σ : Mem} {res : Int32} (X : CX D ay p s m args meth c cX0_turnsWithin 4 RX0 (some .int) wsX0_turnsWithin) (hI : adOK ad) (hn : IsCo n) (K : ∀ ls : Array Slot, lv_has ls 4 [(2, .int res)] → GW D (wC ay ad) (AC ad) p l e ({ frames := 0, cells := 0, slots := 0, locals := 0 } : Room) s m args below meth c Q σ (F0 m 48 ls [])) : ∀ (fu : Nat) (a2 : Int32) (a3 : Int32), L_X0_turnsWithin_4 n a1 σ fu a2 a3 = some res → ∀ ls : Array Slot, lv_has ls 4 [(0, .ref (ad n)), (1, .int a1), (2, .int a2), (3, .int a3)] → GW D (wC ay ad) (AC ad) p l e ({ frames := 0, cells := 0, slots := 0, locals := 0 } : Room) s m args below meth c Q σ (F0 m 4 ls []) := by
  intro fu
  induction fu with
  | zero =>
    intro a2 a3 hF ls hl
    rw [L_X0_turnsWithin_4] at hF
    cases hF
  | succ fu ih =>
    intro a2 a3 hF ls hl
    rw [L_X0_turnsWithin_4] at hF
    refine g_iload_n X dX0_turnsWithin_4 rfl (lv_at hl 3 rfl) ?_
    refine g_bipush (v := 16) X dX0_turnsWithin_5 (by decide) ?_
    refine g_icmp_ge (tgt := 48) X dX0_turnsWithin_7 (by decide) (fun hc7 => ?_) (fun hc7 => ?_)
    · have hF := ite_t hF hc7
      have e4 := some_inj hF
      subst e4
      exact K ls (lv_sub hl [2] rfl)
    · have hF := ite_f hF hc7
      refine g_iload_n X dX0_turnsWithin_10 rfl (lv_at hl 3 rfl) ?_
      refine g_aload_n X dX0_turnsWithin_11 rfl (lv_at hl 0 rfl) ?_
      refine g_get X n (co_obj hn) in_X0_turnsWithin_X0 rfl 5 (by decide) (X.ts (.fieldLink RX0 21 "LeadTimes$Course" "size" "I") (by decide +kernel)) rfl rfl dX0_turnsWithin_12 ?_
      refine g_icmp_ge (tgt := 48) X dX0_turnsWithin_15 (by decide) (fun hc15 => ?_) (fun hc15 => ?_)
      · have hF := ite_t hF hc15
        have e4 := some_inj hF
        subst e4
        exact K ls (lv_sub hl [2] rfl)
      · have hF := ite_f hF hc15
        refine g_aload_n X dX0_turnsWithin_18 rfl (lv_at hl 0 rfl) ?_
        refine g_get X n (co_obj hn) in_X0_turnsWithin_X0 rfl 3 (by decide) (X.ts (.fieldLink RX0 15 "LeadTimes$Course" "over" "[I") (by decide +kernel)) rfl rfl dX0_turnsWithin_19 ?_
        refine g_iload_n X dX0_turnsWithin_22 rfl (lv_at hl 3 rfl) ?_
        obtain ⟨h23, hF⟩ := itn hF
        refine g_iald X (n + 2) (j := a3.toNatClampNeg) (co_arr hn (by decide) (by decide)) (by first | rfl | decide) (inb_in h23) dX0_turnsWithin_23 ?_
        refine g_i2l X dX0_turnsWithin_24 ?_
        refine g_iload_n X dX0_turnsWithin_25 rfl (lv_at hl 1 rfl) ?_
        refine g_i2l X dX0_turnsWithin_26 ?_
        refine g_aload_n X dX0_turnsWithin_27 rfl (lv_at hl 0 rfl) ?_
        refine g_get X n (co_obj hn) in_X0_turnsWithin_X0 rfl 4 (by decide) (X.ts (.fieldLink RX0 18 "LeadTimes$Course" "under" "[I") (by decide +kernel)) rfl rfl dX0_turnsWithin_28 ?_
        refine g_iload_n X dX0_turnsWithin_31 rfl (lv_at hl 3 rfl) ?_
        obtain ⟨h32, hF⟩ := itn hF
        refine g_iald X (n + 3) (j := a3.toNatClampNeg) (co_arr hn (by decide) (by decide)) (by first | rfl | decide) (inb_in h32) dX0_turnsWithin_32 ?_
        refine g_i2l X dX0_turnsWithin_33 ?_
        refine g_lmul X dX0_turnsWithin_34 ?_
        refine g_lcmp X dX0_turnsWithin_35 ?_
        obtain ⟨v36, hR36, hF⟩ := obind hF
        refine g_cut (nM := 4) [(0, .ref (ad n)), (1, .int a1), (2, .int v36), (3, .int a3)] (σ) 42 [] (fun ls hl => ?_) (fun J36 => ?_)
        · refine g_iinc (v := a3 + 1) (lv' := [(3, _), (0, _), (1, _), (2, _)]) X dX0_turnsWithin_42 hl (k := 3) rfl rfl (by decide) rfl (fun ls hl => ?_)
          refine g_goto (tgt := 4) X dX0_turnsWithin_45 (by decide) ?_
          exact ih v36 (a3 + 1) hF ls (lv_sub hl [1, 2, 3, 0] rfl)
        · refine g_if_gt (tgt := 42) X dX0_turnsWithin_36 (by decide) (fun hc36 => ?_) (fun hc36 => ?_)
          · have hR36 := ite_t hR36 hc36
            have e36 := some_inj hR36
            subst e36
            exact J36 ls (lv_sub hl [0, 1, 2, 3] rfl)
          · have hR36 := ite_f hR36 hc36
            refine g_iinc (v := a2 + 1) (lv' := [(2, _), (0, _), (1, _), (3, _)]) X dX0_turnsWithin_39 hl (k := 2) rfl rfl (by decide) rfl (fun ls hl => ?_)
            have e36 := some_inj hR36
            subst e36
            exact J36 ls (lv_sub hl [1, 2, 0, 3] rfl)
def F_X0_turnsWithin (n : Nat) (a1 : Int32) (σ : Mem) : Option Int32 := Option.bind (L_X0_turnsWithin_4 n a1 σ FU (0 : Int32) (1 : Int32)) (fun v4 : Int32 => some v4)
set_option maxHeartbeats 4000000 in
set_option maxRecDepth 100000 in
theorem c_X0_turnsWithin {l : Launch} {D : va_G} {ay : Nat → ClassId} {ad : Nat → Nat} {n : Nat} {a1 : Int32} {σ : Mem} {res : Int32} (hI : adOK ad) (hn : IsCo n) (hF : F_X0_turnsWithin n a1 σ = some res) : Met l yX0_turnsWithin wsX0_turnsWithin ({ frames := 0, cells := 0, slots := 0, locals := 0 } : Room) (va_Pc [.ref (ad n), .int a1] (PP D ay (wC ay ad σ))) (va_Qi (pP res σ) (fun τ => PP D ay (wC ay ad τ)) (AC ad)) 0 0 (AC ad) := by
  refine g_start (wd := wC ay ad) (A := AC ad) (own := RX0) (mL := 4) (rt := (some .int)) (by decide) rfl rfl (Nat.le_of_ble_eq_true rfl) ?_
  intro p e s m below meth c ls X hl
  have hl : lv_has ls 4 [(0, .ref (ad n)), (1, .int a1)] := hl
  rw [F_X0_turnsWithin] at hF
  refine g_iconst (v := 0) X dX0_turnsWithin_0 (by decide) ?_
  refine g_istore_n (lv' := [(2, _), (0, _), (1, _)]) X dX0_turnsWithin_1 rfl hl (by decide) rfl (fun ls hl => ?_)
  refine g_iconst (v := 1) X dX0_turnsWithin_2 (by decide) ?_
  refine g_istore_n (lv' := [(3, _), (2, _), (0, _), (1, _)]) X dX0_turnsWithin_3 rfl hl (by decide) rfl (fun ls hl => ?_)
  obtain ⟨v4, hL4, hF⟩ := obind hF
  refine w_X0_turnsWithin_4 X hI hn (fun ls hl => ?_) FU (0 : Int32) (1 : Int32) hL4 ls (lv_sub hl [2, 3, 1, 0] rfl)
  refine g_iload_n X dX0_turnsWithin_48 rfl (lv_at hl 0 rfl) ?_
  exact g_iret X (pP_mk (some_inj hF)) dX0_turnsWithin_49
def F_X0_turnsBefore (n : Nat) (o1 : Nat) (σ : Mem) : Option Int32 := Option.bind (F_X0_numerator n (1 : Int32) (0 : Int32) σ) (fun r3 => Option.bind (F_X0_denominator o1 (1 : Int32) σ) (fun r9 => Option.bind (F_X0_numerator o1 (1 : Int32) (0 : Int32) σ) (fun r18 => Option.bind (F_X0_denominator n (1 : Int32) σ) (fun r24 => (if 0 ≤ (lg_cmp (r3.toInt64 * r9.toInt64) (r18.toInt64 * r24.toInt64)) then some (0 : Int32) else some (1 : Int32))))))
set_option maxHeartbeats 4000000 in
set_option maxRecDepth 100000 in
theorem c_X0_turnsBefore {l : Launch} {D : va_G} {ay : Nat → ClassId} {ad : Nat → Nat} {n : Nat} {o1 : Nat} {σ : Mem} {res : Int32} (hI : adOK ad) (hn : IsCo n) (ho1 : IsCo o1) (hF : F_X0_turnsBefore n o1 σ = some res) : Met l yX0_turnsBefore wsX0_turnsBefore ({ frames := 2, cells := 0, slots := 0, locals := 43 } : Room) (va_Pc [.ref (ad n), .ref (ad o1)] (PP D ay (wC ay ad σ))) (va_Qi (pZ res σ) (fun τ => PP D ay (wC ay ad τ)) (AC ad)) 0 0 (AC ad) := by
  refine g_start (wd := wC ay ad) (A := AC ad) (own := RX0) (mL := 6) (rt := (some .boolean)) (by decide) rfl rfl (Nat.le_of_ble_eq_true rfl) ?_
  intro p e s m below meth c ls X hl
  have hl : lv_has ls 6 [(0, .ref (ad n)), (1, .ref (ad o1))] := hl
  rw [F_X0_turnsBefore] at hF
  refine g_aload_n X dX0_turnsBefore_0 rfl (lv_at hl 0 rfl) ?_
  refine g_iconst (v := 1) X dX0_turnsBefore_1 (by decide) ?_
  refine g_iconst (v := 0) X dX0_turnsBefore_2 (by decide) ?_
  obtain ⟨r3, hr3, hF⟩ := obind hF
  refine k_Vi X (As := [.int (1 : Int32), .int (0 : Int32)]) (rest := []) (c_X0_numerator hI hn hr3) (cwV 2 X.ts gX0_turnsBefore_X0_numerator rfl rfl rfl (by decide +kernel) ⟨Nat.le_of_ble_eq_true rfl, Nat.le_of_ble_eq_true rfl⟩) ⟨n, 0, _, _, co_obj hn, rfl, rfl⟩ rfl hl.1 rfl (Nat.le_of_ble_eq_true rfl) dX0_turnsBefore_3 ?_
  refine g_i2l X dX0_turnsBefore_6 ?_
  refine g_aload_n X dX0_turnsBefore_7 rfl (lv_at hl 1 rfl) ?_
  refine g_iconst (v := 1) X dX0_turnsBefore_8 (by decide) ?_
  obtain ⟨r9, hr9, hF⟩ := obind hF
  refine k_Vi X (As := [.int (1 : Int32)]) (rest := [.long r3.toInt64]) (c_X0_denominator hI ho1 hr9) (cwV 1 X.ts gX0_turnsBefore_X0_denominator rfl rfl rfl (by decide +kernel) ⟨Nat.le_of_ble_eq_true rfl, Nat.le_of_ble_eq_true rfl⟩) ⟨o1, 0, _, _, co_obj ho1, rfl, rfl⟩ rfl hl.1 rfl (Nat.le_of_ble_eq_true rfl) dX0_turnsBefore_9 ?_
  refine g_i2l X dX0_turnsBefore_12 ?_
  refine g_lmul X dX0_turnsBefore_13 ?_
  refine g_lstore_n (lv' := [(2, _), (0, _), (1, _)]) X dX0_turnsBefore_14 rfl hl (by decide) rfl (fun ls hl => ?_)
  refine g_aload_n X dX0_turnsBefore_15 rfl (lv_at hl 2 rfl) ?_
  refine g_iconst (v := 1) X dX0_turnsBefore_16 (by decide) ?_
  refine g_iconst (v := 0) X dX0_turnsBefore_17 (by decide) ?_
  obtain ⟨r18, hr18, hF⟩ := obind hF
  refine k_Vi X (As := [.int (1 : Int32), .int (0 : Int32)]) (rest := []) (c_X0_numerator hI ho1 hr18) (cwV 2 X.ts gX0_turnsBefore_X0_numerator rfl rfl rfl (by decide +kernel) ⟨Nat.le_of_ble_eq_true rfl, Nat.le_of_ble_eq_true rfl⟩) ⟨o1, 0, _, _, co_obj ho1, rfl, rfl⟩ rfl hl.1 rfl (Nat.le_of_ble_eq_true rfl) dX0_turnsBefore_18 ?_
  refine g_i2l X dX0_turnsBefore_21 ?_
  refine g_aload_n X dX0_turnsBefore_22 rfl (lv_at hl 1 rfl) ?_
  refine g_iconst (v := 1) X dX0_turnsBefore_23 (by decide) ?_
  obtain ⟨r24, hr24, hF⟩ := obind hF
  refine k_Vi X (As := [.int (1 : Int32)]) (rest := [.long r18.toInt64]) (c_X0_denominator hI hn hr24) (cwV 1 X.ts gX0_turnsBefore_X0_denominator rfl rfl rfl (by decide +kernel) ⟨Nat.le_of_ble_eq_true rfl, Nat.le_of_ble_eq_true rfl⟩) ⟨n, 0, _, _, co_obj hn, rfl, rfl⟩ rfl hl.1 rfl (Nat.le_of_ble_eq_true rfl) dX0_turnsBefore_24 ?_
  refine g_i2l X dX0_turnsBefore_27 ?_
  refine g_lmul X dX0_turnsBefore_28 ?_
  refine g_lstore (lv' := [(4, _), (2, _), (0, _), (1, _)]) X dX0_turnsBefore_29 hl (by decide) rfl (fun ls hl => ?_)
  refine g_lload_n X dX0_turnsBefore_31 rfl (lv_at hl 1 rfl) ?_
  refine g_lload X dX0_turnsBefore_32 (lv_at hl 0 rfl) ?_
  refine g_lcmp X dX0_turnsBefore_34 ?_
  refine g_if_ge (tgt := 42) X dX0_turnsBefore_35 (by decide) (fun hc35 => ?_) (fun hc35 => ?_)
  · have hF := ite_t hF hc35
    refine g_iconst (v := 0) X dX0_turnsBefore_42 (by decide) ?_
    exact g_zret X rfl (pZ_mk (some_inj hF) rfl) dX0_turnsBefore_43
  · have hF := ite_f hF hc35
    refine g_iconst (v := 1) X dX0_turnsBefore_38 (by decide) ?_
    refine g_goto (tgt := 43) X dX0_turnsBefore_39 (by decide) ?_
    exact g_zret X rfl (pZ_mk (some_inj hF) rfl) dX0_turnsBefore_43
