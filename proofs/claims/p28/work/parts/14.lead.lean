theorem in_X3_latestSaved_X3 : ∀ w ∈ wsX30, w ∈ wsX3_latestSaved := by decide +kernel
def F_X3_latestSaved (σ : Mem) : Option Nat := (if ((((σ 0 2) + (σ 0 3)) - (1 : Int32)) - (((σ 0 2) + (σ 0 3)) - (1 : Int32)) / (6 : Int32) * (6 : Int32)) < 0 then none else (if (6 : Int32) ≤ ((((σ 0 2) + (σ 0 3)) - (1 : Int32)) - (((σ 0 2) + (σ 0 3)) - (1 : Int32)) / (6 : Int32) * (6 : Int32)) then none else if inb ((((σ 0 2) + (σ 0 3)) - (1 : Int32)) - (((σ 0 2) + (σ 0 3)) - (1 : Int32)) / (6 : Int32) * (6 : Int32)) 6 then (some (12 + 6 * ((((σ 0 2) + (σ 0 3)) - (1 : Int32)) - (((σ 0 2) + (σ 0 3)) - (1 : Int32)) / (6 : Int32) * (6 : Int32)).toNatClampNeg)) else none))
theorem is_X3_latestSaved {σ : Mem} {res : Nat} (hF : F_X3_latestSaved  σ = some res) : IsSt res := by
  unfold F_X3_latestSaved at hF
  repeat' split at hF
  all_goals first | contradiction | (cases hF; first | exact isCo48 | exact isSt6 | exact isCo_cs (by assumption) | exact isSt_sv (by assumption))
set_option maxHeartbeats 4000000 in
set_option maxRecDepth 100000 in
theorem c_X3_latestSaved {l : Launch} {D : va_G} {ay : Nat → ClassId} {ad : Nat → Nat} {σ : Mem} {res : Nat} (hI : adOK ad) (hF : F_X3_latestSaved  σ = some res) : Met l yX3_latestSaved wsX3_latestSaved ({ frames := 0, cells := 0, slots := 0, locals := 0 } : Room) (va_Pc [.ref (ad 0)] (PP D ay (wC ay ad σ))) (va_Qr (fun u : Nat × Mem => (pP res σ) u.1 u.2) (fun u a t => a = ad u.1 ∧ PP D ay (wC ay ad u.2) t) (AC ad)) 0 0 (AC ad) := by
  refine g_start (wd := wC ay ad) (A := AC ad) (own := RX3) (mL := 2) (rt := (some (.object "LeadTimes$State"))) (by decide) rfl rfl (Nat.le_of_ble_eq_true rfl) ?_
  intro p e s m below meth c ls X hl
  have hl : lv_has ls 2 [(0, .ref (ad 0))] := hl
  rw [F_X3_latestSaved] at hF
  refine g_aload_n X dX3_latestSaved_0 rfl (lv_at hl 0 rfl) ?_
  refine g_get X 0 (lt_obj) in_X3_latestSaved_X3 rfl 2 (by decide) (X.ts (.fieldLink RX3 20 "LeadTimes" "oldest" "I") (by decide +kernel)) rfl rfl dX3_latestSaved_1 ?_
  refine g_aload_n X dX3_latestSaved_4 rfl (lv_at hl 0 rfl) ?_
  refine g_get X 0 (lt_obj) in_X3_latestSaved_X3 rfl 3 (by decide) (X.ts (.fieldLink RX3 24 "LeadTimes" "savedCount" "I") (by decide +kernel)) rfl rfl dX3_latestSaved_5 ?_
  refine g_iadd X dX3_latestSaved_8 ?_
  refine g_iconst (v := 1) X dX3_latestSaved_9 (by decide) ?_
  refine g_isub X dX3_latestSaved_10 ?_
  refine g_bipush (v := 6) X dX3_latestSaved_11 (by decide) ?_
  refine g_irem X dX3_latestSaved_13 (by decide) ?_
  refine g_istore_n (lv' := [(1, _), (0, _)]) X dX3_latestSaved_14 rfl hl (by decide) rfl (fun ls hl => ?_)
  refine g_iload_n X dX3_latestSaved_15 rfl (lv_at hl 0 rfl) ?_
  refine g_if_lt (tgt := 34) X dX3_latestSaved_16 (by decide) (fun hc16 => ?_) (fun hc16 => ?_)
  · have hF := ite_t hF hc16
    cases hF
  · have hF := ite_f hF hc16
    refine g_iload_n X dX3_latestSaved_19 rfl (lv_at hl 0 rfl) ?_
    refine g_bipush (v := 6) X dX3_latestSaved_20 (by decide) ?_
    refine g_icmp_ge (tgt := 34) X dX3_latestSaved_22 (by decide) (fun hc22 => ?_) (fun hc22 => ?_)
    · have hF := ite_t hF hc22
      cases hF
    · have hF := ite_f hF hc22
      refine g_aload_n X dX3_latestSaved_25 rfl (lv_at hl 1 rfl) ?_
      refine g_get X 0 (lt_obj) in_X3_latestSaved_X3 rfl 1 (by decide) (X.ts (.fieldLink RX3 16 "LeadTimes" "saved" "[LLeadTimes$State;") (by decide +kernel)) rfl rfl dX3_latestSaved_26 ?_
      refine g_iload_n X dX3_latestSaved_29 rfl (lv_at hl 0 rfl) ?_
      obtain ⟨h30, hF⟩ := itn hF
      refine g_aldq X 1 3 sv_arr rfl (inb_in h30) rfl dX3_latestSaved_30 ?_
      refine g_goto (tgt := 35) X dX3_latestSaved_31 (by decide) ?_
      exact g_aret X (Or.inl ⟨_, rfl⟩) (pP_mk (some_inj hF)) dX3_latestSaved_35
theorem in_X3_save_X3 : ∀ w ∈ wsX30, w ∈ wsX3_save := by decide +kernel
def F_X3_save (σ : Mem) : Option Mem := (Option.bind (if (6 : Int32) ≤ (σ 0 3) then some (up2 σ 0 2 (((σ 0 2) + (1 : Int32)) - ((σ 0 2) + (1 : Int32)) / (6 : Int32) * (6 : Int32))) else some (up2 σ 0 3 ((σ 0 3) + (1 : Int32)))) (fun v6 : Mem => Option.bind (F_X3_latestSaved v6) (fun r36 => Option.bind (F_X1_copyFrom r36 6 v6) (fun r49 => some r49))))
set_option maxHeartbeats 4000000 in
set_option maxRecDepth 100000 in
theorem c_X3_save {l : Launch} {D : va_G} {ay : Nat → ClassId} {ad : Nat → Nat} {σ : Mem} {res : Mem} (hI : adOK ad) (hF : F_X3_save  σ = some res) : Met l yX3_save wsX3_save ({ frames := 1, cells := 0, slots := 0, locals := 22 } : Room) (va_Pc [.ref (ad 0)] (PP D ay (wC ay ad σ))) (va_Qv (pV res) (fun τ => PP D ay (wC ay ad τ)) (AC ad)) 0 0 (AC ad) := by
  refine g_start (wd := wC ay ad) (A := AC ad) (own := RX3) (mL := 2) (rt := none) (by decide) rfl rfl (Nat.le_of_ble_eq_true rfl) ?_
  intro p e s m below meth c ls X hl
  have hl : lv_has ls 2 [(0, .ref (ad 0))] := hl
  rw [F_X3_save] at hF
  refine g_aload_n X dX3_save_0 rfl (lv_at hl 0 rfl) ?_
  refine g_get X 0 (lt_obj) in_X3_save_X3 rfl 3 (by decide) (X.ts (.fieldLink RX3 24 "LeadTimes" "savedCount" "I") (by decide +kernel)) rfl rfl dX3_save_1 ?_
  refine g_bipush (v := 6) X dX3_save_4 (by decide) ?_
  obtain ⟨v6, hR6, hF⟩ := obind hF
  refine g_cut (nM := 2) [(0, .ref (ad 0))] (v6) 35 [] (fun ls hl => ?_) (fun J6 => ?_)
  · refine g_aload_n X dX3_save_35 rfl (lv_at hl 0 rfl) ?_
    obtain ⟨r36, hr36, hF⟩ := obind hF
    refine k_Vr X (As := []) (rest := []) (c_X3_latestSaved hI hr36) (cwV 0 X.ts gX3_save_X3_latestSaved rfl rfl rfl (by decide +kernel) ⟨Nat.le_of_ble_eq_true rfl, Nat.le_of_ble_eq_true rfl⟩) ⟨0, 3, _, _, lt_obj, rfl, rfl⟩ rfl hl.1 rfl (Nat.le_of_ble_eq_true rfl) dX3_save_36 ?_
    refine g_astore_n (lv' := [(1, _), (0, _)]) X dX3_save_39 rfl hl (by decide) rfl (fun ls hl => ?_)
    refine g_aload_n X dX3_save_40 rfl (lv_at hl 0 rfl) ?_
    refine g_ifnull X dX3_save_41 ?_
    refine g_aload_n X dX3_save_44 rfl (lv_at hl 0 rfl) ?_
    refine g_aload_n X dX3_save_45 rfl (lv_at hl 1 rfl) ?_
    refine g_get X 0 (lt_obj) in_X3_save_X3 rfl 0 (by decide) (X.ts (.fieldLink RX3 12 "LeadTimes" "now" "LLeadTimes$State;") (by decide +kernel)) rfl rfl dX3_save_46 ?_
    obtain ⟨r49, hr49, hF⟩ := obind hF
    refine k_Vv X (As := [.ref (ad 6)]) (rest := []) (c_X1_copyFrom hI (is_X3_latestSaved hr36) isSt6 hr49) (cwV 1 X.ts gX3_save_X1_copyFrom rfl rfl rfl (by decide +kernel) ⟨Nat.le_of_ble_eq_true rfl, Nat.le_of_ble_eq_true rfl⟩) ⟨r36, 1, _, _, st_obj (is_X3_latestSaved hr36), rfl, rfl⟩ rfl hl.1 rfl (Nat.le_of_ble_eq_true rfl) dX3_save_49 ?_
    exact g_vret X (pV_mk (some_inj hF)) dX3_save_52
  · refine g_icmp_ge (tgt := 22) X dX3_save_6 (by decide) (fun hc6 => ?_) (fun hc6 => ?_)
    · have hR6 := ite_t hR6 hc6
      refine g_aload_n X dX3_save_22 rfl (lv_at hl 0 rfl) ?_
      refine g_aload_n X dX3_save_23 rfl (lv_at hl 0 rfl) ?_
      refine g_get X 0 (lt_obj) in_X3_save_X3 rfl 2 (by decide) (X.ts (.fieldLink RX3 20 "LeadTimes" "oldest" "I") (by decide +kernel)) rfl rfl dX3_save_24 ?_
      refine g_iconst (v := 1) X dX3_save_27 (by decide) ?_
      refine g_iadd X dX3_save_28 ?_
      refine g_bipush (v := 6) X dX3_save_29 (by decide) ?_
      refine g_irem X dX3_save_31 (by decide) ?_
      refine g_put X (wC_D hI) (up2 σ 0 2 (((σ 0 2) + (1 : Int32)) - ((σ 0 2) + (1 : Int32)) / (6 : Int32) * (6 : Int32))) 0 (lt_obj) 2 (set_lt (by decide) (by decide)) tyX3 tyX3_ok nmX3 in_X3_save_X3 rfl (by decide) (X.ts (.fieldLink RX3 20 "LeadTimes" "oldest" "I") (by decide +kernel)) rfl rfl rfl rfl rfl (Nat.le_of_ble_eq_true rfl) dX3_save_32 ?_
      have e6 := some_inj hR6
      subst e6
      exact J6 ls (lv_sub hl [0] rfl)
    · have hR6 := ite_f hR6 hc6
      refine g_aload_n X dX3_save_9 rfl (lv_at hl 0 rfl) ?_
      refine g_dup X dX3_save_10 rfl ?_
      refine g_get X 0 (lt_obj) in_X3_save_X3 rfl 3 (by decide) (X.ts (.fieldLink RX3 24 "LeadTimes" "savedCount" "I") (by decide +kernel)) rfl rfl dX3_save_11 ?_
      refine g_iconst (v := 1) X dX3_save_14 (by decide) ?_
      refine g_iadd X dX3_save_15 ?_
      refine g_put X (wC_D hI) (up2 σ 0 3 ((σ 0 3) + (1 : Int32))) 0 (lt_obj) 3 (set_lt (by decide) (by decide)) tyX3 tyX3_ok nmX3 in_X3_save_X3 rfl (by decide) (X.ts (.fieldLink RX3 24 "LeadTimes" "savedCount" "I") (by decide +kernel)) rfl rfl rfl rfl rfl (Nat.le_of_ble_eq_true rfl) dX3_save_16 ?_
      refine g_goto (tgt := 35) X dX3_save_19 (by decide) ?_
      have e6 := some_inj hR6
      subst e6
      exact J6 ls (lv_sub hl [0] rfl)
theorem in_X3_courseOf_X3 : ∀ w ∈ wsX30, w ∈ wsX3_courseOf := by decide +kernel
def F_X3_courseOf (a1 : Int32) (σ : Mem) : Option Nat := (if a1 < (1 : Int32) then some 48 else (if a1 ≤ (15 : Int32) then if inb1 a1 16 then (some (44 + 4 * a1.toNatClampNeg)) else none else some 48))
theorem is_X3_courseOf {a1 : Int32} {σ : Mem} {res : Nat} (hF : F_X3_courseOf a1 σ = some res) : IsCo res := by
  unfold F_X3_courseOf at hF
  repeat' split at hF
  all_goals first | contradiction | (cases hF; first | exact isCo48 | exact isSt6 | exact isCo_cs (by assumption) | exact isSt_sv (by assumption))
set_option maxHeartbeats 4000000 in
set_option maxRecDepth 100000 in
theorem c_X3_courseOf {l : Launch} {D : va_G} {ay : Nat → ClassId} {ad : Nat → Nat} {a1 : Int32} {σ : Mem} {res : Nat} (hI : adOK ad) (hF : F_X3_courseOf a1 σ = some res) : Met l yX3_courseOf wsX3_courseOf ({ frames := 0, cells := 0, slots := 0, locals := 0 } : Room) (va_Pc [.ref (ad 0), .int a1] (PP D ay (wC ay ad σ))) (va_Qr (fun u : Nat × Mem => (pP res σ) u.1 u.2) (fun u a t => a = ad u.1 ∧ PP D ay (wC ay ad u.2) t) (AC ad)) 0 0 (AC ad) := by
  refine g_start (wd := wC ay ad) (A := AC ad) (own := RX3) (mL := 3) (rt := (some (.object "LeadTimes$Course"))) (by decide) rfl rfl (Nat.le_of_ble_eq_true rfl) ?_
  intro p e s m below meth c ls X hl
  have hl : lv_has ls 3 [(0, .ref (ad 0)), (1, .int a1)] := hl
  rw [F_X3_courseOf] at hF
  refine g_iload_n X dX3_courseOf_0 rfl (lv_at hl 1 rfl) ?_
  refine g_iconst (v := 1) X dX3_courseOf_1 (by decide) ?_
  refine g_icmp_lt (tgt := 11) X dX3_courseOf_2 (by decide) (fun hc2 => ?_) (fun hc2 => ?_)
  · have hF := ite_t hF hc2
    refine g_aload_n X dX3_courseOf_11 rfl (lv_at hl 0 rfl) ?_
    refine g_get X 0 (lt_obj) in_X3_courseOf_X3 rfl 4 (by decide) (X.ts (.fieldLink RX3 32 "LeadTimes" "leading" "LLeadTimes$Course;") (by decide +kernel)) rfl rfl dX3_courseOf_12 ?_
    exact g_aret X (Or.inl ⟨_, rfl⟩) (pP_mk (some_inj hF)) dX3_courseOf_15
  · have hF := ite_f hF hc2
    refine g_iload_n X dX3_courseOf_5 rfl (lv_at hl 1 rfl) ?_
    refine g_bipush (v := 15) X dX3_courseOf_6 (by decide) ?_
    refine g_icmp_le (tgt := 16) X dX3_courseOf_8 (by decide) (fun hc8 => ?_) (fun hc8 => ?_)
    · have hF := ite_t hF hc8
      refine g_aload_n X dX3_courseOf_16 rfl (lv_at hl 0 rfl) ?_
      refine g_get X 0 (lt_obj) in_X3_courseOf_X3 rfl 5 (by decide) (X.ts (.fieldLink RX3 36 "LeadTimes" "courses" "[LLeadTimes$Course;") (by decide +kernel)) rfl rfl dX3_courseOf_17 ?_
      refine g_iload_n X dX3_courseOf_20 rfl (lv_at hl 1 rfl) ?_
      obtain ⟨h21, hF⟩ := itn hF
      refine g_aldq X 2 4 cs_arr rfl (inb1_in h21) (if_neg (inb1_ne h21)) dX3_courseOf_21 ?_
      refine g_astore_n (lv' := [(2, _), (0, _), (1, _)]) X dX3_courseOf_22 rfl hl (by decide) rfl (fun ls hl => ?_)
      refine g_aload_n X dX3_courseOf_23 rfl (lv_at hl 0 rfl) ?_
      refine g_ifnonnull (tgt := 34) X dX3_courseOf_24 (by decide) ?_
      refine g_aload_n X dX3_courseOf_34 rfl (lv_at hl 0 rfl) ?_
      exact g_aret X (Or.inl ⟨_, rfl⟩) (pP_mk (some_inj hF)) dX3_courseOf_35
    · have hF := ite_f hF hc8
      refine g_aload_n X dX3_courseOf_11 rfl (lv_at hl 0 rfl) ?_
      refine g_get X 0 (lt_obj) in_X3_courseOf_X3 rfl 4 (by decide) (X.ts (.fieldLink RX3 32 "LeadTimes" "leading" "LLeadTimes$Course;") (by decide +kernel)) rfl rfl dX3_courseOf_12 ?_
      exact g_aret X (Or.inl ⟨_, rfl⟩) (pP_mk (some_inj hF)) dX3_courseOf_15
theorem in_X3_foresee_X3 : ∀ w ∈ wsX30, w ∈ wsX3_foresee := by decide +kernel
def L_X3_foresee_2 : Nat → Int32 → Mem → Option Mem
  | 0, _, _ => none
  | fu + 1, a1, σ => (if (15 : Int32) < a1 then some σ else Option.bind (F_X3_courseOf a1 σ) (fun r10 => Option.bind (F_X0_follow r10 6 σ) (fun r17 => L_X3_foresee_2  fu (a1 + 1) r17)))
set_option maxHeartbeats 4000000 in
set_option maxRecDepth 100000 in
theorem w_X3_foresee_2 {D : va_G} {ay : Nat → ClassId} {ad : Nat → Nat} {p : Program} {l : Launch} {e : Env} {s : State} {m : MethodId} {args : Array Value} {below : List Frame} {meth : Method} {c : Code} {res : Mem} (X : CX D ay p s m args meth c cX3_foresee 2 RX3 none wsX3_foresee) (hI : adOK ad) : ∀ (fu : Nat) (a1 : Int32) (σ : Mem), L_X3_foresee_2  fu a1 σ = some res → ∀ ls : Array Slot, lv_has ls 2 [(0, .ref (ad 0)), (1, .int a1)] → GW D (wC ay ad) (AC ad) p l e ({ frames := 4, cells := 0, slots := 0, locals := 104 } : Room) s m args below meth c (MQ below (va_Qv (pV res) (fun τ => PP D ay (wC ay ad τ)) (AC ad)) args s 0 0 (AC ad)) σ (F0 m 2 ls []) := by
  intro fu
  induction fu with
  | zero =>
    intro a1 σ hF ls hl
    rw [L_X3_foresee_2] at hF
    cases hF
  | succ fu ih =>
    intro a1 σ hF ls hl
    rw [L_X3_foresee_2] at hF
    refine g_iload_n X dX3_foresee_2 rfl (lv_at hl 1 rfl) ?_
    refine g_bipush (v := 15) X dX3_foresee_3 (by decide) ?_
    refine g_icmp_gt (tgt := 26) X dX3_foresee_5 (by decide) (fun hc5 => ?_) (fun hc5 => ?_)
    · have hF := ite_t hF hc5
      exact g_vret X (pV_mk (some_inj hF)) dX3_foresee_26
    · have hF := ite_f hF hc5
      refine g_aload_n X dX3_foresee_8 rfl (lv_at hl 0 rfl) ?_
      refine g_iload_n X dX3_foresee_9 rfl (lv_at hl 1 rfl) ?_
      obtain ⟨r10, hr10, hF⟩ := obind hF
      refine k_Vr X (As := [.int a1]) (rest := []) (c_X3_courseOf hI hr10) (cwV 1 X.ts gX3_foresee_X3_courseOf rfl rfl rfl (by decide +kernel) ⟨Nat.le_of_ble_eq_true rfl, Nat.le_of_ble_eq_true rfl⟩) ⟨0, 3, _, _, lt_obj, rfl, rfl⟩ rfl hl.1 rfl (Nat.le_of_ble_eq_true rfl) dX3_foresee_10 ?_
      refine g_aload_n X dX3_foresee_13 rfl (lv_at hl 0 rfl) ?_
      refine g_get X 0 (lt_obj) in_X3_foresee_X3 rfl 0 (by decide) (X.ts (.fieldLink RX3 12 "LeadTimes" "now" "LLeadTimes$State;") (by decide +kernel)) rfl rfl dX3_foresee_14 ?_
      obtain ⟨r17, hr17, hF⟩ := obind hF
      refine k_Vv X (As := [.ref (ad 6)]) (rest := []) (c_X0_follow hI (is_X3_courseOf hr10) isSt6 hr17) (cwV 1 X.ts gX3_foresee_X0_follow rfl rfl rfl (by decide +kernel) ⟨Nat.le_of_ble_eq_true rfl, Nat.le_of_ble_eq_true rfl⟩) ⟨r10, 0, _, _, co_obj (is_X3_courseOf hr10), rfl, rfl⟩ rfl hl.1 rfl (Nat.le_of_ble_eq_true rfl) dX3_foresee_17 ?_
      refine g_iinc (v := a1 + 1) (lv' := [(1, _), (0, _)]) X dX3_foresee_20 hl (k := 1) rfl rfl (by decide) rfl (fun ls hl => ?_)
      refine g_goto (tgt := 2) X dX3_foresee_23 (by decide) ?_
      exact ih (a1 + 1) r17 hF ls (lv_sub hl [1, 0] rfl)
def F_X3_foresee (σ : Mem) : Option Mem := L_X3_foresee_2  FU (1 : Int32) σ
set_option maxHeartbeats 4000000 in
set_option maxRecDepth 100000 in
theorem c_X3_foresee {l : Launch} {D : va_G} {ay : Nat → ClassId} {ad : Nat → Nat} {σ : Mem} {res : Mem} (hI : adOK ad) (hF : F_X3_foresee  σ = some res) : Met l yX3_foresee wsX3_foresee ({ frames := 4, cells := 0, slots := 0, locals := 104 } : Room) (va_Pc [.ref (ad 0)] (PP D ay (wC ay ad σ))) (va_Qv (pV res) (fun τ => PP D ay (wC ay ad τ)) (AC ad)) 0 0 (AC ad) := by
  refine g_start (wd := wC ay ad) (A := AC ad) (own := RX3) (mL := 2) (rt := none) (by decide) rfl rfl (Nat.le_of_ble_eq_true rfl) ?_
  intro p e s m below meth c ls X hl
  have hl : lv_has ls 2 [(0, .ref (ad 0))] := hl
  rw [F_X3_foresee] at hF
  refine g_iconst (v := 1) X dX3_foresee_0 (by decide) ?_
  refine g_istore_n (lv' := [(1, _), (0, _)]) X dX3_foresee_1 rfl hl (by decide) rfl (fun ls hl => ?_)
  exact w_X3_foresee_2 X hI FU (1 : Int32) σ hF ls (lv_sub hl [1, 0] rfl)
theorem in_X3_add_X3 : ∀ w ∈ wsX30, w ∈ wsX3_add := by decide +kernel
def F_X3_add (a1 : Int32) (a2 : Int32) (σ : Mem) : Option (Nat ⊕ (Int32 × Mem)) := Option.bind (F_X3_isWithin a1 (-9999 : Int32) (9999 : Int32)) (fun r7 => (if r7 = 0 then some (Sum.inl 0) else Option.bind (F_X3_isSpeed a2) (fun r14 => (if ¬ r14 = 0 then Option.bind (F_X1_freeSlot 6 σ) (fun r34 => (if ¬ r34 = (-1 : Int32) then inR (Option.bind (F_X3_save σ) (fun r54 => Option.bind (F_X1_put 6 r34 a1 a2 r54) (fun r64 => Option.bind (F_X3_foresee r64) (fun r68 => some (r34, r68))))) else some (Sum.inl 1))) else some (Sum.inl 0)))))
set_option maxHeartbeats 4000000 in
set_option maxRecDepth 100000 in
theorem c_X3_add {l : Launch} {D : va_G} {ay : Nat → ClassId} {ad : Nat → Nat} {a1 : Int32} {a2 : Int32} {σ : Mem} {res : Int32 × Mem} (hI : adOK ad) (hF : F_X3_add a1 a2 σ = some (Sum.inr res)) : Met l yX3_add wsX3_add ({ frames := 5, cells := 0, slots := 0, locals := 125 } : Room) (va_Pc [.ref (ad 0), .int a1, .int a2] (PP D ay (wC ay ad σ))) (va_Qi (pE res) (fun τ => PP D ay (wC ay ad τ)) (AC ad)) 0 0 (AC ad) := by
  refine g_start (wd := wC ay ad) (A := AC ad) (own := RX3) (mL := 4) (rt := (some .int)) (by decide) rfl rfl (Nat.le_of_ble_eq_true rfl) ?_
  intro p e s m below meth c ls X hl
  have hl : lv_has ls 4 [(0, .ref (ad 0)), (1, .int a1), (2, .int a2)] := hl
  rw [F_X3_add] at hF
  refine g_iload_n X dX3_add_0 rfl (lv_at hl 1 rfl) ?_
  refine g_sipush (v := -9999) X dX3_add_1 (by decide) ?_
  refine g_sipush (v := 9999) X dX3_add_4 (by decide) ?_
  obtain ⟨r7, hr7, hF⟩ := obind hF
  refine k_Sz X (As := [.int a1, .int (-9999 : Int32), .int (9999 : Int32)]) (rest := []) (c_X3_isWithin hI hr7) (va_cwS 3 X.ts gX3_add_X3_isWithin rfl rfl rfl (by decide +kernel) ⟨Nat.le_of_ble_eq_true rfl, Nat.le_of_ble_eq_true rfl⟩) rfl hl.1 rfl (Nat.le_of_ble_eq_true rfl) dX3_add_7 (fun hz7 => ?_)
  refine g_if_eq (tgt := 20) X dX3_add_10 (by decide) (fun hc10 => ?_) (fun hc10 => ?_)
  · have hF := ite_t hF hc10
    exact (inl_inr hF).elim
  · have hF := ite_f hF hc10
    refine g_iload_n X dX3_add_13 rfl (lv_at hl 2 rfl) ?_
    obtain ⟨r14, hr14, hF⟩ := obind hF
    refine k_Sz X (As := [.int a2]) (rest := []) (c_X3_isSpeed hI hr14) (va_cwS 1 X.ts gX3_add_X3_isSpeed rfl rfl rfl (by decide +kernel) ⟨Nat.le_of_ble_eq_true rfl, Nat.le_of_ble_eq_true rfl⟩) rfl hl.1 rfl (Nat.le_of_ble_eq_true rfl) dX3_add_14 (fun hz14 => ?_)
    refine g_if_ne (tgt := 30) X dX3_add_17 (by decide) (fun hc17 => ?_) (fun hc17 => ?_)
    · have hF := ite_t hF hc17
      refine g_aload_n X dX3_add_30 rfl (lv_at hl 0 rfl) ?_
      refine g_get X 0 (lt_obj) in_X3_add_X3 rfl 0 (by decide) (X.ts (.fieldLink RX3 12 "LeadTimes" "now" "LLeadTimes$State;") (by decide +kernel)) rfl rfl dX3_add_31 ?_
      obtain ⟨r34, hr34, hF⟩ := obind hF
      refine k_Vi X (As := []) (rest := []) (c_X1_freeSlot hI isSt6 hr34) (cwV 0 X.ts gX3_add_X1_freeSlot rfl rfl rfl (by decide +kernel) ⟨Nat.le_of_ble_eq_true rfl, Nat.le_of_ble_eq_true rfl⟩) ⟨6, 1, _, _, st_obj isSt6, rfl, rfl⟩ rfl hl.1 rfl (Nat.le_of_ble_eq_true rfl) dX3_add_34 ?_
      refine g_istore_n (lv' := [(3, _), (0, _), (1, _), (2, _)]) X dX3_add_37 rfl hl (by decide) rfl (fun ls hl => ?_)
      refine g_iload_n X dX3_add_38 rfl (lv_at hl 0 rfl) ?_
      refine g_iconst (v := -1) X dX3_add_39 (by decide) ?_
      refine g_icmp_ne (tgt := 53) X dX3_add_40 (by decide) (fun hc40 => ?_) (fun hc40 => ?_)
      · have hF := ite_t hF hc40
        have hF := inR_some hF
        refine g_aload_n X dX3_add_53 rfl (lv_at hl 1 rfl) ?_
        obtain ⟨r54, hr54, hF⟩ := obind hF
        refine k_Vv X (As := []) (rest := []) (c_X3_save hI hr54) (cwV 0 X.ts gX3_add_X3_save rfl rfl rfl (by decide +kernel) ⟨Nat.le_of_ble_eq_true rfl, Nat.le_of_ble_eq_true rfl⟩) ⟨0, 3, _, _, lt_obj, rfl, rfl⟩ rfl hl.1 rfl (Nat.le_of_ble_eq_true rfl) dX3_add_54 ?_
        refine g_aload_n X dX3_add_57 rfl (lv_at hl 1 rfl) ?_
        refine g_get X 0 (lt_obj) in_X3_add_X3 rfl 0 (by decide) (X.ts (.fieldLink RX3 12 "LeadTimes" "now" "LLeadTimes$State;") (by decide +kernel)) rfl rfl dX3_add_58 ?_
        refine g_iload_n X dX3_add_61 rfl (lv_at hl 0 rfl) ?_
        refine g_iload_n X dX3_add_62 rfl (lv_at hl 2 rfl) ?_
        refine g_iload_n X dX3_add_63 rfl (lv_at hl 3 rfl) ?_
        obtain ⟨r64, hr64, hF⟩ := obind hF
        refine k_Vv X (As := [.int r34, .int a1, .int a2]) (rest := []) (c_X1_put hI isSt6 hr64) (cwV 3 X.ts gX3_add_X1_put rfl rfl rfl (by decide +kernel) ⟨Nat.le_of_ble_eq_true rfl, Nat.le_of_ble_eq_true rfl⟩) ⟨6, 1, _, _, st_obj isSt6, rfl, rfl⟩ rfl hl.1 rfl (Nat.le_of_ble_eq_true rfl) dX3_add_64 ?_
        refine g_aload_n X dX3_add_67 rfl (lv_at hl 1 rfl) ?_
        obtain ⟨r68, hr68, hF⟩ := obind hF
        refine k_Vv X (As := []) (rest := []) (c_X3_foresee hI hr68) (cwV 0 X.ts gX3_add_X3_foresee rfl rfl rfl (by decide +kernel) ⟨Nat.le_of_ble_eq_true rfl, Nat.le_of_ble_eq_true rfl⟩) ⟨0, 3, _, _, lt_obj, rfl, rfl⟩ rfl hl.1 rfl (Nat.le_of_ble_eq_true rfl) dX3_add_68 ?_
        refine g_iload_n X dX3_add_71 rfl (lv_at hl 0 rfl) ?_
        exact g_iret X (pE_mk (some_inj hF)) dX3_add_72
      · have hF := ite_n hF hc40
        exact (inl_inr hF).elim
    · have hF := ite_n hF hc17
      exact (inl_inr hF).elim
theorem in_X3_remove_X3 : ∀ w ∈ wsX30, w ∈ wsX3_remove := by decide +kernel
def F_X3_remove (a1 : Int32) (σ : Mem) : Option (Nat ⊕ (Int32 × Mem)) := Option.bind (F_X1_has 6 a1 σ) (fun r5 => (if ¬ r5 = 0 then inR (Option.bind (F_X3_save σ) (fun r22 => Option.bind (F_X1_valueOf 6 a1 r22) (fun r30 => Option.bind (F_X1_free 6 a1 r22) (fun r39 => Option.bind (F_X3_foresee r39) (fun r43 => some (r30, r43)))))) else some (Sum.inl 2)))
set_option maxHeartbeats 4000000 in
set_option maxRecDepth 100000 in
theorem c_X3_remove {l : Launch} {D : va_G} {ay : Nat → ClassId} {ad : Nat → Nat} {a1 : Int32} {σ : Mem} {res : Int32 × Mem} (hI : adOK ad) (hF : F_X3_remove a1 σ = some (Sum.inr res)) : Met l yX3_remove wsX3_remove ({ frames := 5, cells := 0, slots := 0, locals := 125 } : Room) (va_Pc [.ref (ad 0), .int a1] (PP D ay (wC ay ad σ))) (va_Qi (pE res) (fun τ => PP D ay (wC ay ad τ)) (AC ad)) 0 0 (AC ad) := by
  refine g_start (wd := wC ay ad) (A := AC ad) (own := RX3) (mL := 3) (rt := (some .int)) (by decide) rfl rfl (Nat.le_of_ble_eq_true rfl) ?_
  intro p e s m below meth c ls X hl
  have hl : lv_has ls 3 [(0, .ref (ad 0)), (1, .int a1)] := hl
  rw [F_X3_remove] at hF
  refine g_aload_n X dX3_remove_0 rfl (lv_at hl 0 rfl) ?_
  refine g_get X 0 (lt_obj) in_X3_remove_X3 rfl 0 (by decide) (X.ts (.fieldLink RX3 12 "LeadTimes" "now" "LLeadTimes$State;") (by decide +kernel)) rfl rfl dX3_remove_1 ?_
  refine g_iload_n X dX3_remove_4 rfl (lv_at hl 1 rfl) ?_
  obtain ⟨r5, hr5, hF⟩ := obind hF
  refine k_Vz X (As := [.int a1]) (rest := []) (c_X1_has hI isSt6 hr5) (cwV 1 X.ts gX3_remove_X1_has rfl rfl rfl (by decide +kernel) ⟨Nat.le_of_ble_eq_true rfl, Nat.le_of_ble_eq_true rfl⟩) ⟨6, 1, _, _, st_obj isSt6, rfl, rfl⟩ rfl hl.1 rfl (Nat.le_of_ble_eq_true rfl) dX3_remove_5 (fun hz5 => ?_)
  refine g_if_ne (tgt := 21) X dX3_remove_8 (by decide) (fun hc8 => ?_) (fun hc8 => ?_)
  · have hF := ite_t hF hc8
    have hF := inR_some hF
    refine g_aload_n X dX3_remove_21 rfl (lv_at hl 0 rfl) ?_
    obtain ⟨r22, hr22, hF⟩ := obind hF
    refine k_Vv X (As := []) (rest := []) (c_X3_save hI hr22) (cwV 0 X.ts gX3_remove_X3_save rfl rfl rfl (by decide +kernel) ⟨Nat.le_of_ble_eq_true rfl, Nat.le_of_ble_eq_true rfl⟩) ⟨0, 3, _, _, lt_obj, rfl, rfl⟩ rfl hl.1 rfl (Nat.le_of_ble_eq_true rfl) dX3_remove_22 ?_
    refine g_aload_n X dX3_remove_25 rfl (lv_at hl 0 rfl) ?_
    refine g_get X 0 (lt_obj) in_X3_remove_X3 rfl 0 (by decide) (X.ts (.fieldLink RX3 12 "LeadTimes" "now" "LLeadTimes$State;") (by decide +kernel)) rfl rfl dX3_remove_26 ?_
    refine g_iload_n X dX3_remove_29 rfl (lv_at hl 1 rfl) ?_
    obtain ⟨r30, hr30, hF⟩ := obind hF
    refine k_Vi X (As := [.int a1]) (rest := []) (c_X1_valueOf hI isSt6 hr30) (cwV 1 X.ts gX3_remove_X1_valueOf rfl rfl rfl (by decide +kernel) ⟨Nat.le_of_ble_eq_true rfl, Nat.le_of_ble_eq_true rfl⟩) ⟨6, 1, _, _, st_obj isSt6, rfl, rfl⟩ rfl hl.1 rfl (Nat.le_of_ble_eq_true rfl) dX3_remove_30 ?_
    refine g_istore_n (lv' := [(2, _), (0, _), (1, _)]) X dX3_remove_33 rfl hl (by decide) rfl (fun ls hl => ?_)
    refine g_aload_n X dX3_remove_34 rfl (lv_at hl 1 rfl) ?_
    refine g_get X 0 (lt_obj) in_X3_remove_X3 rfl 0 (by decide) (X.ts (.fieldLink RX3 12 "LeadTimes" "now" "LLeadTimes$State;") (by decide +kernel)) rfl rfl dX3_remove_35 ?_
    refine g_iload_n X dX3_remove_38 rfl (lv_at hl 2 rfl) ?_
    obtain ⟨r39, hr39, hF⟩ := obind hF
    refine k_Vv X (As := [.int a1]) (rest := []) (c_X1_free hI isSt6 hr39) (cwV 1 X.ts gX3_remove_X1_free rfl rfl rfl (by decide +kernel) ⟨Nat.le_of_ble_eq_true rfl, Nat.le_of_ble_eq_true rfl⟩) ⟨6, 1, _, _, st_obj isSt6, rfl, rfl⟩ rfl hl.1 rfl (Nat.le_of_ble_eq_true rfl) dX3_remove_39 ?_
    refine g_aload_n X dX3_remove_42 rfl (lv_at hl 1 rfl) ?_
    obtain ⟨r43, hr43, hF⟩ := obind hF
    refine k_Vv X (As := []) (rest := []) (c_X3_foresee hI hr43) (cwV 0 X.ts gX3_remove_X3_foresee rfl rfl rfl (by decide +kernel) ⟨Nat.le_of_ble_eq_true rfl, Nat.le_of_ble_eq_true rfl⟩) ⟨0, 3, _, _, lt_obj, rfl, rfl⟩ rfl hl.1 rfl (Nat.le_of_ble_eq_true rfl) dX3_remove_43 ?_
    refine g_iload_n X dX3_remove_46 rfl (lv_at hl 0 rfl) ?_
    exact g_iret X (pE_mk (some_inj hF)) dX3_remove_47
  · have hF := ite_n hF hc8
    exact (inl_inr hF).elim
theorem in_X3_speed_X3 : ∀ w ∈ wsX30, w ∈ wsX3_speed := by decide +kernel
def F_X3_speed (a1 : Int32) (a2 : Int32) (σ : Mem) : Option (Nat ⊕ (Int32 × Mem)) := Option.bind (F_X1_has 6 a1 σ) (fun r5 => (if ¬ r5 = 0 then Option.bind (F_X3_isSpeed a2) (fun r22 => (if ¬ r22 = 0 then inR (Option.bind (F_X3_save σ) (fun r39 => Option.bind (F_X1_speedOf 6 a1 r39) (fun r47 => Option.bind (F_X1_changeSpeed 6 a1 a2 r39) (fun r57 => Option.bind (F_X3_foresee r57) (fun r61 => some (r47, r61)))))) else some (Sum.inl 0))) else some (Sum.inl 2)))
set_option maxHeartbeats 4000000 in
set_option maxRecDepth 100000 in
theorem c_X3_speed {l : Launch} {D : va_G} {ay : Nat → ClassId} {ad : Nat → Nat} {a1 : Int32} {a2 : Int32} {σ : Mem} {res : Int32 × Mem} (hI : adOK ad) (hF : F_X3_speed a1 a2 σ = some (Sum.inr res)) : Met l yX3_speed wsX3_speed ({ frames := 5, cells := 0, slots := 0, locals := 125 } : Room) (va_Pc [.ref (ad 0), .int a1, .int a2] (PP D ay (wC ay ad σ))) (va_Qi (pE res) (fun τ => PP D ay (wC ay ad τ)) (AC ad)) 0 0 (AC ad) := by
  refine g_start (wd := wC ay ad) (A := AC ad) (own := RX3) (mL := 4) (rt := (some .int)) (by decide) rfl rfl (Nat.le_of_ble_eq_true rfl) ?_
  intro p e s m below meth c ls X hl
  have hl : lv_has ls 4 [(0, .ref (ad 0)), (1, .int a1), (2, .int a2)] := hl
  rw [F_X3_speed] at hF
  refine g_aload_n X dX3_speed_0 rfl (lv_at hl 0 rfl) ?_
  refine g_get X 0 (lt_obj) in_X3_speed_X3 rfl 0 (by decide) (X.ts (.fieldLink RX3 12 "LeadTimes" "now" "LLeadTimes$State;") (by decide +kernel)) rfl rfl dX3_speed_1 ?_
  refine g_iload_n X dX3_speed_4 rfl (lv_at hl 1 rfl) ?_
  obtain ⟨r5, hr5, hF⟩ := obind hF
  refine k_Vz X (As := [.int a1]) (rest := []) (c_X1_has hI isSt6 hr5) (cwV 1 X.ts gX3_speed_X1_has rfl rfl rfl (by decide +kernel) ⟨Nat.le_of_ble_eq_true rfl, Nat.le_of_ble_eq_true rfl⟩) ⟨6, 1, _, _, st_obj isSt6, rfl, rfl⟩ rfl hl.1 rfl (Nat.le_of_ble_eq_true rfl) dX3_speed_5 (fun hz5 => ?_)
  refine g_if_ne (tgt := 21) X dX3_speed_8 (by decide) (fun hc8 => ?_) (fun hc8 => ?_)
  · have hF := ite_t hF hc8
    refine g_iload_n X dX3_speed_21 rfl (lv_at hl 2 rfl) ?_
    obtain ⟨r22, hr22, hF⟩ := obind hF
    refine k_Sz X (As := [.int a2]) (rest := []) (c_X3_isSpeed hI hr22) (va_cwS 1 X.ts gX3_speed_X3_isSpeed rfl rfl rfl (by decide +kernel) ⟨Nat.le_of_ble_eq_true rfl, Nat.le_of_ble_eq_true rfl⟩) rfl hl.1 rfl (Nat.le_of_ble_eq_true rfl) dX3_speed_22 (fun hz22 => ?_)
    refine g_if_ne (tgt := 38) X dX3_speed_25 (by decide) (fun hc25 => ?_) (fun hc25 => ?_)
    · have hF := ite_t hF hc25
      have hF := inR_some hF
      refine g_aload_n X dX3_speed_38 rfl (lv_at hl 0 rfl) ?_
      obtain ⟨r39, hr39, hF⟩ := obind hF
      refine k_Vv X (As := []) (rest := []) (c_X3_save hI hr39) (cwV 0 X.ts gX3_speed_X3_save rfl rfl rfl (by decide +kernel) ⟨Nat.le_of_ble_eq_true rfl, Nat.le_of_ble_eq_true rfl⟩) ⟨0, 3, _, _, lt_obj, rfl, rfl⟩ rfl hl.1 rfl (Nat.le_of_ble_eq_true rfl) dX3_speed_39 ?_
      refine g_aload_n X dX3_speed_42 rfl (lv_at hl 0 rfl) ?_
      refine g_get X 0 (lt_obj) in_X3_speed_X3 rfl 0 (by decide) (X.ts (.fieldLink RX3 12 "LeadTimes" "now" "LLeadTimes$State;") (by decide +kernel)) rfl rfl dX3_speed_43 ?_
      refine g_iload_n X dX3_speed_46 rfl (lv_at hl 1 rfl) ?_
      obtain ⟨r47, hr47, hF⟩ := obind hF
      refine k_Vi X (As := [.int a1]) (rest := []) (c_X1_speedOf hI isSt6 hr47) (cwV 1 X.ts gX3_speed_X1_speedOf rfl rfl rfl (by decide +kernel) ⟨Nat.le_of_ble_eq_true rfl, Nat.le_of_ble_eq_true rfl⟩) ⟨6, 1, _, _, st_obj isSt6, rfl, rfl⟩ rfl hl.1 rfl (Nat.le_of_ble_eq_true rfl) dX3_speed_47 ?_
      refine g_istore_n (lv' := [(3, _), (0, _), (1, _), (2, _)]) X dX3_speed_50 rfl hl (by decide) rfl (fun ls hl => ?_)
      refine g_aload_n X dX3_speed_51 rfl (lv_at hl 1 rfl) ?_
      refine g_get X 0 (lt_obj) in_X3_speed_X3 rfl 0 (by decide) (X.ts (.fieldLink RX3 12 "LeadTimes" "now" "LLeadTimes$State;") (by decide +kernel)) rfl rfl dX3_speed_52 ?_
      refine g_iload_n X dX3_speed_55 rfl (lv_at hl 2 rfl) ?_
      refine g_iload_n X dX3_speed_56 rfl (lv_at hl 3 rfl) ?_
      obtain ⟨r57, hr57, hF⟩ := obind hF
      refine k_Vv X (As := [.int a1, .int a2]) (rest := []) (c_X1_changeSpeed hI isSt6 hr57) (cwV 2 X.ts gX3_speed_X1_changeSpeed rfl rfl rfl (by decide +kernel) ⟨Nat.le_of_ble_eq_true rfl, Nat.le_of_ble_eq_true rfl⟩) ⟨6, 1, _, _, st_obj isSt6, rfl, rfl⟩ rfl hl.1 rfl (Nat.le_of_ble_eq_true rfl) dX3_speed_57 ?_
      refine g_aload_n X dX3_speed_60 rfl (lv_at hl 1 rfl) ?_
      obtain ⟨r61, hr61, hF⟩ := obind hF
      refine k_Vv X (As := []) (rest := []) (c_X3_foresee hI hr61) (cwV 0 X.ts gX3_speed_X3_foresee rfl rfl rfl (by decide +kernel) ⟨Nat.le_of_ble_eq_true rfl, Nat.le_of_ble_eq_true rfl⟩) ⟨0, 3, _, _, lt_obj, rfl, rfl⟩ rfl hl.1 rfl (Nat.le_of_ble_eq_true rfl) dX3_speed_61 ?_
      refine g_iload_n X dX3_speed_64 rfl (lv_at hl 0 rfl) ?_
      exact g_iret X (pE_mk (some_inj hF)) dX3_speed_65
    · have hF := ite_n hF hc25
      exact (inl_inr hF).elim
  · have hF := ite_n hF hc8
    exact (inl_inr hF).elim
theorem in_X3_jump_X3 : ∀ w ∈ wsX30, w ∈ wsX3_jump := by decide +kernel
def F_X3_jump (a1 : Int32) (a2 : Int32) (σ : Mem) : Option (Nat ⊕ (Int32 × Mem)) := Option.bind (F_X1_has 6 a1 σ) (fun r5 => (if ¬ r5 = 0 then Option.bind (F_X3_isWithin a2 (-9999 : Int32) (9999 : Int32)) (fun r28 => (if ¬ r28 = 0 then Option.bind (F_X1_valueOf 6 a1 σ) (fun r49 => Option.bind (F_X3_isWithin (r49 + a2) (-1000000 : Int32) (1000000 : Int32)) (fun r60 => (if ¬ r60 = 0 then inR (Option.bind (F_X3_save σ) (fun r77 => Option.bind (F_X1_changeValue 6 a1 (r49 + a2) r77) (fun r86 => Option.bind (F_X3_foresee r86) (fun r90 => some (r49 + a2, r90))))) else some (Sum.inl 1)))) else some (Sum.inl 0))) else some (Sum.inl 2)))
set_option maxHeartbeats 4000000 in
set_option maxRecDepth 100000 in
theorem c_X3_jump {l : Launch} {D : va_G} {ay : Nat → ClassId} {ad : Nat → Nat} {a1 : Int32} {a2 : Int32} {σ : Mem} {res : Int32 × Mem} (hI : adOK ad) (hF : F_X3_jump a1 a2 σ = some (Sum.inr res)) : Met l yX3_jump wsX3_jump ({ frames := 5, cells := 0, slots := 0, locals := 125 } : Room) (va_Pc [.ref (ad 0), .int a1, .int a2] (PP D ay (wC ay ad σ))) (va_Qi (pE res) (fun τ => PP D ay (wC ay ad τ)) (AC ad)) 0 0 (AC ad) := by
  refine g_start (wd := wC ay ad) (A := AC ad) (own := RX3) (mL := 4) (rt := (some .int)) (by decide) rfl rfl (Nat.le_of_ble_eq_true rfl) ?_
  intro p e s m below meth c ls X hl
  have hl : lv_has ls 4 [(0, .ref (ad 0)), (1, .int a1), (2, .int a2)] := hl
  rw [F_X3_jump] at hF
  refine g_aload_n X dX3_jump_0 rfl (lv_at hl 0 rfl) ?_
  refine g_get X 0 (lt_obj) in_X3_jump_X3 rfl 0 (by decide) (X.ts (.fieldLink RX3 12 "LeadTimes" "now" "LLeadTimes$State;") (by decide +kernel)) rfl rfl dX3_jump_1 ?_
  refine g_iload_n X dX3_jump_4 rfl (lv_at hl 1 rfl) ?_
  obtain ⟨r5, hr5, hF⟩ := obind hF
  refine k_Vz X (As := [.int a1]) (rest := []) (c_X1_has hI isSt6 hr5) (cwV 1 X.ts gX3_jump_X1_has rfl rfl rfl (by decide +kernel) ⟨Nat.le_of_ble_eq_true rfl, Nat.le_of_ble_eq_true rfl⟩) ⟨6, 1, _, _, st_obj isSt6, rfl, rfl⟩ rfl hl.1 rfl (Nat.le_of_ble_eq_true rfl) dX3_jump_5 (fun hz5 => ?_)
  refine g_if_ne (tgt := 21) X dX3_jump_8 (by decide) (fun hc8 => ?_) (fun hc8 => ?_)
  · have hF := ite_t hF hc8
    refine g_iload_n X dX3_jump_21 rfl (lv_at hl 2 rfl) ?_
    refine g_sipush (v := -9999) X dX3_jump_22 (by decide) ?_
    refine g_sipush (v := 9999) X dX3_jump_25 (by decide) ?_
    obtain ⟨r28, hr28, hF⟩ := obind hF
    refine k_Sz X (As := [.int a2, .int (-9999 : Int32), .int (9999 : Int32)]) (rest := []) (c_X3_isWithin hI hr28) (va_cwS 3 X.ts gX3_jump_X3_isWithin rfl rfl rfl (by decide +kernel) ⟨Nat.le_of_ble_eq_true rfl, Nat.le_of_ble_eq_true rfl⟩) rfl hl.1 rfl (Nat.le_of_ble_eq_true rfl) dX3_jump_28 (fun hz28 => ?_)
    refine g_if_ne (tgt := 44) X dX3_jump_31 (by decide) (fun hc31 => ?_) (fun hc31 => ?_)
    · have hF := ite_t hF hc31
      refine g_aload_n X dX3_jump_44 rfl (lv_at hl 0 rfl) ?_
      refine g_get X 0 (lt_obj) in_X3_jump_X3 rfl 0 (by decide) (X.ts (.fieldLink RX3 12 "LeadTimes" "now" "LLeadTimes$State;") (by decide +kernel)) rfl rfl dX3_jump_45 ?_
      refine g_iload_n X dX3_jump_48 rfl (lv_at hl 1 rfl) ?_
      obtain ⟨r49, hr49, hF⟩ := obind hF
      refine k_Vi X (As := [.int a1]) (rest := []) (c_X1_valueOf hI isSt6 hr49) (cwV 1 X.ts gX3_jump_X1_valueOf rfl rfl rfl (by decide +kernel) ⟨Nat.le_of_ble_eq_true rfl, Nat.le_of_ble_eq_true rfl⟩) ⟨6, 1, _, _, st_obj isSt6, rfl, rfl⟩ rfl hl.1 rfl (Nat.le_of_ble_eq_true rfl) dX3_jump_49 ?_
      refine g_iload_n X dX3_jump_52 rfl (lv_at hl 2 rfl) ?_
      refine g_iadd X dX3_jump_53 ?_
      refine g_istore_n (lv' := [(3, _), (0, _), (1, _), (2, _)]) X dX3_jump_54 rfl hl (by decide) rfl (fun ls hl => ?_)
      refine g_iload_n X dX3_jump_55 rfl (lv_at hl 0 rfl) ?_
      refine g_ldc X dX3_jump_56 (X.ts (.constant RX3 111 (-1000000)) (by decide +kernel)) ?_
      refine g_ldc X dX3_jump_58 (X.ts (.constant RX3 112 (1000000)) (by decide +kernel)) ?_
      obtain ⟨r60, hr60, hF⟩ := obind hF
      refine k_Sz X (As := [.int (r49 + a2), .int (-1000000 : Int32), .int (1000000 : Int32)]) (rest := []) (c_X3_isWithin hI hr60) (va_cwS 3 X.ts gX3_jump_X3_isWithin rfl rfl rfl (by decide +kernel) ⟨Nat.le_of_ble_eq_true rfl, Nat.le_of_ble_eq_true rfl⟩) rfl hl.1 rfl (Nat.le_of_ble_eq_true rfl) dX3_jump_60 (fun hz60 => ?_)
      refine g_if_ne (tgt := 76) X dX3_jump_63 (by decide) (fun hc63 => ?_) (fun hc63 => ?_)
      · have hF := ite_t hF hc63
        have hF := inR_some hF
        refine g_aload_n X dX3_jump_76 rfl (lv_at hl 1 rfl) ?_
        obtain ⟨r77, hr77, hF⟩ := obind hF
        refine k_Vv X (As := []) (rest := []) (c_X3_save hI hr77) (cwV 0 X.ts gX3_jump_X3_save rfl rfl rfl (by decide +kernel) ⟨Nat.le_of_ble_eq_true rfl, Nat.le_of_ble_eq_true rfl⟩) ⟨0, 3, _, _, lt_obj, rfl, rfl⟩ rfl hl.1 rfl (Nat.le_of_ble_eq_true rfl) dX3_jump_77 ?_
        refine g_aload_n X dX3_jump_80 rfl (lv_at hl 1 rfl) ?_
        refine g_get X 0 (lt_obj) in_X3_jump_X3 rfl 0 (by decide) (X.ts (.fieldLink RX3 12 "LeadTimes" "now" "LLeadTimes$State;") (by decide +kernel)) rfl rfl dX3_jump_81 ?_
        refine g_iload_n X dX3_jump_84 rfl (lv_at hl 2 rfl) ?_
        refine g_iload_n X dX3_jump_85 rfl (lv_at hl 0 rfl) ?_
        obtain ⟨r86, hr86, hF⟩ := obind hF
        refine k_Vv X (As := [.int a1, .int (r49 + a2)]) (rest := []) (c_X1_changeValue hI isSt6 hr86) (cwV 2 X.ts gX3_jump_X1_changeValue rfl rfl rfl (by decide +kernel) ⟨Nat.le_of_ble_eq_true rfl, Nat.le_of_ble_eq_true rfl⟩) ⟨6, 1, _, _, st_obj isSt6, rfl, rfl⟩ rfl hl.1 rfl (Nat.le_of_ble_eq_true rfl) dX3_jump_86 ?_
        refine g_aload_n X dX3_jump_89 rfl (lv_at hl 1 rfl) ?_
        obtain ⟨r90, hr90, hF⟩ := obind hF
        refine k_Vv X (As := []) (rest := []) (c_X3_foresee hI hr90) (cwV 0 X.ts gX3_jump_X3_foresee rfl rfl rfl (by decide +kernel) ⟨Nat.le_of_ble_eq_true rfl, Nat.le_of_ble_eq_true rfl⟩) ⟨0, 3, _, _, lt_obj, rfl, rfl⟩ rfl hl.1 rfl (Nat.le_of_ble_eq_true rfl) dX3_jump_90 ?_
        refine g_iload_n X dX3_jump_93 rfl (lv_at hl 0 rfl) ?_
        exact g_iret X (pE_mk (some_inj hF)) dX3_jump_94
      · have hF := ite_n hF hc63
        exact (inl_inr hF).elim
    · have hF := ite_n hF hc31
      exact (inl_inr hF).elim
  · have hF := ite_n hF hc8
    exact (inl_inr hF).elim
def F_X3_winnerOf (a1 : Int32) (σ : Mem) : Option Int32 := Option.bind (F_X3_courseOf a1 σ) (fun r2 => Option.bind (F_X0_winnerIn r2 (0 : Int32) σ) (fun r6 => some r6))
set_option maxHeartbeats 4000000 in
set_option maxRecDepth 100000 in
theorem c_X3_winnerOf {l : Launch} {D : va_G} {ay : Nat → ClassId} {ad : Nat → Nat} {a1 : Int32} {σ : Mem} {res : Int32} (hI : adOK ad) (hF : F_X3_winnerOf a1 σ = some res) : Met l yX3_winnerOf wsX3_winnerOf ({ frames := 2, cells := 0, slots := 0, locals := 42 } : Room) (va_Pc [.ref (ad 0), .int a1] (PP D ay (wC ay ad σ))) (va_Qi (pP res σ) (fun τ => PP D ay (wC ay ad τ)) (AC ad)) 0 0 (AC ad) := by
  refine g_start (wd := wC ay ad) (A := AC ad) (own := RX3) (mL := 2) (rt := (some .int)) (by decide) rfl rfl (Nat.le_of_ble_eq_true rfl) ?_
  intro p e s m below meth c ls X hl
  have hl : lv_has ls 2 [(0, .ref (ad 0)), (1, .int a1)] := hl
  rw [F_X3_winnerOf] at hF
  refine g_aload_n X dX3_winnerOf_0 rfl (lv_at hl 0 rfl) ?_
  refine g_iload_n X dX3_winnerOf_1 rfl (lv_at hl 1 rfl) ?_
  obtain ⟨r2, hr2, hF⟩ := obind hF
  refine k_Vr X (As := [.int a1]) (rest := []) (c_X3_courseOf hI hr2) (cwV 1 X.ts gX3_winnerOf_X3_courseOf rfl rfl rfl (by decide +kernel) ⟨Nat.le_of_ble_eq_true rfl, Nat.le_of_ble_eq_true rfl⟩) ⟨0, 3, _, _, lt_obj, rfl, rfl⟩ rfl hl.1 rfl (Nat.le_of_ble_eq_true rfl) dX3_winnerOf_2 ?_
  refine g_iconst (v := 0) X dX3_winnerOf_5 (by decide) ?_
  obtain ⟨r6, hr6, hF⟩ := obind hF
  refine k_Vi X (As := [.int (0 : Int32)]) (rest := []) (c_X0_winnerIn hI (is_X3_courseOf hr2) hr6) (cwV 1 X.ts gX3_winnerOf_X0_winnerIn rfl rfl rfl (by decide +kernel) ⟨Nat.le_of_ble_eq_true rfl, Nat.le_of_ble_eq_true rfl⟩) ⟨r2, 0, _, _, co_obj (is_X3_courseOf hr2), rfl, rfl⟩ rfl hl.1 rfl (Nat.le_of_ble_eq_true rfl) dX3_winnerOf_6 ?_
  exact g_iret X (pP_mk (some_inj hF)) dX3_winnerOf_9
theorem in_X3_swap_X3 : ∀ w ∈ wsX30, w ∈ wsX3_swap := by decide +kernel
def L_X3_swap_30 (a1 : Int32) (a2 : Int32) : Nat → Int32 → Mem → Option Mem
  | 0, _, _ => none
  | fu + 1, a3, σ => (if (15 : Int32) < a3 then some σ else Option.bind (F_X3_winnerOf a3 σ) (fun r43 => if inb a3 16 then (L_X3_swap_30 a1 a2 fu (a3 + 1) (up2 σ 3 a3.toNatClampNeg r43)) else none))
set_option maxHeartbeats 4000000 in
set_option maxRecDepth 100000 in
theorem w_X3_swap_30 {D : va_G} {ay : Nat → ClassId} {ad : Nat → Nat} {p : Program} {l : Launch} {e : Env} {s : State} {m : MethodId} {args : Array Value} {below : List Frame} {meth : Method} {c : Code} {Q : State → Prop} {a1 : Int32} {a2 : Int32} {res : Mem} (X : CX D ay p s m args meth c cX3_swap 7 RX3 (some .int) wsX3_swap) (hI : adOK ad) (K : ∀ ls : Array Slot, lv_has ls 7 [(0, .ref (ad 0)), (1, .int a1), (2, .int a2)] → GW D (wC ay ad) (AC ad) p l e ({ frames := 5, cells := 0, slots := 0, locals := 125 } : Room) s m args below meth c Q res (F0 m 53 ls [])) : ∀ (fu : Nat) (a3 : Int32) (σ : Mem), L_X3_swap_30 a1 a2 fu a3 σ = some res → ∀ ls : Array Slot, lv_has ls 7 [(0, .ref (ad 0)), (1, .int a1), (2, .int a2), (3, .int a3)] → GW D (wC ay ad) (AC ad) p l e ({ frames := 5, cells := 0, slots := 0, locals := 125 } : Room) s m args below meth c Q σ (F0 m 30 ls []) := by
  intro fu
  induction fu with
  | zero =>
    intro a3 σ hF ls hl
    rw [L_X3_swap_30] at hF
    cases hF
  | succ fu ih =>
    intro a3 σ hF ls hl
    rw [L_X3_swap_30] at hF
    refine g_iload_n X dX3_swap_30 rfl (lv_at hl 3 rfl) ?_
    refine g_bipush (v := 15) X dX3_swap_31 (by decide) ?_
    refine g_icmp_gt (tgt := 53) X dX3_swap_33 (by decide) (fun hc33 => ?_) (fun hc33 => ?_)
    · have hF := ite_t hF hc33
      have e30 := some_inj hF
      subst e30
      exact K ls (lv_sub hl [0, 1, 2] rfl)
    · have hF := ite_f hF hc33
      refine g_aload_n X dX3_swap_36 rfl (lv_at hl 0 rfl) ?_
      refine g_get X 0 (lt_obj) in_X3_swap_X3 rfl 6 (by decide) (X.ts (.fieldLink RX3 40 "LeadTimes" "wonBefore" "[I") (by decide +kernel)) rfl rfl dX3_swap_37 ?_
      refine g_iload_n X dX3_swap_40 rfl (lv_at hl 3 rfl) ?_
      refine g_aload_n X dX3_swap_41 rfl (lv_at hl 0 rfl) ?_
      refine g_iload_n X dX3_swap_42 rfl (lv_at hl 3 rfl) ?_
      obtain ⟨r43, hr43, hF⟩ := obind hF
      refine k_Vi X (As := [.int a3]) (rest := [.int a3, .ref (ad 3)]) (c_X3_winnerOf hI hr43) (cwV 1 X.ts gX3_swap_X3_winnerOf rfl rfl rfl (by decide +kernel) ⟨Nat.le_of_ble_eq_true rfl, Nat.le_of_ble_eq_true rfl⟩) ⟨0, 3, _, _, lt_obj, rfl, rfl⟩ rfl hl.1 rfl (Nat.le_of_ble_eq_true rfl) dX3_swap_43 ?_
      obtain ⟨h46, hF⟩ := itn hF
      refine g_iast X (wC_D hI) (up2 σ 3 a3.toNatClampNeg r43) 3 (j := a3.toNatClampNeg) (wb_arr) (by first | rfl | decide) (set_arr (a := 0) (n := 16) (fun τ => wb_arr)) (inb_in h46) dX3_swap_46 ?_
      refine g_iinc (v := a3 + 1) (lv' := [(3, _), (0, _), (1, _), (2, _)]) X dX3_swap_47 hl (k := 3) rfl rfl (by decide) rfl (fun ls hl => ?_)
      refine g_goto (tgt := 30) X dX3_swap_50 (by decide) ?_
      exact ih (a3 + 1) (up2 σ 3 a3.toNatClampNeg r43) hF ls (lv_sub hl [1, 2, 3, 0] rfl)
def L_X3_swap_71 (a1 : Int32) (a2 : Int32) (σ : Mem) : Nat → Int32 → Int32 → Option Int32
  | 0, _, _ => none
  | fu + 1, a3, a4 => (if (15 : Int32) < a4 then some a3 else if inb a4 16 then ((Option.bind (if ¬ (σ 3 a4.toNatClampNeg) = a1 then (if ¬ (σ 3 a4.toNatClampNeg) = a2 then some (σ 3 a4.toNatClampNeg) else some a1) else some a2) (fun v90 : Int32 => Option.bind (F_X3_winnerOf a4 σ) (fun r114 => (Option.bind (if r114 = v90 then some a3 else some (a3 + 1)) (fun v119 : Int32 => L_X3_swap_71 a1 a2 σ fu v119 (a4 + 1))))))) else none)
set_option maxHeartbeats 4000000 in
set_option maxRecDepth 100000 in
theorem w_X3_swap_71 {D : va_G} {ay : Nat → ClassId} {ad : Nat → Nat} {p : Program} {l : Launch} {e : Env} {s : State} {m : MethodId} {args : Array Value} {below : List Frame} {meth : Method} {c : Code} {Q : State → Prop} {a1 : Int32} {a2 : Int32} {σ : Mem} {res : Int32} (X : CX D ay p s m args meth c cX3_swap 7 RX3 (some .int) wsX3_swap) (hI : adOK ad) (K : ∀ ls : Array Slot, lv_has ls 7 [(3, .int res)] → GW D (wC ay ad) (AC ad) p l e ({ frames := 5, cells := 0, slots := 0, locals := 125 } : Room) s m args below meth c Q σ (F0 m 131 ls [])) : ∀ (fu : Nat) (a3 : Int32) (a4 : Int32), L_X3_swap_71 a1 a2 σ fu a3 a4 = some res → ∀ ls : Array Slot, lv_has ls 7 [(0, .ref (ad 0)), (1, .int a1), (2, .int a2), (3, .int a3), (4, .int a4)] → GW D (wC ay ad) (AC ad) p l e ({ frames := 5, cells := 0, slots := 0, locals := 125 } : Room) s m args below meth c Q σ (F0 m 71 ls []) := by
  intro fu
  induction fu with
  | zero =>
    intro a3 a4 hF ls hl
    rw [L_X3_swap_71] at hF
    cases hF
  | succ fu ih =>
    intro a3 a4 hF ls hl
    rw [L_X3_swap_71] at hF
    refine g_iload X dX3_swap_71 (lv_at hl 4 rfl) ?_
    refine g_bipush (v := 15) X dX3_swap_73 (by decide) ?_
    refine g_icmp_gt (tgt := 131) X dX3_swap_75 (by decide) (fun hc75 => ?_) (fun hc75 => ?_)
    · have hF := ite_t hF hc75
      have e71 := some_inj hF
      subst e71
      exact K ls (lv_sub hl [3] rfl)
    · have hF := ite_f hF hc75
      refine g_aload_n X dX3_swap_78 rfl (lv_at hl 0 rfl) ?_
      refine g_get X 0 (lt_obj) in_X3_swap_X3 rfl 6 (by decide) (X.ts (.fieldLink RX3 40 "LeadTimes" "wonBefore" "[I") (by decide +kernel)) rfl rfl dX3_swap_79 ?_
      refine g_iload X dX3_swap_82 (lv_at hl 4 rfl) ?_
      obtain ⟨h84, hF⟩ := itn hF
      refine g_iald X 3 (j := a4.toNatClampNeg) (wb_arr) (by first | rfl | decide) (inb_in h84) dX3_swap_84 ?_
      refine g_istore (lv' := [(5, _), (0, _), (1, _), (2, _), (3, _), (4, _)]) X dX3_swap_85 hl (by decide) rfl (fun ls hl => ?_)
      refine g_iload X dX3_swap_87 (lv_at hl 0 rfl) ?_
      refine g_iload_n X dX3_swap_89 rfl (lv_at hl 2 rfl) ?_
      obtain ⟨v90, hR90, hF⟩ := obind hF
      refine g_cut (nM := 7) [(0, .ref (ad 0)), (1, .int a1), (2, .int a2), (3, .int a3), (4, .int a4)] (σ) 109 [.int v90] (fun ls hl => ?_) (fun J90 => ?_)
      · refine g_istore (lv' := [(6, _), (0, _), (1, _), (2, _), (3, _), (4, _)]) X dX3_swap_109 hl (by decide) rfl (fun ls hl => ?_)
        refine g_aload_n X dX3_swap_111 rfl (lv_at hl 1 rfl) ?_
        refine g_iload X dX3_swap_112 (lv_at hl 5 rfl) ?_
        obtain ⟨r114, hr114, hF⟩ := obind hF
        refine k_Vi X (As := [.int a4]) (rest := []) (c_X3_winnerOf hI hr114) (cwV 1 X.ts gX3_swap_X3_winnerOf rfl rfl rfl (by decide +kernel) ⟨Nat.le_of_ble_eq_true rfl, Nat.le_of_ble_eq_true rfl⟩) ⟨0, 3, _, _, lt_obj, rfl, rfl⟩ rfl hl.1 rfl (Nat.le_of_ble_eq_true rfl) dX3_swap_114 ?_
        refine g_iload X dX3_swap_117 (lv_at hl 0 rfl) ?_
        obtain ⟨v119, hR119, hF⟩ := obind hF
        refine g_cut (nM := 7) [(0, .ref (ad 0)), (1, .int a1), (2, .int a2), (3, .int v119), (4, .int a4)] (σ) 125 [] (fun ls hl => ?_) (fun J119 => ?_)
        · refine g_iinc (v := a4 + 1) (lv' := [(4, _), (0, _), (1, _), (2, _), (3, _)]) X dX3_swap_125 hl (k := 4) rfl rfl (by decide) rfl (fun ls hl => ?_)
          refine g_goto (tgt := 71) X dX3_swap_128 (by decide) ?_
          exact ih v119 (a4 + 1) hF ls (lv_sub hl [1, 2, 3, 4, 0] rfl)
        · refine g_icmp_eq (tgt := 125) X dX3_swap_119 (by decide) (fun hc119 => ?_) (fun hc119 => ?_)
          · have hR119 := ite_t hR119 hc119
            have e119 := some_inj hR119
            subst e119
            exact J119 ls (lv_sub hl [1, 2, 3, 4, 5] rfl)
          · have hR119 := ite_f hR119 hc119
            refine g_iinc (v := a3 + 1) (lv' := [(3, _), (6, _), (0, _), (1, _), (2, _), (4, _)]) X dX3_swap_122 hl (k := 4) rfl rfl (by decide) rfl (fun ls hl => ?_)
            have e119 := some_inj hR119
            subst e119
            exact J119 ls (lv_sub hl [2, 3, 4, 0, 5] rfl)
      · refine g_icmp_ne (tgt := 97) X dX3_swap_90 (by decide) (fun hc90 => ?_) (fun hc90 => ?_)
        · have hR90 := ite_t hR90 hc90
          refine g_iload X dX3_swap_97 (lv_at hl 0 rfl) ?_
          refine g_iload_n X dX3_swap_99 rfl (lv_at hl 3 rfl) ?_
          refine g_icmp_ne (tgt := 107) X dX3_swap_100 (by decide) (fun hc100 => ?_) (fun hc100 => ?_)
          · have hR90 := ite_t hR90 hc100
            refine g_iload X dX3_swap_107 (lv_at hl 0 rfl) ?_
            have e90 := some_inj hR90
            subst e90
            exact J90 ls (lv_sub hl [1, 2, 3, 4, 5] rfl)
          · have hR90 := ite_n hR90 hc100
            refine g_iload_n X dX3_swap_103 rfl (lv_at hl 2 rfl) ?_
            refine g_goto (tgt := 109) X dX3_swap_104 (by decide) ?_
            have e90 := some_inj hR90
            subst e90
            exact J90 ls (lv_sub hl [1, 2, 3, 4, 5] rfl)
        · have hR90 := ite_n hR90 hc90
          refine g_iload_n X dX3_swap_93 rfl (lv_at hl 3 rfl) ?_
          refine g_goto (tgt := 109) X dX3_swap_94 (by decide) ?_
          have e90 := some_inj hR90
          subst e90
          exact J90 ls (lv_sub hl [1, 2, 3, 4, 5] rfl)
def F_X3_swap (a1 : Int32) (a2 : Int32) (σ : Mem) : Option (Nat ⊕ (Int32 × Mem)) := Option.bind (F_X3_isSlot a1) (fun r1 => (if r1 = 0 then some (Sum.inl 2) else Option.bind (F_X3_isSlot a2) (fun r8 => (if ¬ r8 = 0 then inR (Option.bind (F_X3_save σ) (fun r25 => Option.bind (L_X3_swap_30 a1 a2 FU (1 : Int32) r25) (fun v30 : Mem => Option.bind (F_X1_exchange 6 a1 a2 v30) (fun r59 => Option.bind (F_X3_foresee r59) (fun r63 => Option.bind (L_X3_swap_71 a1 a2 r63 FU (0 : Int32) (1 : Int32)) (fun v71 : Int32 => some (v71, r63))))))) else some (Sum.inl 2)))))
set_option maxHeartbeats 4000000 in
set_option maxRecDepth 100000 in
theorem c_X3_swap {l : Launch} {D : va_G} {ay : Nat → ClassId} {ad : Nat → Nat} {a1 : Int32} {a2 : Int32} {σ : Mem} {res : Int32 × Mem} (hI : adOK ad) (hF : F_X3_swap a1 a2 σ = some (Sum.inr res)) : Met l yX3_swap wsX3_swap ({ frames := 5, cells := 0, slots := 0, locals := 125 } : Room) (va_Pc [.ref (ad 0), .int a1, .int a2] (PP D ay (wC ay ad σ))) (va_Qi (pE res) (fun τ => PP D ay (wC ay ad τ)) (AC ad)) 0 0 (AC ad) := by
  refine g_start (wd := wC ay ad) (A := AC ad) (own := RX3) (mL := 7) (rt := (some .int)) (by decide) rfl rfl (Nat.le_of_ble_eq_true rfl) ?_
  intro p e s m below meth c ls X hl
  have hl : lv_has ls 7 [(0, .ref (ad 0)), (1, .int a1), (2, .int a2)] := hl
  rw [F_X3_swap] at hF
  refine g_iload_n X dX3_swap_0 rfl (lv_at hl 1 rfl) ?_
  obtain ⟨r1, hr1, hF⟩ := obind hF
  refine k_Sz X (As := [.int a1]) (rest := []) (c_X3_isSlot hI hr1) (va_cwS 1 X.ts gX3_swap_X3_isSlot rfl rfl rfl (by decide +kernel) ⟨Nat.le_of_ble_eq_true rfl, Nat.le_of_ble_eq_true rfl⟩) rfl hl.1 rfl (Nat.le_of_ble_eq_true rfl) dX3_swap_1 (fun hz1 => ?_)
  refine g_if_eq (tgt := 14) X dX3_swap_4 (by decide) (fun hc4 => ?_) (fun hc4 => ?_)
  · have hF := ite_t hF hc4
    exact (inl_inr hF).elim
  · have hF := ite_f hF hc4
    refine g_iload_n X dX3_swap_7 rfl (lv_at hl 2 rfl) ?_
    obtain ⟨r8, hr8, hF⟩ := obind hF
    refine k_Sz X (As := [.int a2]) (rest := []) (c_X3_isSlot hI hr8) (va_cwS 1 X.ts gX3_swap_X3_isSlot rfl rfl rfl (by decide +kernel) ⟨Nat.le_of_ble_eq_true rfl, Nat.le_of_ble_eq_true rfl⟩) rfl hl.1 rfl (Nat.le_of_ble_eq_true rfl) dX3_swap_8 (fun hz8 => ?_)
    refine g_if_ne (tgt := 24) X dX3_swap_11 (by decide) (fun hc11 => ?_) (fun hc11 => ?_)
    · have hF := ite_t hF hc11
      have hF := inR_some hF
      refine g_aload_n X dX3_swap_24 rfl (lv_at hl 0 rfl) ?_
      obtain ⟨r25, hr25, hF⟩ := obind hF
      refine k_Vv X (As := []) (rest := []) (c_X3_save hI hr25) (cwV 0 X.ts gX3_swap_X3_save rfl rfl rfl (by decide +kernel) ⟨Nat.le_of_ble_eq_true rfl, Nat.le_of_ble_eq_true rfl⟩) ⟨0, 3, _, _, lt_obj, rfl, rfl⟩ rfl hl.1 rfl (Nat.le_of_ble_eq_true rfl) dX3_swap_25 ?_
      refine g_iconst (v := 1) X dX3_swap_28 (by decide) ?_
      refine g_istore_n (lv' := [(3, _), (0, _), (1, _), (2, _)]) X dX3_swap_29 rfl hl (by decide) rfl (fun ls hl => ?_)
      obtain ⟨v30, hL30, hF⟩ := obind hF
      refine w_X3_swap_30 X hI (fun ls hl => ?_) FU (1 : Int32) r25 hL30 ls (lv_sub hl [1, 2, 3, 0] rfl)
      refine g_aload_n X dX3_swap_53 rfl (lv_at hl 0 rfl) ?_
      refine g_get X 0 (lt_obj) in_X3_swap_X3 rfl 0 (by decide) (X.ts (.fieldLink RX3 12 "LeadTimes" "now" "LLeadTimes$State;") (by decide +kernel)) rfl rfl dX3_swap_54 ?_
      refine g_iload_n X dX3_swap_57 rfl (lv_at hl 1 rfl) ?_
      refine g_iload_n X dX3_swap_58 rfl (lv_at hl 2 rfl) ?_
      obtain ⟨r59, hr59, hF⟩ := obind hF
      refine k_Vv X (As := [.int a1, .int a2]) (rest := []) (c_X1_exchange hI isSt6 hr59) (cwV 2 X.ts gX3_swap_X1_exchange rfl rfl rfl (by decide +kernel) ⟨Nat.le_of_ble_eq_true rfl, Nat.le_of_ble_eq_true rfl⟩) ⟨6, 1, _, _, st_obj isSt6, rfl, rfl⟩ rfl hl.1 rfl (Nat.le_of_ble_eq_true rfl) dX3_swap_59 ?_
      refine g_aload_n X dX3_swap_62 rfl (lv_at hl 0 rfl) ?_
      obtain ⟨r63, hr63, hF⟩ := obind hF
      refine k_Vv X (As := []) (rest := []) (c_X3_foresee hI hr63) (cwV 0 X.ts gX3_swap_X3_foresee rfl rfl rfl (by decide +kernel) ⟨Nat.le_of_ble_eq_true rfl, Nat.le_of_ble_eq_true rfl⟩) ⟨0, 3, _, _, lt_obj, rfl, rfl⟩ rfl hl.1 rfl (Nat.le_of_ble_eq_true rfl) dX3_swap_63 ?_
      refine g_iconst (v := 0) X dX3_swap_66 (by decide) ?_
      refine g_istore_n (lv' := [(3, _), (0, _), (1, _), (2, _)]) X dX3_swap_67 rfl hl (by decide) rfl (fun ls hl => ?_)
      refine g_iconst (v := 1) X dX3_swap_68 (by decide) ?_
      refine g_istore (lv' := [(4, _), (3, _), (0, _), (1, _), (2, _)]) X dX3_swap_69 hl (by decide) rfl (fun ls hl => ?_)
      obtain ⟨v71, hL71, hF⟩ := obind hF
      refine w_X3_swap_71 X hI (fun ls hl => ?_) FU (0 : Int32) (1 : Int32) hL71 ls (lv_sub hl [2, 3, 4, 1, 0] rfl)
      refine g_iload_n X dX3_swap_131 rfl (lv_at hl 0 rfl) ?_
      exact g_iret X (pE_mk (some_inj hF)) dX3_swap_132
    · have hF := ite_n hF hc11
      exact (inl_inr hF).elim
theorem in_X3_letPass_X3 : ∀ w ∈ wsX30, w ∈ wsX3_letPass := by decide +kernel
def L_X3_letPass_8 (a1 : Int32) : Nat → Int32 → Int32 → Mem → Option (Int32 × Mem)
  | 0, _, _, _ => none
  | fu + 1, a2, a3, σ => (if (15 : Int32) < a3 then some (a2, σ) else Option.bind (F_X3_courseOf a3 σ) (fun r16 => Option.bind (F_X0_turnsWithin r16 a1 σ) (fun r20 => Option.bind (F_X1_countTurns 6 a3 r20 σ) (fun r32 => L_X3_letPass_8 a1 fu (a2 + r20) (a3 + 1) r32))))
set_option maxHeartbeats 4000000 in
set_option maxRecDepth 100000 in
theorem w_X3_letPass_8 {D : va_G} {ay : Nat → ClassId} {ad : Nat → Nat} {p : Program} {l : Launch} {e : Env} {s : State} {m : MethodId} {args : Array Value} {below : List Frame} {meth : Method} {c : Code} {Q : State → Prop} {a1 : Int32} {res : Int32 × Mem} (X : CX D ay p s m args meth c cX3_letPass 5 RX3 (some .int) wsX3_letPass) (hI : adOK ad) (K : ∀ ls : Array Slot, lv_has ls 5 [(0, .ref (ad 0)), (1, .int a1), (2, .int res.1)] → GW D (wC ay ad) (AC ad) p l e ({ frames := 5, cells := 0, slots := 0, locals := 125 } : Room) s m args below meth c Q res.2 (F0 m 46 ls [])) : ∀ (fu : Nat) (a2 : Int32) (a3 : Int32) (σ : Mem), L_X3_letPass_8 a1 fu a2 a3 σ = some res → ∀ ls : Array Slot, lv_has ls 5 [(0, .ref (ad 0)), (1, .int a1), (2, .int a2), (3, .int a3)] → GW D (wC ay ad) (AC ad) p l e ({ frames := 5, cells := 0, slots := 0, locals := 125 } : Room) s m args below meth c Q σ (F0 m 8 ls []) := by
  intro fu
  induction fu with
  | zero =>
    intro a2 a3 σ hF ls hl
    rw [L_X3_letPass_8] at hF
    cases hF
  | succ fu ih =>
    intro a2 a3 σ hF ls hl
    rw [L_X3_letPass_8] at hF
    refine g_iload_n X dX3_letPass_8 rfl (lv_at hl 3 rfl) ?_
    refine g_bipush (v := 15) X dX3_letPass_9 (by decide) ?_
    refine g_icmp_gt (tgt := 46) X dX3_letPass_11 (by decide) (fun hc11 => ?_) (fun hc11 => ?_)
    · have hF := ite_t hF hc11
      have e8 := some_inj hF
      subst e8
      exact K ls (lv_sub hl [0, 1, 2] rfl)
    · have hF := ite_f hF hc11
      refine g_aload_n X dX3_letPass_14 rfl (lv_at hl 0 rfl) ?_
      refine g_iload_n X dX3_letPass_15 rfl (lv_at hl 3 rfl) ?_
      obtain ⟨r16, hr16, hF⟩ := obind hF
      refine k_Vr X (As := [.int a3]) (rest := []) (c_X3_courseOf hI hr16) (cwV 1 X.ts gX3_letPass_X3_courseOf rfl rfl rfl (by decide +kernel) ⟨Nat.le_of_ble_eq_true rfl, Nat.le_of_ble_eq_true rfl⟩) ⟨0, 3, _, _, lt_obj, rfl, rfl⟩ rfl hl.1 rfl (Nat.le_of_ble_eq_true rfl) dX3_letPass_16 ?_
      refine g_iload_n X dX3_letPass_19 rfl (lv_at hl 1 rfl) ?_
      obtain ⟨r20, hr20, hF⟩ := obind hF
      refine k_Vi X (As := [.int a1]) (rest := []) (c_X0_turnsWithin hI (is_X3_courseOf hr16) hr20) (cwV 1 X.ts gX3_letPass_X0_turnsWithin rfl rfl rfl (by decide +kernel) ⟨Nat.le_of_ble_eq_true rfl, Nat.le_of_ble_eq_true rfl⟩) ⟨r16, 0, _, _, co_obj (is_X3_courseOf hr16), rfl, rfl⟩ rfl hl.1 rfl (Nat.le_of_ble_eq_true rfl) dX3_letPass_20 ?_
      refine g_istore (lv' := [(4, _), (0, _), (1, _), (2, _), (3, _)]) X dX3_letPass_23 hl (by decide) rfl (fun ls hl => ?_)
      refine g_aload_n X dX3_letPass_25 rfl (lv_at hl 1 rfl) ?_
      refine g_get X 0 (lt_obj) in_X3_letPass_X3 rfl 0 (by decide) (X.ts (.fieldLink RX3 12 "LeadTimes" "now" "LLeadTimes$State;") (by decide +kernel)) rfl rfl dX3_letPass_26 ?_
      refine g_iload_n X dX3_letPass_29 rfl (lv_at hl 4 rfl) ?_
      refine g_iload X dX3_letPass_30 (lv_at hl 0 rfl) ?_
      obtain ⟨r32, hr32, hF⟩ := obind hF
      refine k_Vv X (As := [.int a3, .int r20]) (rest := []) (c_X1_countTurns hI isSt6 hr32) (cwV 2 X.ts gX3_letPass_X1_countTurns rfl rfl rfl (by decide +kernel) ⟨Nat.le_of_ble_eq_true rfl, Nat.le_of_ble_eq_true rfl⟩) ⟨6, 1, _, _, st_obj isSt6, rfl, rfl⟩ rfl hl.1 rfl (Nat.le_of_ble_eq_true rfl) dX3_letPass_32 ?_
      refine g_iload_n X dX3_letPass_35 rfl (lv_at hl 3 rfl) ?_
      refine g_iload X dX3_letPass_36 (lv_at hl 0 rfl) ?_
      refine g_iadd X dX3_letPass_38 ?_
      refine g_istore_n (lv' := [(2, _), (4, _), (0, _), (1, _), (3, _)]) X dX3_letPass_39 rfl hl (by decide) rfl (fun ls hl => ?_)
      refine g_iinc (v := a3 + 1) (lv' := [(3, _), (2, _), (4, _), (0, _), (1, _)]) X dX3_letPass_40 hl (k := 4) rfl rfl (by decide) rfl (fun ls hl => ?_)
      refine g_goto (tgt := 8) X dX3_letPass_43 (by decide) ?_
      exact ih (a2 + r20) (a3 + 1) r32 hF ls (lv_sub hl [3, 4, 1, 0] rfl)
def F_X3_letPass (a1 : Int32) (σ : Mem) : Option (Int32 × Mem) := Option.bind (F_X3_save σ) (fun r1 => Option.bind (L_X3_letPass_8 a1 FU (0 : Int32) (1 : Int32) r1) (fun v8 : Int32 × Mem => Option.bind (F_X1_moveOn 6 a1 v8.2) (fun r51 => Option.bind (F_X3_foresee r51) (fun r55 => some (v8.1, r55)))))
set_option maxHeartbeats 4000000 in
set_option maxRecDepth 100000 in
theorem c_X3_letPass {l : Launch} {D : va_G} {ay : Nat → ClassId} {ad : Nat → Nat} {a1 : Int32} {σ : Mem} {res : Int32 × Mem} (hI : adOK ad) (hF : F_X3_letPass a1 σ = some res) : Met l yX3_letPass wsX3_letPass ({ frames := 5, cells := 0, slots := 0, locals := 125 } : Room) (va_Pc [.ref (ad 0), .int a1] (PP D ay (wC ay ad σ))) (va_Qi (pE res) (fun τ => PP D ay (wC ay ad τ)) (AC ad)) 0 0 (AC ad) := by
  refine g_start (wd := wC ay ad) (A := AC ad) (own := RX3) (mL := 5) (rt := (some .int)) (by decide) rfl rfl (Nat.le_of_ble_eq_true rfl) ?_
  intro p e s m below meth c ls X hl
  have hl : lv_has ls 5 [(0, .ref (ad 0)), (1, .int a1)] := hl
  rw [F_X3_letPass] at hF
  refine g_aload_n X dX3_letPass_0 rfl (lv_at hl 0 rfl) ?_
  obtain ⟨r1, hr1, hF⟩ := obind hF
  refine k_Vv X (As := []) (rest := []) (c_X3_save hI hr1) (cwV 0 X.ts gX3_letPass_X3_save rfl rfl rfl (by decide +kernel) ⟨Nat.le_of_ble_eq_true rfl, Nat.le_of_ble_eq_true rfl⟩) ⟨0, 3, _, _, lt_obj, rfl, rfl⟩ rfl hl.1 rfl (Nat.le_of_ble_eq_true rfl) dX3_letPass_1 ?_
  refine g_iconst (v := 0) X dX3_letPass_4 (by decide) ?_
  refine g_istore_n (lv' := [(2, _), (0, _), (1, _)]) X dX3_letPass_5 rfl hl (by decide) rfl (fun ls hl => ?_)
  refine g_iconst (v := 1) X dX3_letPass_6 (by decide) ?_
  refine g_istore_n (lv' := [(3, _), (2, _), (0, _), (1, _)]) X dX3_letPass_7 rfl hl (by decide) rfl (fun ls hl => ?_)
  obtain ⟨v8, hL8, hF⟩ := obind hF
  refine w_X3_letPass_8 X hI (fun ls hl => ?_) FU (0 : Int32) (1 : Int32) r1 hL8 ls (lv_sub hl [2, 3, 1, 0] rfl)
  refine g_aload_n X dX3_letPass_46 rfl (lv_at hl 0 rfl) ?_
  refine g_get X 0 (lt_obj) in_X3_letPass_X3 rfl 0 (by decide) (X.ts (.fieldLink RX3 12 "LeadTimes" "now" "LLeadTimes$State;") (by decide +kernel)) rfl rfl dX3_letPass_47 ?_
  refine g_iload_n X dX3_letPass_50 rfl (lv_at hl 1 rfl) ?_
  obtain ⟨r51, hr51, hF⟩ := obind hF
  refine k_Vv X (As := [.int a1]) (rest := []) (c_X1_moveOn hI isSt6 hr51) (cwV 1 X.ts gX3_letPass_X1_moveOn rfl rfl rfl (by decide +kernel) ⟨Nat.le_of_ble_eq_true rfl, Nat.le_of_ble_eq_true rfl⟩) ⟨6, 1, _, _, st_obj isSt6, rfl, rfl⟩ rfl hl.1 rfl (Nat.le_of_ble_eq_true rfl) dX3_letPass_51 ?_
  refine g_aload_n X dX3_letPass_54 rfl (lv_at hl 0 rfl) ?_
  obtain ⟨r55, hr55, hF⟩ := obind hF
  refine k_Vv X (As := []) (rest := []) (c_X3_foresee hI hr55) (cwV 0 X.ts gX3_letPass_X3_foresee rfl rfl rfl (by decide +kernel) ⟨Nat.le_of_ble_eq_true rfl, Nat.le_of_ble_eq_true rfl⟩) ⟨0, 3, _, _, lt_obj, rfl, rfl⟩ rfl hl.1 rfl (Nat.le_of_ble_eq_true rfl) dX3_letPass_55 ?_
  refine g_iload_n X dX3_letPass_58 rfl (lv_at hl 2 rfl) ?_
  exact g_iret X (pE_mk (some_inj hF)) dX3_letPass_59
theorem in_X3_pass_X1 : ∀ w ∈ wsX10, w ∈ wsX3_pass := by decide +kernel
theorem in_X3_pass_X3 : ∀ w ∈ wsX30, w ∈ wsX3_pass := by decide +kernel
def F_X3_pass (a1 : Int32) (σ : Mem) : Option (Nat ⊕ (Int32 × Mem)) := Option.bind (F_X3_isWithin a1 (1 : Int32) (99 : Int32)) (fun r4 => (if ¬ r4 = 0 then (if ((σ 6 5) + a1) ≤ (9999 : Int32) then inR (Option.bind (F_X3_letPass a1 σ) (fun r47 => some (r47.1, r47.2))) else some (Sum.inl 1)) else some (Sum.inl 0)))
set_option maxHeartbeats 4000000 in
set_option maxRecDepth 100000 in
theorem c_X3_pass {l : Launch} {D : va_G} {ay : Nat → ClassId} {ad : Nat → Nat} {a1 : Int32} {σ : Mem} {res : Int32 × Mem} (hI : adOK ad) (hF : F_X3_pass a1 σ = some (Sum.inr res)) : Met l yX3_pass wsX3_pass ({ frames := 6, cells := 0, slots := 0, locals := 149 } : Room) (va_Pc [.ref (ad 0), .int a1] (PP D ay (wC ay ad σ))) (va_Qi (pE res) (fun τ => PP D ay (wC ay ad τ)) (AC ad)) 0 0 (AC ad) := by
  refine g_start (wd := wC ay ad) (A := AC ad) (own := RX3) (mL := 2) (rt := (some .int)) (by decide) rfl rfl (Nat.le_of_ble_eq_true rfl) ?_
  intro p e s m below meth c ls X hl
  have hl : lv_has ls 2 [(0, .ref (ad 0)), (1, .int a1)] := hl
  rw [F_X3_pass] at hF
  refine g_iload_n X dX3_pass_0 rfl (lv_at hl 1 rfl) ?_
  refine g_iconst (v := 1) X dX3_pass_1 (by decide) ?_
  refine g_bipush (v := 99) X dX3_pass_2 (by decide) ?_
  obtain ⟨r4, hr4, hF⟩ := obind hF
  refine k_Sz X (As := [.int a1, .int (1 : Int32), .int (99 : Int32)]) (rest := []) (c_X3_isWithin hI hr4) (va_cwS 3 X.ts gX3_pass_X3_isWithin rfl rfl rfl (by decide +kernel) ⟨Nat.le_of_ble_eq_true rfl, Nat.le_of_ble_eq_true rfl⟩) rfl hl.1 rfl (Nat.le_of_ble_eq_true rfl) dX3_pass_4 (fun hz4 => ?_)
  refine g_if_ne (tgt := 20) X dX3_pass_7 (by decide) (fun hc7 => ?_) (fun hc7 => ?_)
  · have hF := ite_t hF hc7
    refine g_aload_n X dX3_pass_20 rfl (lv_at hl 0 rfl) ?_
    refine g_get X 0 (lt_obj) in_X3_pass_X3 rfl 0 (by decide) (X.ts (.fieldLink RX3 12 "LeadTimes" "now" "LLeadTimes$State;") (by decide +kernel)) rfl rfl dX3_pass_21 ?_
    refine g_get X 6 (st_obj isSt6) in_X3_pass_X1 rfl 5 (by decide) (X.ts (.fieldLink RX3 129 "LeadTimes$State" "time" "I") (by decide +kernel)) rfl rfl dX3_pass_24 ?_
    refine g_iload_n X dX3_pass_27 rfl (lv_at hl 1 rfl) ?_
    refine g_iadd X dX3_pass_28 ?_
    refine g_sipush (v := 9999) X dX3_pass_29 (by decide) ?_
    refine g_icmp_le (tgt := 45) X dX3_pass_32 (by decide) (fun hc32 => ?_) (fun hc32 => ?_)
    · have hF := ite_t hF hc32
      have hF := inR_some hF
      refine g_aload_n X dX3_pass_45 rfl (lv_at hl 0 rfl) ?_
      refine g_iload_n X dX3_pass_46 rfl (lv_at hl 1 rfl) ?_
      obtain ⟨r47, hr47, hF⟩ := obind hF
      refine k_Vie X (As := [.int a1]) (rest := []) (c_X3_letPass hI hr47) (cwV 1 X.ts gX3_pass_X3_letPass rfl rfl rfl (by decide +kernel) ⟨Nat.le_of_ble_eq_true rfl, Nat.le_of_ble_eq_true rfl⟩) ⟨0, 3, _, _, lt_obj, rfl, rfl⟩ rfl hl.1 rfl (Nat.le_of_ble_eq_true rfl) dX3_pass_47 ?_
      exact g_iret X (pE_mk (some_inj hF)) dX3_pass_50
    · have hF := ite_f hF hc32
      exact (inl_inr hF).elim
  · have hF := ite_n hF hc7
    exact (inl_inr hF).elim
theorem in_X3_setting_X1 : ∀ w ∈ wsX10, w ∈ wsX3_setting := by decide +kernel
theorem in_X3_setting_X3 : ∀ w ∈ wsX30, w ∈ wsX3_setting := by decide +kernel
def F_X3_setting (a1 : Int32) (σ : Mem) : Option (Nat ⊕ Int32) := (if a1 = 0 then inR ((if ¬ a1 = 0 then some (σ 6 7) else some (σ 6 6))) else (if a1 = (1 : Int32) then inR ((if ¬ a1 = 0 then some (σ 6 7) else some (σ 6 6))) else some (Sum.inl 2)))
set_option maxHeartbeats 4000000 in
set_option maxRecDepth 100000 in
theorem c_X3_setting {l : Launch} {D : va_G} {ay : Nat → ClassId} {ad : Nat → Nat} {a1 : Int32} {σ : Mem} {res : Int32} (hI : adOK ad) (hF : F_X3_setting a1 σ = some (Sum.inr res)) : Met l yX3_setting wsX3_setting ({ frames := 0, cells := 0, slots := 0, locals := 0 } : Room) (va_Pc [.ref (ad 0), .int a1] (PP D ay (wC ay ad σ))) (va_Qi (pP res σ) (fun τ => PP D ay (wC ay ad τ)) (AC ad)) 0 0 (AC ad) := by
  refine g_start (wd := wC ay ad) (A := AC ad) (own := RX3) (mL := 2) (rt := (some .int)) (by decide) rfl rfl (Nat.le_of_ble_eq_true rfl) ?_
  intro p e s m below meth c ls X hl
  have hl : lv_has ls 2 [(0, .ref (ad 0)), (1, .int a1)] := hl
  rw [F_X3_setting] at hF
  refine g_iload_n X dX3_setting_0 rfl (lv_at hl 1 rfl) ?_
  refine g_if_eq (tgt := 19) X dX3_setting_1 (by decide) (fun hc1 => ?_) (fun hc1 => ?_)
  · have hF := ite_t hF hc1
    have hF := inR_some hF
    refine g_iload_n X dX3_setting_19 rfl (lv_at hl 1 rfl) ?_
    refine g_if_ne (tgt := 33) X dX3_setting_20 (by decide) (fun hc20 => ?_) (fun hc20 => ?_)
    · have hF := ite_t hF hc20
      refine g_aload_n X dX3_setting_33 rfl (lv_at hl 0 rfl) ?_
      refine g_get X 0 (lt_obj) in_X3_setting_X3 rfl 0 (by decide) (X.ts (.fieldLink RX3 12 "LeadTimes" "now" "LLeadTimes$State;") (by decide +kernel)) rfl rfl dX3_setting_34 ?_
      refine g_get X 6 (st_obj isSt6) in_X3_setting_X1 rfl 7 (by decide) (X.ts (.fieldLink RX3 159 "LeadTimes$State" "horizon" "I") (by decide +kernel)) rfl rfl dX3_setting_37 ?_
      exact g_iret X (pP_mk (some_inj hF)) dX3_setting_40
    · have hF := ite_n hF hc20
      refine g_aload_n X dX3_setting_23 rfl (lv_at hl 0 rfl) ?_
      refine g_get X 0 (lt_obj) in_X3_setting_X3 rfl 0 (by decide) (X.ts (.fieldLink RX3 12 "LeadTimes" "now" "LLeadTimes$State;") (by decide +kernel)) rfl rfl dX3_setting_24 ?_
      refine g_get X 6 (st_obj isSt6) in_X3_setting_X1 rfl 6 (by decide) (X.ts (.fieldLink RX3 156 "LeadTimes$State" "higherFirst" "I") (by decide +kernel)) rfl rfl dX3_setting_27 ?_
      refine g_goto (tgt := 40) X dX3_setting_30 (by decide) ?_
      exact g_iret X (pP_mk (some_inj hF)) dX3_setting_40
  · have hF := ite_f hF hc1
    refine g_iload_n X dX3_setting_4 rfl (lv_at hl 1 rfl) ?_
    refine g_iconst (v := 1) X dX3_setting_5 (by decide) ?_
    refine g_icmp_eq (tgt := 19) X dX3_setting_6 (by decide) (fun hc6 => ?_) (fun hc6 => ?_)
    · have hF := ite_t hF hc6
      have hF := inR_some hF
      refine g_iload_n X dX3_setting_19 rfl (lv_at hl 1 rfl) ?_
      refine g_if_ne (tgt := 33) X dX3_setting_20 (by decide) (fun hc20 => ?_) (fun hc20 => ?_)
      · have hF := ite_t hF hc20
        refine g_aload_n X dX3_setting_33 rfl (lv_at hl 0 rfl) ?_
        refine g_get X 0 (lt_obj) in_X3_setting_X3 rfl 0 (by decide) (X.ts (.fieldLink RX3 12 "LeadTimes" "now" "LLeadTimes$State;") (by decide +kernel)) rfl rfl dX3_setting_34 ?_
        refine g_get X 6 (st_obj isSt6) in_X3_setting_X1 rfl 7 (by decide) (X.ts (.fieldLink RX3 159 "LeadTimes$State" "horizon" "I") (by decide +kernel)) rfl rfl dX3_setting_37 ?_
        exact g_iret X (pP_mk (some_inj hF)) dX3_setting_40
      · have hF := ite_n hF hc20
        refine g_aload_n X dX3_setting_23 rfl (lv_at hl 0 rfl) ?_
        refine g_get X 0 (lt_obj) in_X3_setting_X3 rfl 0 (by decide) (X.ts (.fieldLink RX3 12 "LeadTimes" "now" "LLeadTimes$State;") (by decide +kernel)) rfl rfl dX3_setting_24 ?_
        refine g_get X 6 (st_obj isSt6) in_X3_setting_X1 rfl 6 (by decide) (X.ts (.fieldLink RX3 156 "LeadTimes$State" "higherFirst" "I") (by decide +kernel)) rfl rfl dX3_setting_27 ?_
        refine g_goto (tgt := 40) X dX3_setting_30 (by decide) ?_
        exact g_iret X (pP_mk (some_inj hF)) dX3_setting_40
    · have hF := ite_f hF hc6
      exact (inl_inr hF).elim
theorem in_X3_set_X1 : ∀ w ∈ wsX10, w ∈ wsX3_set := by decide +kernel
theorem in_X3_set_X3 : ∀ w ∈ wsX30, w ∈ wsX3_set := by decide +kernel
def F_X3_set (a1 : Int32) (a2 : Int32) (σ : Mem) : Option (Nat ⊕ (Int32 × Mem)) := (if a1 = 0 then (Option.bind (if ¬ a1 = 0 then Option.bind (F_X3_isWithin a2 (1 : Int32) (999 : Int32)) (fun r37 => some r37) else Option.bind (F_X3_isWithin a2 (0 : Int32) (1 : Int32)) (fun r26 => some r26)) (fun v20 : Int32 => (if ¬ v20 = 0 then inR (Option.bind (F_X3_save σ) (fun r56 => oR (F_X3_setting a1 r56) (fun r61 => (Option.bind (if ¬ a1 = 0 then some (up2 r56 6 7 a2) else some (up2 r56 6 6 a2)) (fun v67 : Mem => Option.bind (F_X3_foresee v67) (fun r90 => some (r61, r90))))))) else some (Sum.inl 0)))) else (if a1 = (1 : Int32) then (Option.bind (if ¬ a1 = 0 then Option.bind (F_X3_isWithin a2 (1 : Int32) (999 : Int32)) (fun r37 => some r37) else Option.bind (F_X3_isWithin a2 (0 : Int32) (1 : Int32)) (fun r26 => some r26)) (fun v20 : Int32 => (if ¬ v20 = 0 then inR (Option.bind (F_X3_save σ) (fun r56 => oR (F_X3_setting a1 r56) (fun r61 => (Option.bind (if ¬ a1 = 0 then some (up2 r56 6 7 a2) else some (up2 r56 6 6 a2)) (fun v67 : Mem => Option.bind (F_X3_foresee v67) (fun r90 => some (r61, r90))))))) else some (Sum.inl 0)))) else some (Sum.inl 2)))
set_option maxHeartbeats 4000000 in
set_option maxRecDepth 100000 in
theorem c_X3_set {l : Launch} {D : va_G} {ay : Nat → ClassId} {ad : Nat → Nat} {a1 : Int32} {a2 : Int32} {σ : Mem} {res : Int32 × Mem} (hI : adOK ad) (hF : F_X3_set a1 a2 σ = some (Sum.inr res)) : Met l yX3_set wsX3_set ({ frames := 5, cells := 0, slots := 0, locals := 125 } : Room) (va_Pc [.ref (ad 0), .int a1, .int a2] (PP D ay (wC ay ad σ))) (va_Qi (pE res) (fun τ => PP D ay (wC ay ad τ)) (AC ad)) 0 0 (AC ad) := by
  refine g_start (wd := wC ay ad) (A := AC ad) (own := RX3) (mL := 5) (rt := (some .int)) (by decide) rfl rfl (Nat.le_of_ble_eq_true rfl) ?_
  intro p e s m below meth c ls X hl
  have hl : lv_has ls 5 [(0, .ref (ad 0)), (1, .int a1), (2, .int a2)] := hl
  rw [F_X3_set] at hF
  refine g_iload_n X dX3_set_0 rfl (lv_at hl 1 rfl) ?_
  refine g_if_eq (tgt := 19) X dX3_set_1 (by decide) (fun hc1 => ?_) (fun hc1 => ?_)
  · have hF := ite_t hF hc1
    refine g_iload_n X dX3_set_19 rfl (lv_at hl 1 rfl) ?_
    obtain ⟨v20, hR20, hF⟩ := obind hF
    refine g_cut (nM := 5) [(0, .ref (ad 0)), (1, .int a1), (2, .int a2)] (σ) 40 [.int v20] (fun ls hl => ?_) (fun J20 => ?_)
    · refine g_istore_n (lv' := [(3, _), (0, _), (1, _), (2, _)]) X dX3_set_40 rfl hl (by decide) rfl (fun ls hl => ?_)
      refine g_iload_n X dX3_set_41 rfl (lv_at hl 0 rfl) ?_
      refine g_if_ne (tgt := 55) X dX3_set_42 (by decide) (fun hc42 => ?_) (fun hc42 => ?_)
      · have hF := ite_t hF hc42
        have hF := inR_some hF
        refine g_aload_n X dX3_set_55 rfl (lv_at hl 1 rfl) ?_
        obtain ⟨r56, hr56, hF⟩ := obind hF
        refine k_Vv X (As := []) (rest := []) (c_X3_save hI hr56) (cwV 0 X.ts gX3_set_X3_save rfl rfl rfl (by decide +kernel) ⟨Nat.le_of_ble_eq_true rfl, Nat.le_of_ble_eq_true rfl⟩) ⟨0, 3, _, _, lt_obj, rfl, rfl⟩ rfl hl.1 rfl (Nat.le_of_ble_eq_true rfl) dX3_set_56 ?_
        refine g_aload_n X dX3_set_59 rfl (lv_at hl 1 rfl) ?_
        refine g_iload_n X dX3_set_60 rfl (lv_at hl 2 rfl) ?_
        obtain ⟨r61, hr61, hF⟩ := oR_some hF
        refine k_Vi X (As := [.int a1]) (rest := []) (c_X3_setting hI hr61) (cwV 1 X.ts gX3_set_X3_setting rfl rfl rfl (by decide +kernel) ⟨Nat.le_of_ble_eq_true rfl, Nat.le_of_ble_eq_true rfl⟩) ⟨0, 3, _, _, lt_obj, rfl, rfl⟩ rfl hl.1 rfl (Nat.le_of_ble_eq_true rfl) dX3_set_61 ?_
        refine g_istore (lv' := [(4, _), (3, _), (0, _), (1, _), (2, _)]) X dX3_set_64 hl (by decide) rfl (fun ls hl => ?_)
        refine g_iload_n X dX3_set_66 rfl (lv_at hl 3 rfl) ?_
        obtain ⟨v67, hR67, hF⟩ := obind hF
        refine g_cut (nM := 5) [(0, .ref (ad 0)), (4, .int r61)] (v67) 89 [] (fun ls hl => ?_) (fun J67 => ?_)
        · refine g_aload_n X dX3_set_89 rfl (lv_at hl 0 rfl) ?_
          obtain ⟨r90, hr90, hF⟩ := obind hF
          refine k_Vv X (As := []) (rest := []) (c_X3_foresee hI hr90) (cwV 0 X.ts gX3_set_X3_foresee rfl rfl rfl (by decide +kernel) ⟨Nat.le_of_ble_eq_true rfl, Nat.le_of_ble_eq_true rfl⟩) ⟨0, 3, _, _, lt_obj, rfl, rfl⟩ rfl hl.1 rfl (Nat.le_of_ble_eq_true rfl) dX3_set_90 ?_
          refine g_iload X dX3_set_93 (lv_at hl 1 rfl) ?_
          exact g_iret X (pE_mk (some_inj hF)) dX3_set_95
        · refine g_if_ne (tgt := 81) X dX3_set_67 (by decide) (fun hc67 => ?_) (fun hc67 => ?_)
          · have hR67 := ite_t hR67 hc67
            refine g_aload_n X dX3_set_81 rfl (lv_at hl 2 rfl) ?_
            refine g_get X 0 (lt_obj) in_X3_set_X3 rfl 0 (by decide) (X.ts (.fieldLink RX3 12 "LeadTimes" "now" "LLeadTimes$State;") (by decide +kernel)) rfl rfl dX3_set_82 ?_
            refine g_iload_n X dX3_set_85 rfl (lv_at hl 4 rfl) ?_
            refine g_put X (wC_D hI) (up2 r56 6 7 a2) 6 (st_obj isSt6) 7 (set_st isSt6 (by decide) (by decide)) tyX1 tyX1_ok nmX1 in_X3_set_X1 rfl (by decide) (X.ts (.fieldLink RX3 159 "LeadTimes$State" "horizon" "I") (by decide +kernel)) rfl rfl rfl rfl rfl (Nat.le_of_ble_eq_true rfl) dX3_set_86 ?_
            have e67 := some_inj hR67
            subst e67
            exact J67 ls (lv_sub hl [2, 0] rfl)
          · have hR67 := ite_n hR67 hc67
            refine g_aload_n X dX3_set_70 rfl (lv_at hl 2 rfl) ?_
            refine g_get X 0 (lt_obj) in_X3_set_X3 rfl 0 (by decide) (X.ts (.fieldLink RX3 12 "LeadTimes" "now" "LLeadTimes$State;") (by decide +kernel)) rfl rfl dX3_set_71 ?_
            refine g_iload_n X dX3_set_74 rfl (lv_at hl 4 rfl) ?_
            refine g_put X (wC_D hI) (up2 r56 6 6 a2) 6 (st_obj isSt6) 6 (set_st isSt6 (by decide) (by decide)) tyX1 tyX1_ok nmX1 in_X3_set_X1 rfl (by decide) (X.ts (.fieldLink RX3 156 "LeadTimes$State" "higherFirst" "I") (by decide +kernel)) rfl rfl rfl rfl rfl (Nat.le_of_ble_eq_true rfl) dX3_set_75 ?_
            refine g_goto (tgt := 89) X dX3_set_78 (by decide) ?_
            have e67 := some_inj hR67
            subst e67
            exact J67 ls (lv_sub hl [2, 0] rfl)
      · have hF := ite_n hF hc42
        exact (inl_inr hF).elim
    · refine g_if_ne (tgt := 32) X dX3_set_20 (by decide) (fun hc20 => ?_) (fun hc20 => ?_)
      · have hR20 := ite_t hR20 hc20
        refine g_iload_n X dX3_set_32 rfl (lv_at hl 2 rfl) ?_
        refine g_iconst (v := 1) X dX3_set_33 (by decide) ?_
        refine g_sipush (v := 999) X dX3_set_34 (by decide) ?_
        obtain ⟨r37, hr37, hR20⟩ := obind hR20
        refine k_Sz X (As := [.int a2, .int (1 : Int32), .int (999 : Int32)]) (rest := []) (c_X3_isWithin hI hr37) (va_cwS 3 X.ts gX3_set_X3_isWithin rfl rfl rfl (by decide +kernel) ⟨Nat.le_of_ble_eq_true rfl, Nat.le_of_ble_eq_true rfl⟩) rfl hl.1 rfl (Nat.le_of_ble_eq_true rfl) dX3_set_37 (fun hz37 => ?_)
        have e20 := some_inj hR20
        subst e20
        exact J20 ls (lv_sub hl [0, 1, 2] rfl)
      · have hR20 := ite_n hR20 hc20
        refine g_iload_n X dX3_set_23 rfl (lv_at hl 2 rfl) ?_
        refine g_iconst (v := 0) X dX3_set_24 (by decide) ?_
        refine g_iconst (v := 1) X dX3_set_25 (by decide) ?_
        obtain ⟨r26, hr26, hR20⟩ := obind hR20
        refine k_Sz X (As := [.int a2, .int (0 : Int32), .int (1 : Int32)]) (rest := []) (c_X3_isWithin hI hr26) (va_cwS 3 X.ts gX3_set_X3_isWithin rfl rfl rfl (by decide +kernel) ⟨Nat.le_of_ble_eq_true rfl, Nat.le_of_ble_eq_true rfl⟩) rfl hl.1 rfl (Nat.le_of_ble_eq_true rfl) dX3_set_26 (fun hz26 => ?_)
        refine g_goto (tgt := 40) X dX3_set_29 (by decide) ?_
        have e20 := some_inj hR20
        subst e20
        exact J20 ls (lv_sub hl [0, 1, 2] rfl)
  · have hF := ite_f hF hc1
    refine g_iload_n X dX3_set_4 rfl (lv_at hl 1 rfl) ?_
    refine g_iconst (v := 1) X dX3_set_5 (by decide) ?_
    refine g_icmp_eq (tgt := 19) X dX3_set_6 (by decide) (fun hc6 => ?_) (fun hc6 => ?_)
    · have hF := ite_t hF hc6
      refine g_iload_n X dX3_set_19 rfl (lv_at hl 1 rfl) ?_
      obtain ⟨v20, hR20, hF⟩ := obind hF
      refine g_cut (nM := 5) [(0, .ref (ad 0)), (1, .int a1), (2, .int a2)] (σ) 40 [.int v20] (fun ls hl => ?_) (fun J20 => ?_)
      · refine g_istore_n (lv' := [(3, _), (0, _), (1, _), (2, _)]) X dX3_set_40 rfl hl (by decide) rfl (fun ls hl => ?_)
        refine g_iload_n X dX3_set_41 rfl (lv_at hl 0 rfl) ?_
        refine g_if_ne (tgt := 55) X dX3_set_42 (by decide) (fun hc42 => ?_) (fun hc42 => ?_)
        · have hF := ite_t hF hc42
          have hF := inR_some hF
          refine g_aload_n X dX3_set_55 rfl (lv_at hl 1 rfl) ?_
          obtain ⟨r56, hr56, hF⟩ := obind hF
          refine k_Vv X (As := []) (rest := []) (c_X3_save hI hr56) (cwV 0 X.ts gX3_set_X3_save rfl rfl rfl (by decide +kernel) ⟨Nat.le_of_ble_eq_true rfl, Nat.le_of_ble_eq_true rfl⟩) ⟨0, 3, _, _, lt_obj, rfl, rfl⟩ rfl hl.1 rfl (Nat.le_of_ble_eq_true rfl) dX3_set_56 ?_
          refine g_aload_n X dX3_set_59 rfl (lv_at hl 1 rfl) ?_
          refine g_iload_n X dX3_set_60 rfl (lv_at hl 2 rfl) ?_
          obtain ⟨r61, hr61, hF⟩ := oR_some hF
          refine k_Vi X (As := [.int a1]) (rest := []) (c_X3_setting hI hr61) (cwV 1 X.ts gX3_set_X3_setting rfl rfl rfl (by decide +kernel) ⟨Nat.le_of_ble_eq_true rfl, Nat.le_of_ble_eq_true rfl⟩) ⟨0, 3, _, _, lt_obj, rfl, rfl⟩ rfl hl.1 rfl (Nat.le_of_ble_eq_true rfl) dX3_set_61 ?_
          refine g_istore (lv' := [(4, _), (3, _), (0, _), (1, _), (2, _)]) X dX3_set_64 hl (by decide) rfl (fun ls hl => ?_)
          refine g_iload_n X dX3_set_66 rfl (lv_at hl 3 rfl) ?_
          obtain ⟨v67, hR67, hF⟩ := obind hF
          refine g_cut (nM := 5) [(0, .ref (ad 0)), (4, .int r61)] (v67) 89 [] (fun ls hl => ?_) (fun J67 => ?_)
          · refine g_aload_n X dX3_set_89 rfl (lv_at hl 0 rfl) ?_
            obtain ⟨r90, hr90, hF⟩ := obind hF
            refine k_Vv X (As := []) (rest := []) (c_X3_foresee hI hr90) (cwV 0 X.ts gX3_set_X3_foresee rfl rfl rfl (by decide +kernel) ⟨Nat.le_of_ble_eq_true rfl, Nat.le_of_ble_eq_true rfl⟩) ⟨0, 3, _, _, lt_obj, rfl, rfl⟩ rfl hl.1 rfl (Nat.le_of_ble_eq_true rfl) dX3_set_90 ?_
            refine g_iload X dX3_set_93 (lv_at hl 1 rfl) ?_
            exact g_iret X (pE_mk (some_inj hF)) dX3_set_95
          · refine g_if_ne (tgt := 81) X dX3_set_67 (by decide) (fun hc67 => ?_) (fun hc67 => ?_)
            · have hR67 := ite_t hR67 hc67
              refine g_aload_n X dX3_set_81 rfl (lv_at hl 2 rfl) ?_
              refine g_get X 0 (lt_obj) in_X3_set_X3 rfl 0 (by decide) (X.ts (.fieldLink RX3 12 "LeadTimes" "now" "LLeadTimes$State;") (by decide +kernel)) rfl rfl dX3_set_82 ?_
              refine g_iload_n X dX3_set_85 rfl (lv_at hl 4 rfl) ?_
              refine g_put X (wC_D hI) (up2 r56 6 7 a2) 6 (st_obj isSt6) 7 (set_st isSt6 (by decide) (by decide)) tyX1 tyX1_ok nmX1 in_X3_set_X1 rfl (by decide) (X.ts (.fieldLink RX3 159 "LeadTimes$State" "horizon" "I") (by decide +kernel)) rfl rfl rfl rfl rfl (Nat.le_of_ble_eq_true rfl) dX3_set_86 ?_
              have e67 := some_inj hR67
              subst e67
              exact J67 ls (lv_sub hl [2, 0] rfl)
            · have hR67 := ite_n hR67 hc67
              refine g_aload_n X dX3_set_70 rfl (lv_at hl 2 rfl) ?_
              refine g_get X 0 (lt_obj) in_X3_set_X3 rfl 0 (by decide) (X.ts (.fieldLink RX3 12 "LeadTimes" "now" "LLeadTimes$State;") (by decide +kernel)) rfl rfl dX3_set_71 ?_
              refine g_iload_n X dX3_set_74 rfl (lv_at hl 4 rfl) ?_
              refine g_put X (wC_D hI) (up2 r56 6 6 a2) 6 (st_obj isSt6) 6 (set_st isSt6 (by decide) (by decide)) tyX1 tyX1_ok nmX1 in_X3_set_X1 rfl (by decide) (X.ts (.fieldLink RX3 156 "LeadTimes$State" "higherFirst" "I") (by decide +kernel)) rfl rfl rfl rfl rfl (Nat.le_of_ble_eq_true rfl) dX3_set_75 ?_
              refine g_goto (tgt := 89) X dX3_set_78 (by decide) ?_
              have e67 := some_inj hR67
              subst e67
              exact J67 ls (lv_sub hl [2, 0] rfl)
        · have hF := ite_n hF hc42
          exact (inl_inr hF).elim
      · refine g_if_ne (tgt := 32) X dX3_set_20 (by decide) (fun hc20 => ?_) (fun hc20 => ?_)
        · have hR20 := ite_t hR20 hc20
          refine g_iload_n X dX3_set_32 rfl (lv_at hl 2 rfl) ?_
          refine g_iconst (v := 1) X dX3_set_33 (by decide) ?_
          refine g_sipush (v := 999) X dX3_set_34 (by decide) ?_
          obtain ⟨r37, hr37, hR20⟩ := obind hR20
          refine k_Sz X (As := [.int a2, .int (1 : Int32), .int (999 : Int32)]) (rest := []) (c_X3_isWithin hI hr37) (va_cwS 3 X.ts gX3_set_X3_isWithin rfl rfl rfl (by decide +kernel) ⟨Nat.le_of_ble_eq_true rfl, Nat.le_of_ble_eq_true rfl⟩) rfl hl.1 rfl (Nat.le_of_ble_eq_true rfl) dX3_set_37 (fun hz37 => ?_)
          have e20 := some_inj hR20
          subst e20
          exact J20 ls (lv_sub hl [0, 1, 2] rfl)
        · have hR20 := ite_n hR20 hc20
          refine g_iload_n X dX3_set_23 rfl (lv_at hl 2 rfl) ?_
          refine g_iconst (v := 0) X dX3_set_24 (by decide) ?_
          refine g_iconst (v := 1) X dX3_set_25 (by decide) ?_
          obtain ⟨r26, hr26, hR20⟩ := obind hR20
          refine k_Sz X (As := [.int a2, .int (0 : Int32), .int (1 : Int32)]) (rest := []) (c_X3_isWithin hI hr26) (va_cwS 3 X.ts gX3_set_X3_isWithin rfl rfl rfl (by decide +kernel) ⟨Nat.le_of_ble_eq_true rfl, Nat.le_of_ble_eq_true rfl⟩) rfl hl.1 rfl (Nat.le_of_ble_eq_true rfl) dX3_set_26 (fun hz26 => ?_)
          refine g_goto (tgt := 40) X dX3_set_29 (by decide) ?_
          have e20 := some_inj hR20
          subst e20
          exact J20 ls (lv_sub hl [0, 1, 2] rfl)
    · have hF := ite_f hF hc6
      exact (inl_inr hF).elim
def L_X3_winsOf_4 (a1 : Int32) (σ : Mem) : Nat → Int32 → Int32 → Option Int32
  | 0, _, _ => none
  | fu + 1, a2, a3 => (if (15 : Int32) < a3 then some a2 else Option.bind (F_X3_winnerOf a3 σ) (fun r12 => (Option.bind (if ¬ r12 = a1 then some a2 else some (a2 + 1)) (fun v16 : Int32 => L_X3_winsOf_4 a1 σ fu v16 (a3 + 1)))))
set_option maxHeartbeats 4000000 in
set_option maxRecDepth 100000 in
theorem w_X3_winsOf_4 {D : va_G} {ay : Nat → ClassId} {ad : Nat → Nat} {p : Program} {l : Launch} {e : Env} {s : State} {m : MethodId} {args : Array Value} {below : List Frame} {meth : Method} {c : Code} {Q : State → Prop} {a1 : Int32} {σ : Mem} {res : Int32} (X : CX D ay p s m args meth c cX3_winsOf 4 RX3 (some .int) wsX3_winsOf) (hI : adOK ad) (K : ∀ ls : Array Slot, lv_has ls 4 [(2, .int res)] → GW D (wC ay ad) (AC ad) p l e ({ frames := 3, cells := 0, slots := 0, locals := 63 } : Room) s m args below meth c Q σ (F0 m 28 ls [])) : ∀ (fu : Nat) (a2 : Int32) (a3 : Int32), L_X3_winsOf_4 a1 σ fu a2 a3 = some res → ∀ ls : Array Slot, lv_has ls 4 [(0, .ref (ad 0)), (1, .int a1), (2, .int a2), (3, .int a3)] → GW D (wC ay ad) (AC ad) p l e ({ frames := 3, cells := 0, slots := 0, locals := 63 } : Room) s m args below meth c Q σ (F0 m 4 ls []) := by
  intro fu
  induction fu with
  | zero =>
    intro a2 a3 hF ls hl
    rw [L_X3_winsOf_4] at hF
    cases hF
  | succ fu ih =>
    intro a2 a3 hF ls hl
    rw [L_X3_winsOf_4] at hF
    refine g_iload_n X dX3_winsOf_4 rfl (lv_at hl 3 rfl) ?_
    refine g_bipush (v := 15) X dX3_winsOf_5 (by decide) ?_
    refine g_icmp_gt (tgt := 28) X dX3_winsOf_7 (by decide) (fun hc7 => ?_) (fun hc7 => ?_)
    · have hF := ite_t hF hc7
      have e4 := some_inj hF
      subst e4
      exact K ls (lv_sub hl [2] rfl)
    · have hF := ite_f hF hc7
      refine g_aload_n X dX3_winsOf_10 rfl (lv_at hl 0 rfl) ?_
      refine g_iload_n X dX3_winsOf_11 rfl (lv_at hl 3 rfl) ?_
      obtain ⟨r12, hr12, hF⟩ := obind hF
      refine k_Vi X (As := [.int a3]) (rest := []) (c_X3_winnerOf hI hr12) (cwV 1 X.ts gX3_winsOf_X3_winnerOf rfl rfl rfl (by decide +kernel) ⟨Nat.le_of_ble_eq_true rfl, Nat.le_of_ble_eq_true rfl⟩) ⟨0, 3, _, _, lt_obj, rfl, rfl⟩ rfl hl.1 rfl (Nat.le_of_ble_eq_true rfl) dX3_winsOf_12 ?_
      refine g_iload_n X dX3_winsOf_15 rfl (lv_at hl 1 rfl) ?_
      obtain ⟨v16, hR16, hF⟩ := obind hF
      refine g_cut (nM := 4) [(0, .ref (ad 0)), (1, .int a1), (2, .int v16), (3, .int a3)] (σ) 22 [] (fun ls hl => ?_) (fun J16 => ?_)
      · refine g_iinc (v := a3 + 1) (lv' := [(3, _), (0, _), (1, _), (2, _)]) X dX3_winsOf_22 hl (k := 3) rfl rfl (by decide) rfl (fun ls hl => ?_)
        refine g_goto (tgt := 4) X dX3_winsOf_25 (by decide) ?_
        exact ih v16 (a3 + 1) hF ls (lv_sub hl [1, 2, 3, 0] rfl)
      · refine g_icmp_ne (tgt := 22) X dX3_winsOf_16 (by decide) (fun hc16 => ?_) (fun hc16 => ?_)
        · have hR16 := ite_t hR16 hc16
          have e16 := some_inj hR16
          subst e16
          exact J16 ls (lv_sub hl [0, 1, 2, 3] rfl)
        · have hR16 := ite_n hR16 hc16
          refine g_iinc (v := a2 + 1) (lv' := [(2, _), (0, _), (1, _), (3, _)]) X dX3_winsOf_19 hl (k := 2) rfl rfl (by decide) rfl (fun ls hl => ?_)
          have e16 := some_inj hR16
          subst e16
          exact J16 ls (lv_sub hl [1, 2, 0, 3] rfl)
def F_X3_winsOf (a1 : Int32) (σ : Mem) : Option Int32 := Option.bind (L_X3_winsOf_4 a1 σ FU (0 : Int32) (1 : Int32)) (fun v4 : Int32 => some v4)
set_option maxHeartbeats 4000000 in
set_option maxRecDepth 100000 in
theorem c_X3_winsOf {l : Launch} {D : va_G} {ay : Nat → ClassId} {ad : Nat → Nat} {a1 : Int32} {σ : Mem} {res : Int32} (hI : adOK ad) (hF : F_X3_winsOf a1 σ = some res) : Met l yX3_winsOf wsX3_winsOf ({ frames := 3, cells := 0, slots := 0, locals := 63 } : Room) (va_Pc [.ref (ad 0), .int a1] (PP D ay (wC ay ad σ))) (va_Qi (pP res σ) (fun τ => PP D ay (wC ay ad τ)) (AC ad)) 0 0 (AC ad) := by
  refine g_start (wd := wC ay ad) (A := AC ad) (own := RX3) (mL := 4) (rt := (some .int)) (by decide) rfl rfl (Nat.le_of_ble_eq_true rfl) ?_
  intro p e s m below meth c ls X hl
  have hl : lv_has ls 4 [(0, .ref (ad 0)), (1, .int a1)] := hl
  rw [F_X3_winsOf] at hF
  refine g_iconst (v := 0) X dX3_winsOf_0 (by decide) ?_
  refine g_istore_n (lv' := [(2, _), (0, _), (1, _)]) X dX3_winsOf_1 rfl hl (by decide) rfl (fun ls hl => ?_)
  refine g_iconst (v := 1) X dX3_winsOf_2 (by decide) ?_
  refine g_istore_n (lv' := [(3, _), (2, _), (0, _), (1, _)]) X dX3_winsOf_3 rfl hl (by decide) rfl (fun ls hl => ?_)
  obtain ⟨v4, hL4, hF⟩ := obind hF
  refine w_X3_winsOf_4 X hI (fun ls hl => ?_) FU (0 : Int32) (1 : Int32) hL4 ls (lv_sub hl [2, 3, 1, 0] rfl)
  refine g_iload_n X dX3_winsOf_28 rfl (lv_at hl 0 rfl) ?_
  exact g_iret X (pP_mk (some_inj hF)) dX3_winsOf_29
theorem in_X3_mover_X1 : ∀ w ∈ wsX10, w ∈ wsX3_mover := by decide +kernel
theorem in_X3_mover_X3 : ∀ w ∈ wsX30, w ∈ wsX3_mover := by decide +kernel
def F_X3_mover (a1 : Int32) (a2 : Int32) (σ : Mem) : Option (Nat ⊕ Int32) := Option.bind (F_X1_has 6 a1 σ) (fun r5 => (if ¬ r5 = 0 then (if a2 = 0 then inR (Option.bind (F_X1_valueOf 6 a1 σ) (fun r69 => some r69)) else (if a2 = 1 then inR (Option.bind (F_X1_speedOf 6 a1 σ) (fun r78 => some r78)) else (if a2 = 2 then inR (Option.bind (F_X1_rankOf 6 a1 σ) (fun r87 => some r87)) else (if a2 = 3 then inR (Option.bind (F_X3_winsOf a1 σ) (fun r93 => some r93)) else (if a2 = 4 then inR (Option.bind (F_X0_rowOf 48 a1 σ) (fun r106 => Option.bind (F_X0_numerator 48 r106 (σ 6 5) σ) (fun r116 => some r116))) else (if a2 = 5 then inR (Option.bind (F_X0_rowOf 48 a1 σ) (fun r129 => Option.bind (F_X0_denominator 48 r129 σ) (fun r132 => some r132))) else (if a2 = 6 then inR (Option.bind (F_X1_addedAtOf 6 a1 σ) (fun r141 => some r141)) else some (Sum.inl 0)))))))) else some (Sum.inl 2)))
set_option maxHeartbeats 4000000 in
set_option maxRecDepth 100000 in
theorem c_X3_mover {l : Launch} {D : va_G} {ay : Nat → ClassId} {ad : Nat → Nat} {a1 : Int32} {a2 : Int32} {σ : Mem} {res : Int32} (hI : adOK ad) (hF : F_X3_mover a1 a2 σ = some (Sum.inr res)) : Met l yX3_mover wsX3_mover ({ frames := 4, cells := 0, slots := 0, locals := 96 } : Room) (va_Pc [.ref (ad 0), .int a1, .int a2] (PP D ay (wC ay ad σ))) (va_Qi (pP res σ) (fun τ => PP D ay (wC ay ad τ)) (AC ad)) 0 0 (AC ad) := by
  refine g_start (wd := wC ay ad) (A := AC ad) (own := RX3) (mL := 3) (rt := (some .int)) (by decide) rfl rfl (Nat.le_of_ble_eq_true rfl) ?_
  intro p e s m below meth c ls X hl
  have hl : lv_has ls 3 [(0, .ref (ad 0)), (1, .int a1), (2, .int a2)] := hl
  rw [F_X3_mover] at hF
  refine g_aload_n X dX3_mover_0 rfl (lv_at hl 0 rfl) ?_
  refine g_get X 0 (lt_obj) in_X3_mover_X3 rfl 0 (by decide) (X.ts (.fieldLink RX3 12 "LeadTimes" "now" "LLeadTimes$State;") (by decide +kernel)) rfl rfl dX3_mover_1 ?_
  refine g_iload_n X dX3_mover_4 rfl (lv_at hl 1 rfl) ?_
  obtain ⟨r5, hr5, hF⟩ := obind hF
  refine k_Vz X (As := [.int a1]) (rest := []) (c_X1_has hI isSt6 hr5) (cwV 1 X.ts gX3_mover_X1_has rfl rfl rfl (by decide +kernel) ⟨Nat.le_of_ble_eq_true rfl, Nat.le_of_ble_eq_true rfl⟩) ⟨6, 1, _, _, st_obj isSt6, rfl, rfl⟩ rfl hl.1 rfl (Nat.le_of_ble_eq_true rfl) dX3_mover_5 (fun hz5 => ?_)
  refine g_if_ne (tgt := 21) X dX3_mover_8 (by decide) (fun hc8 => ?_) (fun hc8 => ?_)
  · have hF := ite_t hF hc8
    refine g_iload_n X dX3_mover_21 rfl (lv_at hl 2 rfl) ?_
    by_cases hc22_0 : a2 = 0
    · have hF := ite_t hF hc22_0
      refine g_tableIn (tgt := 64) X dX3_mover_22 (by rw [hc22_0]; decide) (by rw [hc22_0]; decide) (by rw [hc22_0]; rfl) (by decide) ?_
      have hF := inR_some hF
      refine g_aload_n X dX3_mover_64 rfl (lv_at hl 0 rfl) ?_
      refine g_get X 0 (lt_obj) in_X3_mover_X3 rfl 0 (by decide) (X.ts (.fieldLink RX3 12 "LeadTimes" "now" "LLeadTimes$State;") (by decide +kernel)) rfl rfl dX3_mover_65 ?_
      refine g_iload_n X dX3_mover_68 rfl (lv_at hl 1 rfl) ?_
      obtain ⟨r69, hr69, hF⟩ := obind hF
      refine k_Vi X (As := [.int a1]) (rest := []) (c_X1_valueOf hI isSt6 hr69) (cwV 1 X.ts gX3_mover_X1_valueOf rfl rfl rfl (by decide +kernel) ⟨Nat.le_of_ble_eq_true rfl, Nat.le_of_ble_eq_true rfl⟩) ⟨6, 1, _, _, st_obj isSt6, rfl, rfl⟩ rfl hl.1 rfl (Nat.le_of_ble_eq_true rfl) dX3_mover_69 ?_
      exact g_iret X (pP_mk (some_inj hF)) dX3_mover_72
    have hF := ite_f hF hc22_0
    by_cases hc22_1 : a2 = 1
    · have hF := ite_t hF hc22_1
      refine g_tableIn (tgt := 73) X dX3_mover_22 (by rw [hc22_1]; decide) (by rw [hc22_1]; decide) (by rw [hc22_1]; rfl) (by decide) ?_
      have hF := inR_some hF
      refine g_aload_n X dX3_mover_73 rfl (lv_at hl 0 rfl) ?_
      refine g_get X 0 (lt_obj) in_X3_mover_X3 rfl 0 (by decide) (X.ts (.fieldLink RX3 12 "LeadTimes" "now" "LLeadTimes$State;") (by decide +kernel)) rfl rfl dX3_mover_74 ?_
      refine g_iload_n X dX3_mover_77 rfl (lv_at hl 1 rfl) ?_
      obtain ⟨r78, hr78, hF⟩ := obind hF
      refine k_Vi X (As := [.int a1]) (rest := []) (c_X1_speedOf hI isSt6 hr78) (cwV 1 X.ts gX3_mover_X1_speedOf rfl rfl rfl (by decide +kernel) ⟨Nat.le_of_ble_eq_true rfl, Nat.le_of_ble_eq_true rfl⟩) ⟨6, 1, _, _, st_obj isSt6, rfl, rfl⟩ rfl hl.1 rfl (Nat.le_of_ble_eq_true rfl) dX3_mover_78 ?_
      exact g_iret X (pP_mk (some_inj hF)) dX3_mover_81
    have hF := ite_f hF hc22_1
    by_cases hc22_2 : a2 = 2
    · have hF := ite_t hF hc22_2
      refine g_tableIn (tgt := 82) X dX3_mover_22 (by rw [hc22_2]; decide) (by rw [hc22_2]; decide) (by rw [hc22_2]; rfl) (by decide) ?_
      have hF := inR_some hF
      refine g_aload_n X dX3_mover_82 rfl (lv_at hl 0 rfl) ?_
      refine g_get X 0 (lt_obj) in_X3_mover_X3 rfl 0 (by decide) (X.ts (.fieldLink RX3 12 "LeadTimes" "now" "LLeadTimes$State;") (by decide +kernel)) rfl rfl dX3_mover_83 ?_
      refine g_iload_n X dX3_mover_86 rfl (lv_at hl 1 rfl) ?_
      obtain ⟨r87, hr87, hF⟩ := obind hF
      refine k_Vi X (As := [.int a1]) (rest := []) (c_X1_rankOf hI isSt6 hr87) (cwV 1 X.ts gX3_mover_X1_rankOf rfl rfl rfl (by decide +kernel) ⟨Nat.le_of_ble_eq_true rfl, Nat.le_of_ble_eq_true rfl⟩) ⟨6, 1, _, _, st_obj isSt6, rfl, rfl⟩ rfl hl.1 rfl (Nat.le_of_ble_eq_true rfl) dX3_mover_87 ?_
      exact g_iret X (pP_mk (some_inj hF)) dX3_mover_90
    have hF := ite_f hF hc22_2
    by_cases hc22_3 : a2 = 3
    · have hF := ite_t hF hc22_3
      refine g_tableIn (tgt := 91) X dX3_mover_22 (by rw [hc22_3]; decide) (by rw [hc22_3]; decide) (by rw [hc22_3]; rfl) (by decide) ?_
      have hF := inR_some hF
      refine g_aload_n X dX3_mover_91 rfl (lv_at hl 0 rfl) ?_
      refine g_iload_n X dX3_mover_92 rfl (lv_at hl 1 rfl) ?_
      obtain ⟨r93, hr93, hF⟩ := obind hF
      refine k_Vi X (As := [.int a1]) (rest := []) (c_X3_winsOf hI hr93) (cwV 1 X.ts gX3_mover_X3_winsOf rfl rfl rfl (by decide +kernel) ⟨Nat.le_of_ble_eq_true rfl, Nat.le_of_ble_eq_true rfl⟩) ⟨0, 3, _, _, lt_obj, rfl, rfl⟩ rfl hl.1 rfl (Nat.le_of_ble_eq_true rfl) dX3_mover_93 ?_
      exact g_iret X (pP_mk (some_inj hF)) dX3_mover_96
    have hF := ite_f hF hc22_3
    by_cases hc22_4 : a2 = 4
    · have hF := ite_t hF hc22_4
      refine g_tableIn (tgt := 97) X dX3_mover_22 (by rw [hc22_4]; decide) (by rw [hc22_4]; decide) (by rw [hc22_4]; rfl) (by decide) ?_
      have hF := inR_some hF
      refine g_aload_n X dX3_mover_97 rfl (lv_at hl 0 rfl) ?_
      refine g_get X 0 (lt_obj) in_X3_mover_X3 rfl 4 (by decide) (X.ts (.fieldLink RX3 32 "LeadTimes" "leading" "LLeadTimes$Course;") (by decide +kernel)) rfl rfl dX3_mover_98 ?_
      refine g_aload_n X dX3_mover_101 rfl (lv_at hl 0 rfl) ?_
      refine g_get X 0 (lt_obj) in_X3_mover_X3 rfl 4 (by decide) (X.ts (.fieldLink RX3 32 "LeadTimes" "leading" "LLeadTimes$Course;") (by decide +kernel)) rfl rfl dX3_mover_102 ?_
      refine g_iload_n X dX3_mover_105 rfl (lv_at hl 1 rfl) ?_
      obtain ⟨r106, hr106, hF⟩ := obind hF
      refine k_Vi X (As := [.int a1]) (rest := [.ref (ad 48)]) (c_X0_rowOf hI isCo48 hr106) (cwV 1 X.ts gX3_mover_X0_rowOf rfl rfl rfl (by decide +kernel) ⟨Nat.le_of_ble_eq_true rfl, Nat.le_of_ble_eq_true rfl⟩) ⟨48, 0, _, _, co_obj isCo48, rfl, rfl⟩ rfl hl.1 rfl (Nat.le_of_ble_eq_true rfl) dX3_mover_106 ?_
      refine g_aload_n X dX3_mover_109 rfl (lv_at hl 0 rfl) ?_
      refine g_get X 0 (lt_obj) in_X3_mover_X3 rfl 0 (by decide) (X.ts (.fieldLink RX3 12 "LeadTimes" "now" "LLeadTimes$State;") (by decide +kernel)) rfl rfl dX3_mover_110 ?_
      refine g_get X 6 (st_obj isSt6) in_X3_mover_X1 rfl 5 (by decide) (X.ts (.fieldLink RX3 129 "LeadTimes$State" "time" "I") (by decide +kernel)) rfl rfl dX3_mover_113 ?_
      obtain ⟨r116, hr116, hF⟩ := obind hF
      refine k_Vi X (As := [.int r106, .int (σ 6 5)]) (rest := []) (c_X0_numerator hI isCo48 hr116) (cwV 2 X.ts gX3_mover_X0_numerator rfl rfl rfl (by decide +kernel) ⟨Nat.le_of_ble_eq_true rfl, Nat.le_of_ble_eq_true rfl⟩) ⟨48, 0, _, _, co_obj isCo48, rfl, rfl⟩ rfl hl.1 rfl (Nat.le_of_ble_eq_true rfl) dX3_mover_116 ?_
      exact g_iret X (pP_mk (some_inj hF)) dX3_mover_119
    have hF := ite_f hF hc22_4
    by_cases hc22_5 : a2 = 5
    · have hF := ite_t hF hc22_5
      refine g_tableIn (tgt := 120) X dX3_mover_22 (by rw [hc22_5]; decide) (by rw [hc22_5]; decide) (by rw [hc22_5]; rfl) (by decide) ?_
      have hF := inR_some hF
      refine g_aload_n X dX3_mover_120 rfl (lv_at hl 0 rfl) ?_
      refine g_get X 0 (lt_obj) in_X3_mover_X3 rfl 4 (by decide) (X.ts (.fieldLink RX3 32 "LeadTimes" "leading" "LLeadTimes$Course;") (by decide +kernel)) rfl rfl dX3_mover_121 ?_
      refine g_aload_n X dX3_mover_124 rfl (lv_at hl 0 rfl) ?_
      refine g_get X 0 (lt_obj) in_X3_mover_X3 rfl 4 (by decide) (X.ts (.fieldLink RX3 32 "LeadTimes" "leading" "LLeadTimes$Course;") (by decide +kernel)) rfl rfl dX3_mover_125 ?_
      refine g_iload_n X dX3_mover_128 rfl (lv_at hl 1 rfl) ?_
      obtain ⟨r129, hr129, hF⟩ := obind hF
      refine k_Vi X (As := [.int a1]) (rest := [.ref (ad 48)]) (c_X0_rowOf hI isCo48 hr129) (cwV 1 X.ts gX3_mover_X0_rowOf rfl rfl rfl (by decide +kernel) ⟨Nat.le_of_ble_eq_true rfl, Nat.le_of_ble_eq_true rfl⟩) ⟨48, 0, _, _, co_obj isCo48, rfl, rfl⟩ rfl hl.1 rfl (Nat.le_of_ble_eq_true rfl) dX3_mover_129 ?_
      obtain ⟨r132, hr132, hF⟩ := obind hF
      refine k_Vi X (As := [.int r129]) (rest := []) (c_X0_denominator hI isCo48 hr132) (cwV 1 X.ts gX3_mover_X0_denominator rfl rfl rfl (by decide +kernel) ⟨Nat.le_of_ble_eq_true rfl, Nat.le_of_ble_eq_true rfl⟩) ⟨48, 0, _, _, co_obj isCo48, rfl, rfl⟩ rfl hl.1 rfl (Nat.le_of_ble_eq_true rfl) dX3_mover_132 ?_
      exact g_iret X (pP_mk (some_inj hF)) dX3_mover_135
    have hF := ite_f hF hc22_5
    by_cases hc22_6 : a2 = 6
    · have hF := ite_t hF hc22_6
      refine g_tableIn (tgt := 136) X dX3_mover_22 (by rw [hc22_6]; decide) (by rw [hc22_6]; decide) (by rw [hc22_6]; rfl) (by decide) ?_
      have hF := inR_some hF
      refine g_aload_n X dX3_mover_136 rfl (lv_at hl 0 rfl) ?_
      refine g_get X 0 (lt_obj) in_X3_mover_X3 rfl 0 (by decide) (X.ts (.fieldLink RX3 12 "LeadTimes" "now" "LLeadTimes$State;") (by decide +kernel)) rfl rfl dX3_mover_137 ?_
      refine g_iload_n X dX3_mover_140 rfl (lv_at hl 1 rfl) ?_
      obtain ⟨r141, hr141, hF⟩ := obind hF
      refine k_Vi X (As := [.int a1]) (rest := []) (c_X1_addedAtOf hI isSt6 hr141) (cwV 1 X.ts gX3_mover_X1_addedAtOf rfl rfl rfl (by decide +kernel) ⟨Nat.le_of_ble_eq_true rfl, Nat.le_of_ble_eq_true rfl⟩) ⟨6, 1, _, _, st_obj isSt6, rfl, rfl⟩ rfl hl.1 rfl (Nat.le_of_ble_eq_true rfl) dX3_mover_141 ?_
      exact g_iret X (pP_mk (some_inj hF)) dX3_mover_144
    have hF := ite_f hF hc22_6
    refine g_tableOut (tgt := 145) X dX3_mover_22 (tb_out6 hc22_0 hc22_1 hc22_2 hc22_3 hc22_4 hc22_5 hc22_6) (by decide) ?_
    exact (inl_inr hF).elim
  · have hF := ite_n hF hc8
    exact (inl_inr hF).elim
theorem in_X3_comingFrom_X3 : ∀ w ∈ wsX30, w ∈ wsX3_comingFrom := by decide +kernel
def F_X3_comingFrom (a1 : Int32) (a2 : Int32) (σ : Mem) : Option Int32 := (if (8 : Int32) ≤ a1 then Option.bind (F_X1_has 6 (((2 : Int32) * (a1 - (8 : Int32))) + a2) σ) (fun r30 => (if r30 = 0 then some (-1 : Int32) else some (((2 : Int32) * (a1 - (8 : Int32))) + a2))) else Option.bind (F_X3_winnerOf (((2 : Int32) * a1) + a2) σ) (fun r12 => some r12))
set_option maxHeartbeats 4000000 in
set_option maxRecDepth 100000 in
theorem c_X3_comingFrom {l : Launch} {D : va_G} {ay : Nat → ClassId} {ad : Nat → Nat} {a1 : Int32} {a2 : Int32} {σ : Mem} {res : Int32} (hI : adOK ad) (hF : F_X3_comingFrom a1 a2 σ = some res) : Met l yX3_comingFrom wsX3_comingFrom ({ frames := 3, cells := 0, slots := 0, locals := 63 } : Room) (va_Pc [.ref (ad 0), .int a1, .int a2] (PP D ay (wC ay ad σ))) (va_Qi (pP res σ) (fun τ => PP D ay (wC ay ad τ)) (AC ad)) 0 0 (AC ad) := by
  refine g_start (wd := wC ay ad) (A := AC ad) (own := RX3) (mL := 4) (rt := (some .int)) (by decide) rfl rfl (Nat.le_of_ble_eq_true rfl) ?_
  intro p e s m below meth c ls X hl
  have hl : lv_has ls 4 [(0, .ref (ad 0)), (1, .int a1), (2, .int a2)] := hl
  rw [F_X3_comingFrom] at hF
  refine g_iload_n X dX3_comingFrom_0 rfl (lv_at hl 1 rfl) ?_
  refine g_bipush (v := 8) X dX3_comingFrom_1 (by decide) ?_
  refine g_icmp_ge (tgt := 16) X dX3_comingFrom_3 (by decide) (fun hc3 => ?_) (fun hc3 => ?_)
  · have hF := ite_t hF hc3
    refine g_iconst (v := 2) X dX3_comingFrom_16 (by decide) ?_
    refine g_iload_n X dX3_comingFrom_17 rfl (lv_at hl 1 rfl) ?_
    refine g_bipush (v := 8) X dX3_comingFrom_18 (by decide) ?_
    refine g_isub X dX3_comingFrom_20 ?_
    refine g_imul X dX3_comingFrom_21 ?_
    refine g_iload_n X dX3_comingFrom_22 rfl (lv_at hl 2 rfl) ?_
    refine g_iadd X dX3_comingFrom_23 ?_
    refine g_istore_n (lv' := [(3, _), (0, _), (1, _), (2, _)]) X dX3_comingFrom_24 rfl hl (by decide) rfl (fun ls hl => ?_)
    refine g_aload_n X dX3_comingFrom_25 rfl (lv_at hl 1 rfl) ?_
    refine g_get X 0 (lt_obj) in_X3_comingFrom_X3 rfl 0 (by decide) (X.ts (.fieldLink RX3 12 "LeadTimes" "now" "LLeadTimes$State;") (by decide +kernel)) rfl rfl dX3_comingFrom_26 ?_
    refine g_iload_n X dX3_comingFrom_29 rfl (lv_at hl 0 rfl) ?_
    obtain ⟨r30, hr30, hF⟩ := obind hF
    refine k_Vz X (As := [.int (((2 : Int32) * (a1 - (8 : Int32))) + a2)]) (rest := []) (c_X1_has hI isSt6 hr30) (cwV 1 X.ts gX3_comingFrom_X1_has rfl rfl rfl (by decide +kernel) ⟨Nat.le_of_ble_eq_true rfl, Nat.le_of_ble_eq_true rfl⟩) ⟨6, 1, _, _, st_obj isSt6, rfl, rfl⟩ rfl hl.1 rfl (Nat.le_of_ble_eq_true rfl) dX3_comingFrom_30 (fun hz30 => ?_)
    refine g_if_eq (tgt := 40) X dX3_comingFrom_33 (by decide) (fun hc33 => ?_) (fun hc33 => ?_)
    · have hF := ite_t hF hc33
      refine g_iconst (v := -1) X dX3_comingFrom_40 (by decide) ?_
      exact g_iret X (pP_mk (some_inj hF)) dX3_comingFrom_41
    · have hF := ite_f hF hc33
      refine g_iload_n X dX3_comingFrom_36 rfl (lv_at hl 0 rfl) ?_
      refine g_goto (tgt := 41) X dX3_comingFrom_37 (by decide) ?_
      exact g_iret X (pP_mk (some_inj hF)) dX3_comingFrom_41
  · have hF := ite_f hF hc3
    refine g_aload_n X dX3_comingFrom_6 rfl (lv_at hl 0 rfl) ?_
    refine g_iconst (v := 2) X dX3_comingFrom_7 (by decide) ?_
    refine g_iload_n X dX3_comingFrom_8 rfl (lv_at hl 1 rfl) ?_
    refine g_imul X dX3_comingFrom_9 ?_
    refine g_iload_n X dX3_comingFrom_10 rfl (lv_at hl 2 rfl) ?_
    refine g_iadd X dX3_comingFrom_11 ?_
    obtain ⟨r12, hr12, hF⟩ := obind hF
    refine k_Vi X (As := [.int (((2 : Int32) * a1) + a2)]) (rest := []) (c_X3_winnerOf hI hr12) (cwV 1 X.ts gX3_comingFrom_X3_winnerOf rfl rfl rfl (by decide +kernel) ⟨Nat.le_of_ble_eq_true rfl, Nat.le_of_ble_eq_true rfl⟩) ⟨0, 3, _, _, lt_obj, rfl, rfl⟩ rfl hl.1 rfl (Nat.le_of_ble_eq_true rfl) dX3_comingFrom_12 ?_
    exact g_iret X (pP_mk (some_inj hF)) dX3_comingFrom_15
def F_X3_loserOf (a1 : Int32) (σ : Mem) : Option Int32 := Option.bind (F_X3_comingFrom a1 (0 : Int32) σ) (fun r3 => Option.bind (F_X3_comingFrom a1 (1 : Int32) σ) (fun r10 => (if r3 = (-1 : Int32) then some (-1 : Int32) else (if ¬ r10 = (-1 : Int32) then Option.bind (F_X3_winnerOf a1 σ) (fun r28 => (if ¬ r28 = r3 then some r3 else some r10)) else some (-1 : Int32)))))
set_option maxHeartbeats 4000000 in
set_option maxRecDepth 100000 in
theorem c_X3_loserOf {l : Launch} {D : va_G} {ay : Nat → ClassId} {ad : Nat → Nat} {a1 : Int32} {σ : Mem} {res : Int32} (hI : adOK ad) (hF : F_X3_loserOf a1 σ = some res) : Met l yX3_loserOf wsX3_loserOf ({ frames := 4, cells := 0, slots := 0, locals := 86 } : Room) (va_Pc [.ref (ad 0), .int a1] (PP D ay (wC ay ad σ))) (va_Qi (pP res σ) (fun τ => PP D ay (wC ay ad τ)) (AC ad)) 0 0 (AC ad) := by
  refine g_start (wd := wC ay ad) (A := AC ad) (own := RX3) (mL := 4) (rt := (some .int)) (by decide) rfl rfl (Nat.le_of_ble_eq_true rfl) ?_
  intro p e s m below meth c ls X hl
  have hl : lv_has ls 4 [(0, .ref (ad 0)), (1, .int a1)] := hl
  rw [F_X3_loserOf] at hF
  refine g_aload_n X dX3_loserOf_0 rfl (lv_at hl 0 rfl) ?_
  refine g_iload_n X dX3_loserOf_1 rfl (lv_at hl 1 rfl) ?_
  refine g_iconst (v := 0) X dX3_loserOf_2 (by decide) ?_
  obtain ⟨r3, hr3, hF⟩ := obind hF
  refine k_Vi X (As := [.int a1, .int (0 : Int32)]) (rest := []) (c_X3_comingFrom hI hr3) (cwV 2 X.ts gX3_loserOf_X3_comingFrom rfl rfl rfl (by decide +kernel) ⟨Nat.le_of_ble_eq_true rfl, Nat.le_of_ble_eq_true rfl⟩) ⟨0, 3, _, _, lt_obj, rfl, rfl⟩ rfl hl.1 rfl (Nat.le_of_ble_eq_true rfl) dX3_loserOf_3 ?_
  refine g_istore_n (lv' := [(2, _), (0, _), (1, _)]) X dX3_loserOf_6 rfl hl (by decide) rfl (fun ls hl => ?_)
  refine g_aload_n X dX3_loserOf_7 rfl (lv_at hl 1 rfl) ?_
  refine g_iload_n X dX3_loserOf_8 rfl (lv_at hl 2 rfl) ?_
  refine g_iconst (v := 1) X dX3_loserOf_9 (by decide) ?_
  obtain ⟨r10, hr10, hF⟩ := obind hF
  refine k_Vi X (As := [.int a1, .int (1 : Int32)]) (rest := []) (c_X3_comingFrom hI hr10) (cwV 2 X.ts gX3_loserOf_X3_comingFrom rfl rfl rfl (by decide +kernel) ⟨Nat.le_of_ble_eq_true rfl, Nat.le_of_ble_eq_true rfl⟩) ⟨0, 3, _, _, lt_obj, rfl, rfl⟩ rfl hl.1 rfl (Nat.le_of_ble_eq_true rfl) dX3_loserOf_10 ?_
  refine g_istore_n (lv' := [(3, _), (2, _), (0, _), (1, _)]) X dX3_loserOf_13 rfl hl (by decide) rfl (fun ls hl => ?_)
  refine g_iload_n X dX3_loserOf_14 rfl (lv_at hl 1 rfl) ?_
  refine g_iconst (v := -1) X dX3_loserOf_15 (by decide) ?_
  refine g_icmp_eq (tgt := 24) X dX3_loserOf_16 (by decide) (fun hc16 => ?_) (fun hc16 => ?_)
  · have hF := ite_t hF hc16
    refine g_iconst (v := -1) X dX3_loserOf_24 (by decide) ?_
    exact g_iret X (pP_mk (some_inj hF)) dX3_loserOf_25
  · have hF := ite_f hF hc16
    refine g_iload_n X dX3_loserOf_19 rfl (lv_at hl 0 rfl) ?_
    refine g_iconst (v := -1) X dX3_loserOf_20 (by decide) ?_
    refine g_icmp_ne (tgt := 26) X dX3_loserOf_21 (by decide) (fun hc21 => ?_) (fun hc21 => ?_)
    · have hF := ite_t hF hc21
      refine g_aload_n X dX3_loserOf_26 rfl (lv_at hl 2 rfl) ?_
      refine g_iload_n X dX3_loserOf_27 rfl (lv_at hl 3 rfl) ?_
      obtain ⟨r28, hr28, hF⟩ := obind hF
      refine k_Vi X (As := [.int a1]) (rest := []) (c_X3_winnerOf hI hr28) (cwV 1 X.ts gX3_loserOf_X3_winnerOf rfl rfl rfl (by decide +kernel) ⟨Nat.le_of_ble_eq_true rfl, Nat.le_of_ble_eq_true rfl⟩) ⟨0, 3, _, _, lt_obj, rfl, rfl⟩ rfl hl.1 rfl (Nat.le_of_ble_eq_true rfl) dX3_loserOf_28 ?_
      refine g_iload_n X dX3_loserOf_31 rfl (lv_at hl 1 rfl) ?_
      refine g_icmp_ne (tgt := 39) X dX3_loserOf_32 (by decide) (fun hc32 => ?_) (fun hc32 => ?_)
      · have hF := ite_t hF hc32
        refine g_iload_n X dX3_loserOf_39 rfl (lv_at hl 1 rfl) ?_
        exact g_iret X (pP_mk (some_inj hF)) dX3_loserOf_40
      · have hF := ite_n hF hc32
        refine g_iload_n X dX3_loserOf_35 rfl (lv_at hl 0 rfl) ?_
        refine g_goto (tgt := 40) X dX3_loserOf_36 (by decide) ?_
        exact g_iret X (pP_mk (some_inj hF)) dX3_loserOf_40
    · have hF := ite_n hF hc21
      refine g_iconst (v := -1) X dX3_loserOf_24 (by decide) ?_
      exact g_iret X (pP_mk (some_inj hF)) dX3_loserOf_25
theorem in_X3_contest_X1 : ∀ w ∈ wsX10, w ∈ wsX3_contest := by decide +kernel
theorem in_X3_contest_X3 : ∀ w ∈ wsX30, w ∈ wsX3_contest := by decide +kernel
def F_X3_contest (a1 : Int32) (a2 : Int32) (σ : Mem) : Option (Nat ⊕ Int32) := Option.bind (F_X3_isWithin a1 (1 : Int32) (15 : Int32)) (fun r4 => (if ¬ r4 = 0 then Option.bind (F_X3_courseOf a1 σ) (fun r22 => (if a2 = 0 then inR (Option.bind (F_X0_winnerIn r22 (0 : Int32) σ) (fun r66 => some r66)) else (if a2 = 1 then inR (Option.bind (F_X3_loserOf a1 σ) (fun r72 => some r72)) else (if a2 = 2 then inR (Option.bind (F_X0_numerator r22 (1 : Int32) (σ 6 5) σ) (fun r85 => some r85)) else (if a2 = 3 then inR (Option.bind (F_X0_denominator r22 (1 : Int32) σ) (fun r91 => some r91)) else (if a2 = 4 then inR (Option.bind (F_X0_winnerIn r22 (1 : Int32) σ) (fun r97 => some r97)) else (if a2 = 5 then inR (Option.bind (F_X1_turnedOf 6 a1 σ) (fun r106 => some r106)) else some (Sum.inl 0)))))))) else some (Sum.inl 2)))
set_option maxHeartbeats 4000000 in
set_option maxRecDepth 100000 in
theorem c_X3_contest {l : Launch} {D : va_G} {ay : Nat → ClassId} {ad : Nat → Nat} {a1 : Int32} {a2 : Int32} {σ : Mem} {res : Int32} (hI : adOK ad) (hF : F_X3_contest a1 a2 σ = some (Sum.inr res)) : Met l yX3_contest wsX3_contest ({ frames := 5, cells := 0, slots := 0, locals := 109 } : Room) (va_Pc [.ref (ad 0), .int a1, .int a2] (PP D ay (wC ay ad σ))) (va_Qi (pP res σ) (fun τ => PP D ay (wC ay ad τ)) (AC ad)) 0 0 (AC ad) := by
  refine g_start (wd := wC ay ad) (A := AC ad) (own := RX3) (mL := 4) (rt := (some .int)) (by decide) rfl rfl (Nat.le_of_ble_eq_true rfl) ?_
  intro p e s m below meth c ls X hl
  have hl : lv_has ls 4 [(0, .ref (ad 0)), (1, .int a1), (2, .int a2)] := hl
  rw [F_X3_contest] at hF
  refine g_iload_n X dX3_contest_0 rfl (lv_at hl 1 rfl) ?_
  refine g_iconst (v := 1) X dX3_contest_1 (by decide) ?_
  refine g_bipush (v := 15) X dX3_contest_2 (by decide) ?_
  obtain ⟨r4, hr4, hF⟩ := obind hF
  refine k_Sz X (As := [.int a1, .int (1 : Int32), .int (15 : Int32)]) (rest := []) (c_X3_isWithin hI hr4) (va_cwS 3 X.ts gX3_contest_X3_isWithin rfl rfl rfl (by decide +kernel) ⟨Nat.le_of_ble_eq_true rfl, Nat.le_of_ble_eq_true rfl⟩) rfl hl.1 rfl (Nat.le_of_ble_eq_true rfl) dX3_contest_4 (fun hz4 => ?_)
  refine g_if_ne (tgt := 20) X dX3_contest_7 (by decide) (fun hc7 => ?_) (fun hc7 => ?_)
  · have hF := ite_t hF hc7
    refine g_aload_n X dX3_contest_20 rfl (lv_at hl 0 rfl) ?_
    refine g_iload_n X dX3_contest_21 rfl (lv_at hl 1 rfl) ?_
    obtain ⟨r22, hr22, hF⟩ := obind hF
    refine k_Vr X (As := [.int a1]) (rest := []) (c_X3_courseOf hI hr22) (cwV 1 X.ts gX3_contest_X3_courseOf rfl rfl rfl (by decide +kernel) ⟨Nat.le_of_ble_eq_true rfl, Nat.le_of_ble_eq_true rfl⟩) ⟨0, 3, _, _, lt_obj, rfl, rfl⟩ rfl hl.1 rfl (Nat.le_of_ble_eq_true rfl) dX3_contest_22 ?_
    refine g_astore_n (lv' := [(3, _), (0, _), (1, _), (2, _)]) X dX3_contest_25 rfl hl (by decide) rfl (fun ls hl => ?_)
    refine g_iload_n X dX3_contest_26 rfl (lv_at hl 3 rfl) ?_
    by_cases hc27_0 : a2 = 0
    · have hF := ite_t hF hc27_0
      refine g_tableIn (tgt := 64) X dX3_contest_27 (by rw [hc27_0]; decide) (by rw [hc27_0]; decide) (by rw [hc27_0]; rfl) (by decide) ?_
      have hF := inR_some hF
      refine g_aload_n X dX3_contest_64 rfl (lv_at hl 0 rfl) ?_
      refine g_iconst (v := 0) X dX3_contest_65 (by decide) ?_
      obtain ⟨r66, hr66, hF⟩ := obind hF
      refine k_Vi X (As := [.int (0 : Int32)]) (rest := []) (c_X0_winnerIn hI (is_X3_courseOf hr22) hr66) (cwV 1 X.ts gX3_contest_X0_winnerIn rfl rfl rfl (by decide +kernel) ⟨Nat.le_of_ble_eq_true rfl, Nat.le_of_ble_eq_true rfl⟩) ⟨r22, 0, _, _, co_obj (is_X3_courseOf hr22), rfl, rfl⟩ rfl hl.1 rfl (Nat.le_of_ble_eq_true rfl) dX3_contest_66 ?_
      exact g_iret X (pP_mk (some_inj hF)) dX3_contest_69
    have hF := ite_f hF hc27_0
    by_cases hc27_1 : a2 = 1
    · have hF := ite_t hF hc27_1
      refine g_tableIn (tgt := 70) X dX3_contest_27 (by rw [hc27_1]; decide) (by rw [hc27_1]; decide) (by rw [hc27_1]; rfl) (by decide) ?_
      have hF := inR_some hF
      refine g_aload_n X dX3_contest_70 rfl (lv_at hl 1 rfl) ?_
      refine g_iload_n X dX3_contest_71 rfl (lv_at hl 2 rfl) ?_
      obtain ⟨r72, hr72, hF⟩ := obind hF
      refine k_Vi X (As := [.int a1]) (rest := []) (c_X3_loserOf hI hr72) (cwV 1 X.ts gX3_contest_X3_loserOf rfl rfl rfl (by decide +kernel) ⟨Nat.le_of_ble_eq_true rfl, Nat.le_of_ble_eq_true rfl⟩) ⟨0, 3, _, _, lt_obj, rfl, rfl⟩ rfl hl.1 rfl (Nat.le_of_ble_eq_true rfl) dX3_contest_72 ?_
      exact g_iret X (pP_mk (some_inj hF)) dX3_contest_75
    have hF := ite_f hF hc27_1
    by_cases hc27_2 : a2 = 2
    · have hF := ite_t hF hc27_2
      refine g_tableIn (tgt := 76) X dX3_contest_27 (by rw [hc27_2]; decide) (by rw [hc27_2]; decide) (by rw [hc27_2]; rfl) (by decide) ?_
      have hF := inR_some hF
      refine g_aload_n X dX3_contest_76 rfl (lv_at hl 0 rfl) ?_
      refine g_iconst (v := 1) X dX3_contest_77 (by decide) ?_
      refine g_aload_n X dX3_contest_78 rfl (lv_at hl 1 rfl) ?_
      refine g_get X 0 (lt_obj) in_X3_contest_X3 rfl 0 (by decide) (X.ts (.fieldLink RX3 12 "LeadTimes" "now" "LLeadTimes$State;") (by decide +kernel)) rfl rfl dX3_contest_79 ?_
      refine g_get X 6 (st_obj isSt6) in_X3_contest_X1 rfl 5 (by decide) (X.ts (.fieldLink RX3 129 "LeadTimes$State" "time" "I") (by decide +kernel)) rfl rfl dX3_contest_82 ?_
      obtain ⟨r85, hr85, hF⟩ := obind hF
      refine k_Vi X (As := [.int (1 : Int32), .int (σ 6 5)]) (rest := []) (c_X0_numerator hI (is_X3_courseOf hr22) hr85) (cwV 2 X.ts gX3_contest_X0_numerator rfl rfl rfl (by decide +kernel) ⟨Nat.le_of_ble_eq_true rfl, Nat.le_of_ble_eq_true rfl⟩) ⟨r22, 0, _, _, co_obj (is_X3_courseOf hr22), rfl, rfl⟩ rfl hl.1 rfl (Nat.le_of_ble_eq_true rfl) dX3_contest_85 ?_
      exact g_iret X (pP_mk (some_inj hF)) dX3_contest_88
    have hF := ite_f hF hc27_2
    by_cases hc27_3 : a2 = 3
    · have hF := ite_t hF hc27_3
      refine g_tableIn (tgt := 89) X dX3_contest_27 (by rw [hc27_3]; decide) (by rw [hc27_3]; decide) (by rw [hc27_3]; rfl) (by decide) ?_
      have hF := inR_some hF
      refine g_aload_n X dX3_contest_89 rfl (lv_at hl 0 rfl) ?_
      refine g_iconst (v := 1) X dX3_contest_90 (by decide) ?_
      obtain ⟨r91, hr91, hF⟩ := obind hF
      refine k_Vi X (As := [.int (1 : Int32)]) (rest := []) (c_X0_denominator hI (is_X3_courseOf hr22) hr91) (cwV 1 X.ts gX3_contest_X0_denominator rfl rfl rfl (by decide +kernel) ⟨Nat.le_of_ble_eq_true rfl, Nat.le_of_ble_eq_true rfl⟩) ⟨r22, 0, _, _, co_obj (is_X3_courseOf hr22), rfl, rfl⟩ rfl hl.1 rfl (Nat.le_of_ble_eq_true rfl) dX3_contest_91 ?_
      exact g_iret X (pP_mk (some_inj hF)) dX3_contest_94
    have hF := ite_f hF hc27_3
    by_cases hc27_4 : a2 = 4
    · have hF := ite_t hF hc27_4
      refine g_tableIn (tgt := 95) X dX3_contest_27 (by rw [hc27_4]; decide) (by rw [hc27_4]; decide) (by rw [hc27_4]; rfl) (by decide) ?_
      have hF := inR_some hF
      refine g_aload_n X dX3_contest_95 rfl (lv_at hl 0 rfl) ?_
      refine g_iconst (v := 1) X dX3_contest_96 (by decide) ?_
      obtain ⟨r97, hr97, hF⟩ := obind hF
      refine k_Vi X (As := [.int (1 : Int32)]) (rest := []) (c_X0_winnerIn hI (is_X3_courseOf hr22) hr97) (cwV 1 X.ts gX3_contest_X0_winnerIn rfl rfl rfl (by decide +kernel) ⟨Nat.le_of_ble_eq_true rfl, Nat.le_of_ble_eq_true rfl⟩) ⟨r22, 0, _, _, co_obj (is_X3_courseOf hr22), rfl, rfl⟩ rfl hl.1 rfl (Nat.le_of_ble_eq_true rfl) dX3_contest_97 ?_
      exact g_iret X (pP_mk (some_inj hF)) dX3_contest_100
    have hF := ite_f hF hc27_4
    by_cases hc27_5 : a2 = 5
    · have hF := ite_t hF hc27_5
      refine g_tableIn (tgt := 101) X dX3_contest_27 (by rw [hc27_5]; decide) (by rw [hc27_5]; decide) (by rw [hc27_5]; rfl) (by decide) ?_
      have hF := inR_some hF
      refine g_aload_n X dX3_contest_101 rfl (lv_at hl 1 rfl) ?_
      refine g_get X 0 (lt_obj) in_X3_contest_X3 rfl 0 (by decide) (X.ts (.fieldLink RX3 12 "LeadTimes" "now" "LLeadTimes$State;") (by decide +kernel)) rfl rfl dX3_contest_102 ?_
      refine g_iload_n X dX3_contest_105 rfl (lv_at hl 2 rfl) ?_
      obtain ⟨r106, hr106, hF⟩ := obind hF
      refine k_Vi X (As := [.int a1]) (rest := []) (c_X1_turnedOf hI isSt6 hr106) (cwV 1 X.ts gX3_contest_X1_turnedOf rfl rfl rfl (by decide +kernel) ⟨Nat.le_of_ble_eq_true rfl, Nat.le_of_ble_eq_true rfl⟩) ⟨6, 1, _, _, st_obj isSt6, rfl, rfl⟩ rfl hl.1 rfl (Nat.le_of_ble_eq_true rfl) dX3_contest_106 ?_
      exact g_iret X (pP_mk (some_inj hF)) dX3_contest_109
    have hF := ite_f hF hc27_5
    refine g_tableOut (tgt := 110) X dX3_contest_27 (tb_out5 hc27_0 hc27_1 hc27_2 hc27_3 hc27_4 hc27_5) (by decide) ?_
    exact (inl_inr hF).elim
  · have hF := ite_n hF hc7
    exact (inl_inr hF).elim
theorem in_X3_firstToTurn_X0 : ∀ w ∈ wsX00, w ∈ wsX3_firstToTurn := by decide +kernel
def L_X3_firstToTurn_4 (σ : Mem) : Nat → Int32 → Int32 → Option Int32
  | 0, _, _ => none
  | fu + 1, a1, a2 => (if (15 : Int32) < a2 then some a1 else Option.bind (F_X3_courseOf a2 σ) (fun r12 => (Option.bind (if (σ r12 5) ≤ (1 : Int32) then some a1 else (if a1 = (-1 : Int32) then some a2 else Option.bind (F_X3_courseOf a1 σ) (fun r32 => Option.bind (F_X0_turnsBefore r12 r32 σ) (fun r35 => (if r35 = 0 then some a1 else some a2))))) (fun v21 : Int32 => L_X3_firstToTurn_4 σ fu v21 (a2 + 1)))))
set_option maxHeartbeats 4000000 in
set_option maxRecDepth 100000 in
theorem w_X3_firstToTurn_4 {D : va_G} {ay : Nat → ClassId} {ad : Nat → Nat} {p : Program} {l : Launch} {e : Env} {s : State} {m : MethodId} {args : Array Value} {below : List Frame} {meth : Method} {c : Code} {Q : State → Prop} {σ : Mem} {res : Int32} (X : CX D ay p s m args meth c cX3_firstToTurn 4 RX3 (some .int) wsX3_firstToTurn) (hI : adOK ad) (K : ∀ ls : Array Slot, lv_has ls 4 [(1, .int res)] → GW D (wC ay ad) (AC ad) p l e ({ frames := 3, cells := 0, slots := 0, locals := 68 } : Room) s m args below meth c Q σ (F0 m 49 ls [])) : ∀ (fu : Nat) (a1 : Int32) (a2 : Int32), L_X3_firstToTurn_4 σ fu a1 a2 = some res → ∀ ls : Array Slot, lv_has ls 4 [(0, .ref (ad 0)), (1, .int a1), (2, .int a2)] → GW D (wC ay ad) (AC ad) p l e ({ frames := 3, cells := 0, slots := 0, locals := 68 } : Room) s m args below meth c Q σ (F0 m 4 ls []) := by
  intro fu
  induction fu with
  | zero =>
    intro a1 a2 hF ls hl
    rw [L_X3_firstToTurn_4] at hF
    cases hF
  | succ fu ih =>
    intro a1 a2 hF ls hl
    rw [L_X3_firstToTurn_4] at hF
    refine g_iload_n X dX3_firstToTurn_4 rfl (lv_at hl 2 rfl) ?_
    refine g_bipush (v := 15) X dX3_firstToTurn_5 (by decide) ?_
    refine g_icmp_gt (tgt := 49) X dX3_firstToTurn_7 (by decide) (fun hc7 => ?_) (fun hc7 => ?_)
    · have hF := ite_t hF hc7
      have e4 := some_inj hF
      subst e4
      exact K ls (lv_sub hl [1] rfl)
    · have hF := ite_f hF hc7
      refine g_aload_n X dX3_firstToTurn_10 rfl (lv_at hl 0 rfl) ?_
      refine g_iload_n X dX3_firstToTurn_11 rfl (lv_at hl 2 rfl) ?_
      obtain ⟨r12, hr12, hF⟩ := obind hF
      refine k_Vr X (As := [.int a2]) (rest := []) (c_X3_courseOf hI hr12) (cwV 1 X.ts gX3_firstToTurn_X3_courseOf rfl rfl rfl (by decide +kernel) ⟨Nat.le_of_ble_eq_true rfl, Nat.le_of_ble_eq_true rfl⟩) ⟨0, 3, _, _, lt_obj, rfl, rfl⟩ rfl hl.1 rfl (Nat.le_of_ble_eq_true rfl) dX3_firstToTurn_12 ?_
      refine g_astore_n (lv' := [(3, _), (0, _), (1, _), (2, _)]) X dX3_firstToTurn_15 rfl hl (by decide) rfl (fun ls hl => ?_)
      refine g_aload_n X dX3_firstToTurn_16 rfl (lv_at hl 0 rfl) ?_
      refine g_get X r12 (co_obj (is_X3_courseOf hr12)) in_X3_firstToTurn_X0 rfl 5 (by decide) (X.ts (.fieldLink RX3 244 "LeadTimes$Course" "size" "I") (by decide +kernel)) rfl rfl dX3_firstToTurn_17 ?_
      refine g_iconst (v := 1) X dX3_firstToTurn_20 (by decide) ?_
      obtain ⟨v21, hR21, hF⟩ := obind hF
      refine g_cut (nM := 4) [(0, .ref (ad 0)), (1, .int v21), (2, .int a2)] (σ) 43 [] (fun ls hl => ?_) (fun J21 => ?_)
      · refine g_iinc (v := a2 + 1) (lv' := [(2, _), (0, _), (1, _)]) X dX3_firstToTurn_43 hl (k := 2) rfl rfl (by decide) rfl (fun ls hl => ?_)
        refine g_goto (tgt := 4) X dX3_firstToTurn_46 (by decide) ?_
        exact ih v21 (a2 + 1) hF ls (lv_sub hl [1, 2, 0] rfl)
      · refine g_icmp_le (tgt := 43) X dX3_firstToTurn_21 (by decide) (fun hc21 => ?_) (fun hc21 => ?_)
        · have hR21 := ite_t hR21 hc21
          have e21 := some_inj hR21
          subst e21
          exact J21 ls (lv_sub hl [1, 2, 3] rfl)
        · have hR21 := ite_f hR21 hc21
          refine g_iload_n X dX3_firstToTurn_24 rfl (lv_at hl 2 rfl) ?_
          refine g_iconst (v := -1) X dX3_firstToTurn_25 (by decide) ?_
          refine g_icmp_eq (tgt := 41) X dX3_firstToTurn_26 (by decide) (fun hc26 => ?_) (fun hc26 => ?_)
          · have hR21 := ite_t hR21 hc26
            refine g_iload_n X dX3_firstToTurn_41 rfl (lv_at hl 3 rfl) ?_
            refine g_istore_n (lv' := [(1, _), (3, _), (0, _), (2, _)]) X dX3_firstToTurn_42 rfl hl (by decide) rfl (fun ls hl => ?_)
            have e21 := some_inj hR21
            subst e21
            exact J21 ls (lv_sub hl [2, 0, 3] rfl)
          · have hR21 := ite_f hR21 hc26
            refine g_aload_n X dX3_firstToTurn_29 rfl (lv_at hl 0 rfl) ?_
            refine g_aload_n X dX3_firstToTurn_30 rfl (lv_at hl 1 rfl) ?_
            refine g_iload_n X dX3_firstToTurn_31 rfl (lv_at hl 2 rfl) ?_
            obtain ⟨r32, hr32, hR21⟩ := obind hR21
            refine k_Vr X (As := [.int a1]) (rest := [.ref (ad r12)]) (c_X3_courseOf hI hr32) (cwV 1 X.ts gX3_firstToTurn_X3_courseOf rfl rfl rfl (by decide +kernel) ⟨Nat.le_of_ble_eq_true rfl, Nat.le_of_ble_eq_true rfl⟩) ⟨0, 3, _, _, lt_obj, rfl, rfl⟩ rfl hl.1 rfl (Nat.le_of_ble_eq_true rfl) dX3_firstToTurn_32 ?_
            obtain ⟨r35, hr35, hR21⟩ := obind hR21
            refine k_Vz X (As := [.ref (ad r32)]) (rest := []) (c_X0_turnsBefore hI (is_X3_courseOf hr12) (is_X3_courseOf hr32) hr35) (cwV 1 X.ts gX3_firstToTurn_X0_turnsBefore rfl rfl rfl (by decide +kernel) ⟨Nat.le_of_ble_eq_true rfl, Nat.le_of_ble_eq_true rfl⟩) ⟨r12, 0, _, _, co_obj (is_X3_courseOf hr12), rfl, rfl⟩ rfl hl.1 rfl (Nat.le_of_ble_eq_true rfl) dX3_firstToTurn_35 (fun hz35 => ?_)
            refine g_if_eq (tgt := 43) X dX3_firstToTurn_38 (by decide) (fun hc38 => ?_) (fun hc38 => ?_)
            · have hR21 := ite_t hR21 hc38
              have e21 := some_inj hR21
              subst e21
              exact J21 ls (lv_sub hl [1, 2, 3] rfl)
            · have hR21 := ite_f hR21 hc38
              refine g_iload_n X dX3_firstToTurn_41 rfl (lv_at hl 3 rfl) ?_
              refine g_istore_n (lv' := [(1, _), (3, _), (0, _), (2, _)]) X dX3_firstToTurn_42 rfl hl (by decide) rfl (fun ls hl => ?_)
              have e21 := some_inj hR21
              subst e21
              exact J21 ls (lv_sub hl [2, 0, 3] rfl)
def F_X3_firstToTurn (σ : Mem) : Option Int32 := Option.bind (L_X3_firstToTurn_4 σ FU (-1 : Int32) (1 : Int32)) (fun v4 : Int32 => some v4)
set_option maxHeartbeats 4000000 in
set_option maxRecDepth 100000 in
theorem c_X3_firstToTurn {l : Launch} {D : va_G} {ay : Nat → ClassId} {ad : Nat → Nat} {σ : Mem} {res : Int32} (hI : adOK ad) (hF : F_X3_firstToTurn  σ = some res) : Met l yX3_firstToTurn wsX3_firstToTurn ({ frames := 3, cells := 0, slots := 0, locals := 68 } : Room) (va_Pc [.ref (ad 0)] (PP D ay (wC ay ad σ))) (va_Qi (pP res σ) (fun τ => PP D ay (wC ay ad τ)) (AC ad)) 0 0 (AC ad) := by
  refine g_start (wd := wC ay ad) (A := AC ad) (own := RX3) (mL := 4) (rt := (some .int)) (by decide) rfl rfl (Nat.le_of_ble_eq_true rfl) ?_
  intro p e s m below meth c ls X hl
  have hl : lv_has ls 4 [(0, .ref (ad 0))] := hl
  rw [F_X3_firstToTurn] at hF
  refine g_iconst (v := -1) X dX3_firstToTurn_0 (by decide) ?_
  refine g_istore_n (lv' := [(1, _), (0, _)]) X dX3_firstToTurn_1 rfl hl (by decide) rfl (fun ls hl => ?_)
  refine g_iconst (v := 1) X dX3_firstToTurn_2 (by decide) ?_
  refine g_istore_n (lv' := [(2, _), (1, _), (0, _)]) X dX3_firstToTurn_3 rfl hl (by decide) rfl (fun ls hl => ?_)
  obtain ⟨v4, hL4, hF⟩ := obind hF
  refine w_X3_firstToTurn_4 X hI (fun ls hl => ?_) FU (-1 : Int32) (1 : Int32) hL4 ls (lv_sub hl [2, 1, 0] rfl)
  refine g_iload_n X dX3_firstToTurn_49 rfl (lv_at hl 0 rfl) ?_
  exact g_iret X (pP_mk (some_inj hF)) dX3_firstToTurn_50
theorem in_X3_turningWith_X0 : ∀ w ∈ wsX00, w ∈ wsX3_turningWith := by decide +kernel
def L_X3_turningWith_11 (o2 : Nat) (σ : Mem) : Nat → Int32 → Int32 → Option Int32
  | 0, _, _ => none
  | fu + 1, a3, a4 => (if (15 : Int32) < a4 then some a3 else Option.bind (F_X3_courseOf a4 σ) (fun r21 => (Option.bind (if (σ r21 5) ≤ (1 : Int32) then some a3 else Option.bind (F_X0_turnsBefore o2 r21 σ) (fun r38 => (if ¬ r38 = 0 then some a3 else some (a3 + 1)))) (fun v32 : Int32 => L_X3_turningWith_11 o2 σ fu v32 (a4 + 1)))))
set_option maxHeartbeats 4000000 in
set_option maxRecDepth 100000 in
theorem w_X3_turningWith_11 {D : va_G} {ay : Nat → ClassId} {ad : Nat → Nat} {p : Program} {l : Launch} {e : Env} {s : State} {m : MethodId} {args : Array Value} {below : List Frame} {meth : Method} {c : Code} {Q : State → Prop} {o2 : Nat} {σ : Mem} {res : Int32} (X : CX D ay p s m args meth c cX3_turningWith 6 RX3 (some .int) wsX3_turningWith) (hI : adOK ad) (ho2 : IsCo o2) (K : ∀ ls : Array Slot, lv_has ls 6 [(3, .int res)] → GW D (wC ay ad) (AC ad) p l e ({ frames := 3, cells := 0, slots := 0, locals := 68 } : Room) s m args below meth c Q σ (F0 m 53 ls [])) : ∀ (fu : Nat) (a3 : Int32) (a4 : Int32), L_X3_turningWith_11 o2 σ fu a3 a4 = some res → ∀ ls : Array Slot, lv_has ls 6 [(0, .ref (ad 0)), (2, .ref (ad o2)), (3, .int a3), (4, .int a4)] → GW D (wC ay ad) (AC ad) p l e ({ frames := 3, cells := 0, slots := 0, locals := 68 } : Room) s m args below meth c Q σ (F0 m 11 ls []) := by
  intro fu
  induction fu with
  | zero =>
    intro a3 a4 hF ls hl
    rw [L_X3_turningWith_11] at hF
    cases hF
  | succ fu ih =>
    intro a3 a4 hF ls hl
    rw [L_X3_turningWith_11] at hF
    refine g_iload X dX3_turningWith_11 (lv_at hl 3 rfl) ?_
    refine g_bipush (v := 15) X dX3_turningWith_13 (by decide) ?_
    refine g_icmp_gt (tgt := 53) X dX3_turningWith_15 (by decide) (fun hc15 => ?_) (fun hc15 => ?_)
    · have hF := ite_t hF hc15
      have e11 := some_inj hF
      subst e11
      exact K ls (lv_sub hl [2] rfl)
    · have hF := ite_f hF hc15
      refine g_aload_n X dX3_turningWith_18 rfl (lv_at hl 0 rfl) ?_
      refine g_iload X dX3_turningWith_19 (lv_at hl 3 rfl) ?_
      obtain ⟨r21, hr21, hF⟩ := obind hF
      refine k_Vr X (As := [.int a4]) (rest := []) (c_X3_courseOf hI hr21) (cwV 1 X.ts gX3_turningWith_X3_courseOf rfl rfl rfl (by decide +kernel) ⟨Nat.le_of_ble_eq_true rfl, Nat.le_of_ble_eq_true rfl⟩) ⟨0, 3, _, _, lt_obj, rfl, rfl⟩ rfl hl.1 rfl (Nat.le_of_ble_eq_true rfl) dX3_turningWith_21 ?_
      refine g_astore (lv' := [(5, _), (0, _), (2, _), (3, _), (4, _)]) X dX3_turningWith_24 hl (by decide) rfl (fun ls hl => ?_)
      refine g_aload X dX3_turningWith_26 (lv_at hl 0 rfl) ?_
      refine g_get X r21 (co_obj (is_X3_courseOf hr21)) in_X3_turningWith_X0 rfl 5 (by decide) (X.ts (.fieldLink RX3 244 "LeadTimes$Course" "size" "I") (by decide +kernel)) rfl rfl dX3_turningWith_28 ?_
      refine g_iconst (v := 1) X dX3_turningWith_31 (by decide) ?_
      obtain ⟨v32, hR32, hF⟩ := obind hF
      refine g_cut (nM := 6) [(0, .ref (ad 0)), (2, .ref (ad o2)), (3, .int v32), (4, .int a4)] (σ) 47 [] (fun ls hl => ?_) (fun J32 => ?_)
      · refine g_iinc (v := a4 + 1) (lv' := [(4, _), (0, _), (2, _), (3, _)]) X dX3_turningWith_47 hl (k := 3) rfl rfl (by decide) rfl (fun ls hl => ?_)
        refine g_goto (tgt := 11) X dX3_turningWith_50 (by decide) ?_
        exact ih v32 (a4 + 1) hF ls (lv_sub hl [1, 2, 3, 0] rfl)
      · refine g_icmp_le (tgt := 47) X dX3_turningWith_32 (by decide) (fun hc32 => ?_) (fun hc32 => ?_)
        · have hR32 := ite_t hR32 hc32
          have e32 := some_inj hR32
          subst e32
          exact J32 ls (lv_sub hl [1, 2, 3, 4] rfl)
        · have hR32 := ite_f hR32 hc32
          refine g_aload_n X dX3_turningWith_35 rfl (lv_at hl 2 rfl) ?_
          refine g_aload X dX3_turningWith_36 (lv_at hl 0 rfl) ?_
          obtain ⟨r38, hr38, hR32⟩ := obind hR32
          refine k_Vz X (As := [.ref (ad r21)]) (rest := []) (c_X0_turnsBefore hI ho2 (is_X3_courseOf hr21) hr38) (cwV 1 X.ts gX3_turningWith_X0_turnsBefore rfl rfl rfl (by decide +kernel) ⟨Nat.le_of_ble_eq_true rfl, Nat.le_of_ble_eq_true rfl⟩) ⟨o2, 0, _, _, co_obj ho2, rfl, rfl⟩ rfl hl.1 rfl (Nat.le_of_ble_eq_true rfl) dX3_turningWith_38 (fun hz38 => ?_)
          refine g_if_ne (tgt := 47) X dX3_turningWith_41 (by decide) (fun hc41 => ?_) (fun hc41 => ?_)
          · have hR32 := ite_t hR32 hc41
            have e32 := some_inj hR32
            subst e32
            exact J32 ls (lv_sub hl [1, 2, 3, 4] rfl)
          · have hR32 := ite_n hR32 hc41
            refine g_iinc (v := a3 + 1) (lv' := [(3, _), (5, _), (0, _), (2, _), (4, _)]) X dX3_turningWith_44 hl (k := 3) rfl rfl (by decide) rfl (fun ls hl => ?_)
            have e32 := some_inj hR32
            subst e32
            exact J32 ls (lv_sub hl [2, 3, 0, 4] rfl)
def F_X3_turningWith (a1 : Int32) (σ : Mem) : Option Int32 := Option.bind (F_X3_courseOf a1 σ) (fun r2 => Option.bind (L_X3_turningWith_11 r2 σ FU (0 : Int32) (1 : Int32)) (fun v11 : Int32 => some v11))
set_option maxHeartbeats 4000000 in
set_option maxRecDepth 100000 in
theorem c_X3_turningWith {l : Launch} {D : va_G} {ay : Nat → ClassId} {ad : Nat → Nat} {a1 : Int32} {σ : Mem} {res : Int32} (hI : adOK ad) (hF : F_X3_turningWith a1 σ = some res) : Met l yX3_turningWith wsX3_turningWith ({ frames := 3, cells := 0, slots := 0, locals := 68 } : Room) (va_Pc [.ref (ad 0), .int a1] (PP D ay (wC ay ad σ))) (va_Qi (pP res σ) (fun τ => PP D ay (wC ay ad τ)) (AC ad)) 0 0 (AC ad) := by
  refine g_start (wd := wC ay ad) (A := AC ad) (own := RX3) (mL := 6) (rt := (some .int)) (by decide) rfl rfl (Nat.le_of_ble_eq_true rfl) ?_
  intro p e s m below meth c ls X hl
  have hl : lv_has ls 6 [(0, .ref (ad 0)), (1, .int a1)] := hl
  rw [F_X3_turningWith] at hF
  refine g_aload_n X dX3_turningWith_0 rfl (lv_at hl 0 rfl) ?_
  refine g_iload_n X dX3_turningWith_1 rfl (lv_at hl 1 rfl) ?_
  obtain ⟨r2, hr2, hF⟩ := obind hF
  refine k_Vr X (As := [.int a1]) (rest := []) (c_X3_courseOf hI hr2) (cwV 1 X.ts gX3_turningWith_X3_courseOf rfl rfl rfl (by decide +kernel) ⟨Nat.le_of_ble_eq_true rfl, Nat.le_of_ble_eq_true rfl⟩) ⟨0, 3, _, _, lt_obj, rfl, rfl⟩ rfl hl.1 rfl (Nat.le_of_ble_eq_true rfl) dX3_turningWith_2 ?_
  refine g_astore_n (lv' := [(2, _), (0, _), (1, _)]) X dX3_turningWith_5 rfl hl (by decide) rfl (fun ls hl => ?_)
  refine g_iconst (v := 0) X dX3_turningWith_6 (by decide) ?_
  refine g_istore_n (lv' := [(3, _), (2, _), (0, _), (1, _)]) X dX3_turningWith_7 rfl hl (by decide) rfl (fun ls hl => ?_)
  refine g_iconst (v := 1) X dX3_turningWith_8 (by decide) ?_
  refine g_istore (lv' := [(4, _), (3, _), (2, _), (0, _), (1, _)]) X dX3_turningWith_9 hl (by decide) rfl (fun ls hl => ?_)
  obtain ⟨v11, hL11, hF⟩ := obind hF
  refine w_X3_turningWith_11 X hI (is_X3_courseOf hr2) (fun ls hl => ?_) FU (0 : Int32) (1 : Int32) hL11 ls (lv_sub hl [3, 2, 1, 0] rfl)
  refine g_iload_n X dX3_turningWith_53 rfl (lv_at hl 0 rfl) ?_
  exact g_iret X (pP_mk (some_inj hF)) dX3_turningWith_54
theorem in_X3_nextTurn_X1 : ∀ w ∈ wsX10, w ∈ wsX3_nextTurn := by decide +kernel
theorem in_X3_nextTurn_X3 : ∀ w ∈ wsX30, w ∈ wsX3_nextTurn := by decide +kernel
def F_X3_nextTurn (a1 : Int32) (σ : Mem) : Option (Nat ⊕ Int32) := Option.bind (F_X3_firstToTurn σ) (fun r1 => (if a1 = 0 then inR ((if ¬ r1 = (-1 : Int32) then Option.bind (F_X3_courseOf r1 σ) (fun r47 => Option.bind (F_X0_numerator r47 (1 : Int32) (σ 6 5) σ) (fun r58 => some r58)) else some (0 : Int32))) else (if a1 = 1 then inR ((if ¬ r1 = (-1 : Int32) then Option.bind (F_X3_courseOf r1 σ) (fun r73 => Option.bind (F_X0_denominator r73 (1 : Int32) σ) (fun r77 => some r77)) else some (0 : Int32))) else (if a1 = 2 then inR ((if ¬ r1 = (-1 : Int32) then Option.bind (F_X3_turningWith r1 σ) (fun r92 => some r92) else some (0 : Int32))) else (if a1 = 3 then inR (some r1) else some (Sum.inl 0))))))
set_option maxHeartbeats 4000000 in
set_option maxRecDepth 100000 in
theorem c_X3_nextTurn {l : Launch} {D : va_G} {ay : Nat → ClassId} {ad : Nat → Nat} {a1 : Int32} {σ : Mem} {res : Int32} (hI : adOK ad) (hF : F_X3_nextTurn a1 σ = some (Sum.inr res)) : Met l yX3_nextTurn wsX3_nextTurn ({ frames := 4, cells := 0, slots := 0, locals := 93 } : Room) (va_Pc [.ref (ad 0), .int a1] (PP D ay (wC ay ad σ))) (va_Qi (pP res σ) (fun τ => PP D ay (wC ay ad τ)) (AC ad)) 0 0 (AC ad) := by
  refine g_start (wd := wC ay ad) (A := AC ad) (own := RX3) (mL := 3) (rt := (some .int)) (by decide) rfl rfl (Nat.le_of_ble_eq_true rfl) ?_
  intro p e s m below meth c ls X hl
  have hl : lv_has ls 3 [(0, .ref (ad 0)), (1, .int a1)] := hl
  rw [F_X3_nextTurn] at hF
  refine g_aload_n X dX3_nextTurn_0 rfl (lv_at hl 0 rfl) ?_
  obtain ⟨r1, hr1, hF⟩ := obind hF
  refine k_Vi X (As := []) (rest := []) (c_X3_firstToTurn hI hr1) (cwV 0 X.ts gX3_nextTurn_X3_firstToTurn rfl rfl rfl (by decide +kernel) ⟨Nat.le_of_ble_eq_true rfl, Nat.le_of_ble_eq_true rfl⟩) ⟨0, 3, _, _, lt_obj, rfl, rfl⟩ rfl hl.1 rfl (Nat.le_of_ble_eq_true rfl) dX3_nextTurn_1 ?_
  refine g_istore_n (lv' := [(2, _), (0, _), (1, _)]) X dX3_nextTurn_4 rfl hl (by decide) rfl (fun ls hl => ?_)
  refine g_iload_n X dX3_nextTurn_5 rfl (lv_at hl 2 rfl) ?_
  by_cases hc6_0 : a1 = 0
  · have hF := ite_t hF hc6_0
    refine g_tableIn (tgt := 36) X dX3_nextTurn_6 (by rw [hc6_0]; decide) (by rw [hc6_0]; decide) (by rw [hc6_0]; rfl) (by decide) ?_
    have hF := inR_some hF
    refine g_iload_n X dX3_nextTurn_36 rfl (lv_at hl 0 rfl) ?_
    refine g_iconst (v := -1) X dX3_nextTurn_37 (by decide) ?_
    refine g_icmp_ne (tgt := 45) X dX3_nextTurn_38 (by decide) (fun hc38 => ?_) (fun hc38 => ?_)
    · have hF := ite_t hF hc38
      refine g_aload_n X dX3_nextTurn_45 rfl (lv_at hl 1 rfl) ?_
      refine g_iload_n X dX3_nextTurn_46 rfl (lv_at hl 0 rfl) ?_
      obtain ⟨r47, hr47, hF⟩ := obind hF
      refine k_Vr X (As := [.int r1]) (rest := []) (c_X3_courseOf hI hr47) (cwV 1 X.ts gX3_nextTurn_X3_courseOf rfl rfl rfl (by decide +kernel) ⟨Nat.le_of_ble_eq_true rfl, Nat.le_of_ble_eq_true rfl⟩) ⟨0, 3, _, _, lt_obj, rfl, rfl⟩ rfl hl.1 rfl (Nat.le_of_ble_eq_true rfl) dX3_nextTurn_47 ?_
      refine g_iconst (v := 1) X dX3_nextTurn_50 (by decide) ?_
      refine g_aload_n X dX3_nextTurn_51 rfl (lv_at hl 1 rfl) ?_
      refine g_get X 0 (lt_obj) in_X3_nextTurn_X3 rfl 0 (by decide) (X.ts (.fieldLink RX3 12 "LeadTimes" "now" "LLeadTimes$State;") (by decide +kernel)) rfl rfl dX3_nextTurn_52 ?_
      refine g_get X 6 (st_obj isSt6) in_X3_nextTurn_X1 rfl 5 (by decide) (X.ts (.fieldLink RX3 129 "LeadTimes$State" "time" "I") (by decide +kernel)) rfl rfl dX3_nextTurn_55 ?_
      obtain ⟨r58, hr58, hF⟩ := obind hF
      refine k_Vi X (As := [.int (1 : Int32), .int (σ 6 5)]) (rest := []) (c_X0_numerator hI (is_X3_courseOf hr47) hr58) (cwV 2 X.ts gX3_nextTurn_X0_numerator rfl rfl rfl (by decide +kernel) ⟨Nat.le_of_ble_eq_true rfl, Nat.le_of_ble_eq_true rfl⟩) ⟨r47, 0, _, _, co_obj (is_X3_courseOf hr47), rfl, rfl⟩ rfl hl.1 rfl (Nat.le_of_ble_eq_true rfl) dX3_nextTurn_58 ?_
      exact g_iret X (pP_mk (some_inj hF)) dX3_nextTurn_61
    · have hF := ite_n hF hc38
      refine g_iconst (v := 0) X dX3_nextTurn_41 (by decide) ?_
      refine g_goto (tgt := 61) X dX3_nextTurn_42 (by decide) ?_
      exact g_iret X (pP_mk (some_inj hF)) dX3_nextTurn_61
  have hF := ite_f hF hc6_0
  by_cases hc6_1 : a1 = 1
  · have hF := ite_t hF hc6_1
    refine g_tableIn (tgt := 62) X dX3_nextTurn_6 (by rw [hc6_1]; decide) (by rw [hc6_1]; decide) (by rw [hc6_1]; rfl) (by decide) ?_
    have hF := inR_some hF
    refine g_iload_n X dX3_nextTurn_62 rfl (lv_at hl 0 rfl) ?_
    refine g_iconst (v := -1) X dX3_nextTurn_63 (by decide) ?_
    refine g_icmp_ne (tgt := 71) X dX3_nextTurn_64 (by decide) (fun hc64 => ?_) (fun hc64 => ?_)
    · have hF := ite_t hF hc64
      refine g_aload_n X dX3_nextTurn_71 rfl (lv_at hl 1 rfl) ?_
      refine g_iload_n X dX3_nextTurn_72 rfl (lv_at hl 0 rfl) ?_
      obtain ⟨r73, hr73, hF⟩ := obind hF
      refine k_Vr X (As := [.int r1]) (rest := []) (c_X3_courseOf hI hr73) (cwV 1 X.ts gX3_nextTurn_X3_courseOf rfl rfl rfl (by decide +kernel) ⟨Nat.le_of_ble_eq_true rfl, Nat.le_of_ble_eq_true rfl⟩) ⟨0, 3, _, _, lt_obj, rfl, rfl⟩ rfl hl.1 rfl (Nat.le_of_ble_eq_true rfl) dX3_nextTurn_73 ?_
      refine g_iconst (v := 1) X dX3_nextTurn_76 (by decide) ?_
      obtain ⟨r77, hr77, hF⟩ := obind hF
      refine k_Vi X (As := [.int (1 : Int32)]) (rest := []) (c_X0_denominator hI (is_X3_courseOf hr73) hr77) (cwV 1 X.ts gX3_nextTurn_X0_denominator rfl rfl rfl (by decide +kernel) ⟨Nat.le_of_ble_eq_true rfl, Nat.le_of_ble_eq_true rfl⟩) ⟨r73, 0, _, _, co_obj (is_X3_courseOf hr73), rfl, rfl⟩ rfl hl.1 rfl (Nat.le_of_ble_eq_true rfl) dX3_nextTurn_77 ?_
      exact g_iret X (pP_mk (some_inj hF)) dX3_nextTurn_80
    · have hF := ite_n hF hc64
      refine g_iconst (v := 0) X dX3_nextTurn_67 (by decide) ?_
      refine g_goto (tgt := 80) X dX3_nextTurn_68 (by decide) ?_
      exact g_iret X (pP_mk (some_inj hF)) dX3_nextTurn_80
  have hF := ite_f hF hc6_1
  by_cases hc6_2 : a1 = 2
  · have hF := ite_t hF hc6_2
    refine g_tableIn (tgt := 81) X dX3_nextTurn_6 (by rw [hc6_2]; decide) (by rw [hc6_2]; decide) (by rw [hc6_2]; rfl) (by decide) ?_
    have hF := inR_some hF
    refine g_iload_n X dX3_nextTurn_81 rfl (lv_at hl 0 rfl) ?_
    refine g_iconst (v := -1) X dX3_nextTurn_82 (by decide) ?_
    refine g_icmp_ne (tgt := 90) X dX3_nextTurn_83 (by decide) (fun hc83 => ?_) (fun hc83 => ?_)
    · have hF := ite_t hF hc83
      refine g_aload_n X dX3_nextTurn_90 rfl (lv_at hl 1 rfl) ?_
      refine g_iload_n X dX3_nextTurn_91 rfl (lv_at hl 0 rfl) ?_
      obtain ⟨r92, hr92, hF⟩ := obind hF
      refine k_Vi X (As := [.int r1]) (rest := []) (c_X3_turningWith hI hr92) (cwV 1 X.ts gX3_nextTurn_X3_turningWith rfl rfl rfl (by decide +kernel) ⟨Nat.le_of_ble_eq_true rfl, Nat.le_of_ble_eq_true rfl⟩) ⟨0, 3, _, _, lt_obj, rfl, rfl⟩ rfl hl.1 rfl (Nat.le_of_ble_eq_true rfl) dX3_nextTurn_92 ?_
      exact g_iret X (pP_mk (some_inj hF)) dX3_nextTurn_95
    · have hF := ite_n hF hc83
      refine g_iconst (v := 0) X dX3_nextTurn_86 (by decide) ?_
      refine g_goto (tgt := 95) X dX3_nextTurn_87 (by decide) ?_
      exact g_iret X (pP_mk (some_inj hF)) dX3_nextTurn_95
  have hF := ite_f hF hc6_2
  by_cases hc6_3 : a1 = 3
  · have hF := ite_t hF hc6_3
    refine g_tableIn (tgt := 96) X dX3_nextTurn_6 (by rw [hc6_3]; decide) (by rw [hc6_3]; decide) (by rw [hc6_3]; rfl) (by decide) ?_
    have hF := inR_some hF
    refine g_iload_n X dX3_nextTurn_96 rfl (lv_at hl 0 rfl) ?_
    exact g_iret X (pP_mk (some_inj hF)) dX3_nextTurn_97
  have hF := ite_f hF hc6_3
  refine g_tableOut (tgt := 98) X dX3_nextTurn_6 (tb_out3 hc6_0 hc6_1 hc6_2 hc6_3) (by decide) ?_
  exact (inl_inr hF).elim
theorem in_X3_span_X0 : ∀ w ∈ wsX00, w ∈ wsX3_span := by decide +kernel
theorem in_X3_span_X1 : ∀ w ∈ wsX10, w ∈ wsX3_span := by decide +kernel
theorem in_X3_span_X3 : ∀ w ∈ wsX30, w ∈ wsX3_span := by decide +kernel
def F_X3_span (a1 : Int32) (a2 : Int32) (σ : Mem) : Option (Nat ⊕ Int32) := (if a1 < 0 then some (Sum.inl 0) else Option.bind (F_X3_isWithin a2 (0 : Int32) (2 : Int32)) (fun r7 => (if ¬ r7 = 0 then inR ((if a1 < (σ 48 5) then (if ¬ a2 = 0 then (if ¬ a2 = (1 : Int32) then Option.bind (F_X0_denominator 48 a1 σ) (fun r77 => some r77) else Option.bind (F_X0_numerator 48 a1 (σ 6 5) σ) (fun r66 => some r66)) else Option.bind (F_X0_winnerIn 48 a1 σ) (fun r45 => some r45)) else some (-1 : Int32))) else some (Sum.inl 0))))
set_option maxHeartbeats 4000000 in
set_option maxRecDepth 100000 in
theorem c_X3_span {l : Launch} {D : va_G} {ay : Nat → ClassId} {ad : Nat → Nat} {a1 : Int32} {a2 : Int32} {σ : Mem} {res : Int32} (hI : adOK ad) (hF : F_X3_span a1 a2 σ = some (Sum.inr res)) : Met l yX3_span wsX3_span ({ frames := 2, cells := 0, slots := 0, locals := 43 } : Room) (va_Pc [.ref (ad 0), .int a1, .int a2] (PP D ay (wC ay ad σ))) (va_Qi (pP res σ) (fun τ => PP D ay (wC ay ad τ)) (AC ad)) 0 0 (AC ad) := by
  refine g_start (wd := wC ay ad) (A := AC ad) (own := RX3) (mL := 3) (rt := (some .int)) (by decide) rfl rfl (Nat.le_of_ble_eq_true rfl) ?_
  intro p e s m below meth c ls X hl
  have hl : lv_has ls 3 [(0, .ref (ad 0)), (1, .int a1), (2, .int a2)] := hl
  rw [F_X3_span] at hF
  refine g_iload_n X dX3_span_0 rfl (lv_at hl 1 rfl) ?_
  refine g_if_lt (tgt := 13) X dX3_span_1 (by decide) (fun hc1 => ?_) (fun hc1 => ?_)
  · have hF := ite_t hF hc1
    exact (inl_inr hF).elim
  · have hF := ite_f hF hc1
    refine g_iload_n X dX3_span_4 rfl (lv_at hl 2 rfl) ?_
    refine g_iconst (v := 0) X dX3_span_5 (by decide) ?_
    refine g_iconst (v := 2) X dX3_span_6 (by decide) ?_
    obtain ⟨r7, hr7, hF⟩ := obind hF
    refine k_Sz X (As := [.int a2, .int (0 : Int32), .int (2 : Int32)]) (rest := []) (c_X3_isWithin hI hr7) (va_cwS 3 X.ts gX3_span_X3_isWithin rfl rfl rfl (by decide +kernel) ⟨Nat.le_of_ble_eq_true rfl, Nat.le_of_ble_eq_true rfl⟩) rfl hl.1 rfl (Nat.le_of_ble_eq_true rfl) dX3_span_7 (fun hz7 => ?_)
    refine g_if_ne (tgt := 23) X dX3_span_10 (by decide) (fun hc10 => ?_) (fun hc10 => ?_)
    · have hF := ite_t hF hc10
      have hF := inR_some hF
      refine g_iload_n X dX3_span_23 rfl (lv_at hl 1 rfl) ?_
      refine g_aload_n X dX3_span_24 rfl (lv_at hl 0 rfl) ?_
      refine g_get X 0 (lt_obj) in_X3_span_X3 rfl 4 (by decide) (X.ts (.fieldLink RX3 32 "LeadTimes" "leading" "LLeadTimes$Course;") (by decide +kernel)) rfl rfl dX3_span_25 ?_
      refine g_get X 48 (co_obj isCo48) in_X3_span_X0 rfl 5 (by decide) (X.ts (.fieldLink RX3 244 "LeadTimes$Course" "size" "I") (by decide +kernel)) rfl rfl dX3_span_28 ?_
      refine g_icmp_lt (tgt := 36) X dX3_span_31 (by decide) (fun hc31 => ?_) (fun hc31 => ?_)
      · have hF := ite_t hF hc31
        refine g_iload_n X dX3_span_36 rfl (lv_at hl 2 rfl) ?_
        refine g_if_ne (tgt := 49) X dX3_span_37 (by decide) (fun hc37 => ?_) (fun hc37 => ?_)
        · have hF := ite_t hF hc37
          refine g_iload_n X dX3_span_49 rfl (lv_at hl 2 rfl) ?_
          refine g_iconst (v := 1) X dX3_span_50 (by decide) ?_
          refine g_icmp_ne (tgt := 72) X dX3_span_51 (by decide) (fun hc51 => ?_) (fun hc51 => ?_)
          · have hF := ite_t hF hc51
            refine g_aload_n X dX3_span_72 rfl (lv_at hl 0 rfl) ?_
            refine g_get X 0 (lt_obj) in_X3_span_X3 rfl 4 (by decide) (X.ts (.fieldLink RX3 32 "LeadTimes" "leading" "LLeadTimes$Course;") (by decide +kernel)) rfl rfl dX3_span_73 ?_
            refine g_iload_n X dX3_span_76 rfl (lv_at hl 1 rfl) ?_
            obtain ⟨r77, hr77, hF⟩ := obind hF
            refine k_Vi X (As := [.int a1]) (rest := []) (c_X0_denominator hI isCo48 hr77) (cwV 1 X.ts gX3_span_X0_denominator rfl rfl rfl (by decide +kernel) ⟨Nat.le_of_ble_eq_true rfl, Nat.le_of_ble_eq_true rfl⟩) ⟨48, 0, _, _, co_obj isCo48, rfl, rfl⟩ rfl hl.1 rfl (Nat.le_of_ble_eq_true rfl) dX3_span_77 ?_
            exact g_iret X (pP_mk (some_inj hF)) dX3_span_80
          · have hF := ite_n hF hc51
            refine g_aload_n X dX3_span_54 rfl (lv_at hl 0 rfl) ?_
            refine g_get X 0 (lt_obj) in_X3_span_X3 rfl 4 (by decide) (X.ts (.fieldLink RX3 32 "LeadTimes" "leading" "LLeadTimes$Course;") (by decide +kernel)) rfl rfl dX3_span_55 ?_
            refine g_iload_n X dX3_span_58 rfl (lv_at hl 1 rfl) ?_
            refine g_aload_n X dX3_span_59 rfl (lv_at hl 0 rfl) ?_
            refine g_get X 0 (lt_obj) in_X3_span_X3 rfl 0 (by decide) (X.ts (.fieldLink RX3 12 "LeadTimes" "now" "LLeadTimes$State;") (by decide +kernel)) rfl rfl dX3_span_60 ?_
            refine g_get X 6 (st_obj isSt6) in_X3_span_X1 rfl 5 (by decide) (X.ts (.fieldLink RX3 129 "LeadTimes$State" "time" "I") (by decide +kernel)) rfl rfl dX3_span_63 ?_
            obtain ⟨r66, hr66, hF⟩ := obind hF
            refine k_Vi X (As := [.int a1, .int (σ 6 5)]) (rest := []) (c_X0_numerator hI isCo48 hr66) (cwV 2 X.ts gX3_span_X0_numerator rfl rfl rfl (by decide +kernel) ⟨Nat.le_of_ble_eq_true rfl, Nat.le_of_ble_eq_true rfl⟩) ⟨48, 0, _, _, co_obj isCo48, rfl, rfl⟩ rfl hl.1 rfl (Nat.le_of_ble_eq_true rfl) dX3_span_66 ?_
            refine g_goto (tgt := 80) X dX3_span_69 (by decide) ?_
            exact g_iret X (pP_mk (some_inj hF)) dX3_span_80
        · have hF := ite_n hF hc37
          refine g_aload_n X dX3_span_40 rfl (lv_at hl 0 rfl) ?_
          refine g_get X 0 (lt_obj) in_X3_span_X3 rfl 4 (by decide) (X.ts (.fieldLink RX3 32 "LeadTimes" "leading" "LLeadTimes$Course;") (by decide +kernel)) rfl rfl dX3_span_41 ?_
          refine g_iload_n X dX3_span_44 rfl (lv_at hl 1 rfl) ?_
          obtain ⟨r45, hr45, hF⟩ := obind hF
          refine k_Vi X (As := [.int a1]) (rest := []) (c_X0_winnerIn hI isCo48 hr45) (cwV 1 X.ts gX3_span_X0_winnerIn rfl rfl rfl (by decide +kernel) ⟨Nat.le_of_ble_eq_true rfl, Nat.le_of_ble_eq_true rfl⟩) ⟨48, 0, _, _, co_obj isCo48, rfl, rfl⟩ rfl hl.1 rfl (Nat.le_of_ble_eq_true rfl) dX3_span_45 ?_
          exact g_iret X (pP_mk (some_inj hF)) dX3_span_48
      · have hF := ite_f hF hc31
        refine g_iconst (v := -1) X dX3_span_34 (by decide) ?_
        exact g_iret X (pP_mk (some_inj hF)) dX3_span_35
    · have hF := ite_n hF hc10
      exact (inl_inr hF).elim
theorem in_X3_count_X0 : ∀ w ∈ wsX00, w ∈ wsX3_count := by decide +kernel
theorem in_X3_count_X1 : ∀ w ∈ wsX10, w ∈ wsX3_count := by decide +kernel
theorem in_X3_count_X3 : ∀ w ∈ wsX30, w ∈ wsX3_count := by decide +kernel
def F_X3_count (a1 : Int32) (σ : Mem) : Option (Nat ⊕ Int32) := (if a1 = 0 then inR (some (σ 6 5)) else (if a1 = 1 then inR (Option.bind (F_X1_moverCount 6 σ) (fun r56 => some r56)) else (if a1 = 2 then inR (some (σ 48 5)) else (if a1 = 3 then inR (Option.bind (F_X1_allTurned 6 σ) (fun r72 => some r72)) else (if a1 = 4 then inR (Option.bind (F_X1_turnedOf 6 (1 : Int32) σ) (fun r81 => some r81)) else (if a1 = 5 then inR (Option.bind (F_X1_moverCount 6 σ) (fun r89 => some (r89 - (σ 48 5)))) else (if a1 = 6 then inR (some (σ 0 3)) else some (Sum.inl 0))))))))
set_option maxHeartbeats 4000000 in
set_option maxRecDepth 100000 in
theorem c_X3_count {l : Launch} {D : va_G} {ay : Nat → ClassId} {ad : Nat → Nat} {a1 : Int32} {σ : Mem} {res : Int32} (hI : adOK ad) (hF : F_X3_count a1 σ = some (Sum.inr res)) : Met l yX3_count wsX3_count ({ frames := 2, cells := 0, slots := 0, locals := 43 } : Room) (va_Pc [.ref (ad 0), .int a1] (PP D ay (wC ay ad σ))) (va_Qi (pP res σ) (fun τ => PP D ay (wC ay ad τ)) (AC ad)) 0 0 (AC ad) := by
  refine g_start (wd := wC ay ad) (A := AC ad) (own := RX3) (mL := 2) (rt := (some .int)) (by decide) rfl rfl (Nat.le_of_ble_eq_true rfl) ?_
  intro p e s m below meth c ls X hl
  have hl : lv_has ls 2 [(0, .ref (ad 0)), (1, .int a1)] := hl
  rw [F_X3_count] at hF
  refine g_iload_n X dX3_count_0 rfl (lv_at hl 1 rfl) ?_
  by_cases hc1_0 : a1 = 0
  · have hF := ite_t hF hc1_0
    refine g_tableIn (tgt := 44) X dX3_count_1 (by rw [hc1_0]; decide) (by rw [hc1_0]; decide) (by rw [hc1_0]; rfl) (by decide) ?_
    have hF := inR_some hF
    refine g_aload_n X dX3_count_44 rfl (lv_at hl 0 rfl) ?_
    refine g_get X 0 (lt_obj) in_X3_count_X3 rfl 0 (by decide) (X.ts (.fieldLink RX3 12 "LeadTimes" "now" "LLeadTimes$State;") (by decide +kernel)) rfl rfl dX3_count_45 ?_
    refine g_get X 6 (st_obj isSt6) in_X3_count_X1 rfl 5 (by decide) (X.ts (.fieldLink RX3 129 "LeadTimes$State" "time" "I") (by decide +kernel)) rfl rfl dX3_count_48 ?_
    exact g_iret X (pP_mk (some_inj hF)) dX3_count_51
  have hF := ite_f hF hc1_0
  by_cases hc1_1 : a1 = 1
  · have hF := ite_t hF hc1_1
    refine g_tableIn (tgt := 52) X dX3_count_1 (by rw [hc1_1]; decide) (by rw [hc1_1]; decide) (by rw [hc1_1]; rfl) (by decide) ?_
    have hF := inR_some hF
    refine g_aload_n X dX3_count_52 rfl (lv_at hl 0 rfl) ?_
    refine g_get X 0 (lt_obj) in_X3_count_X3 rfl 0 (by decide) (X.ts (.fieldLink RX3 12 "LeadTimes" "now" "LLeadTimes$State;") (by decide +kernel)) rfl rfl dX3_count_53 ?_
    obtain ⟨r56, hr56, hF⟩ := obind hF
    refine k_Vi X (As := []) (rest := []) (c_X1_moverCount hI isSt6 hr56) (cwV 0 X.ts gX3_count_X1_moverCount rfl rfl rfl (by decide +kernel) ⟨Nat.le_of_ble_eq_true rfl, Nat.le_of_ble_eq_true rfl⟩) ⟨6, 1, _, _, st_obj isSt6, rfl, rfl⟩ rfl hl.1 rfl (Nat.le_of_ble_eq_true rfl) dX3_count_56 ?_
    exact g_iret X (pP_mk (some_inj hF)) dX3_count_59
  have hF := ite_f hF hc1_1
  by_cases hc1_2 : a1 = 2
  · have hF := ite_t hF hc1_2
    refine g_tableIn (tgt := 60) X dX3_count_1 (by rw [hc1_2]; decide) (by rw [hc1_2]; decide) (by rw [hc1_2]; rfl) (by decide) ?_
    have hF := inR_some hF
    refine g_aload_n X dX3_count_60 rfl (lv_at hl 0 rfl) ?_
    refine g_get X 0 (lt_obj) in_X3_count_X3 rfl 4 (by decide) (X.ts (.fieldLink RX3 32 "LeadTimes" "leading" "LLeadTimes$Course;") (by decide +kernel)) rfl rfl dX3_count_61 ?_
    refine g_get X 48 (co_obj isCo48) in_X3_count_X0 rfl 5 (by decide) (X.ts (.fieldLink RX3 244 "LeadTimes$Course" "size" "I") (by decide +kernel)) rfl rfl dX3_count_64 ?_
    exact g_iret X (pP_mk (some_inj hF)) dX3_count_67
  have hF := ite_f hF hc1_2
  by_cases hc1_3 : a1 = 3
  · have hF := ite_t hF hc1_3
    refine g_tableIn (tgt := 68) X dX3_count_1 (by rw [hc1_3]; decide) (by rw [hc1_3]; decide) (by rw [hc1_3]; rfl) (by decide) ?_
    have hF := inR_some hF
    refine g_aload_n X dX3_count_68 rfl (lv_at hl 0 rfl) ?_
    refine g_get X 0 (lt_obj) in_X3_count_X3 rfl 0 (by decide) (X.ts (.fieldLink RX3 12 "LeadTimes" "now" "LLeadTimes$State;") (by decide +kernel)) rfl rfl dX3_count_69 ?_
    obtain ⟨r72, hr72, hF⟩ := obind hF
    refine k_Vi X (As := []) (rest := []) (c_X1_allTurned hI isSt6 hr72) (cwV 0 X.ts gX3_count_X1_allTurned rfl rfl rfl (by decide +kernel) ⟨Nat.le_of_ble_eq_true rfl, Nat.le_of_ble_eq_true rfl⟩) ⟨6, 1, _, _, st_obj isSt6, rfl, rfl⟩ rfl hl.1 rfl (Nat.le_of_ble_eq_true rfl) dX3_count_72 ?_
    exact g_iret X (pP_mk (some_inj hF)) dX3_count_75
  have hF := ite_f hF hc1_3
  by_cases hc1_4 : a1 = 4
  · have hF := ite_t hF hc1_4
    refine g_tableIn (tgt := 76) X dX3_count_1 (by rw [hc1_4]; decide) (by rw [hc1_4]; decide) (by rw [hc1_4]; rfl) (by decide) ?_
    have hF := inR_some hF
    refine g_aload_n X dX3_count_76 rfl (lv_at hl 0 rfl) ?_
    refine g_get X 0 (lt_obj) in_X3_count_X3 rfl 0 (by decide) (X.ts (.fieldLink RX3 12 "LeadTimes" "now" "LLeadTimes$State;") (by decide +kernel)) rfl rfl dX3_count_77 ?_
    refine g_iconst (v := 1) X dX3_count_80 (by decide) ?_
    obtain ⟨r81, hr81, hF⟩ := obind hF
    refine k_Vi X (As := [.int (1 : Int32)]) (rest := []) (c_X1_turnedOf hI isSt6 hr81) (cwV 1 X.ts gX3_count_X1_turnedOf rfl rfl rfl (by decide +kernel) ⟨Nat.le_of_ble_eq_true rfl, Nat.le_of_ble_eq_true rfl⟩) ⟨6, 1, _, _, st_obj isSt6, rfl, rfl⟩ rfl hl.1 rfl (Nat.le_of_ble_eq_true rfl) dX3_count_81 ?_
    exact g_iret X (pP_mk (some_inj hF)) dX3_count_84
  have hF := ite_f hF hc1_4
  by_cases hc1_5 : a1 = 5
  · have hF := ite_t hF hc1_5
    refine g_tableIn (tgt := 85) X dX3_count_1 (by rw [hc1_5]; decide) (by rw [hc1_5]; decide) (by rw [hc1_5]; rfl) (by decide) ?_
    have hF := inR_some hF
    refine g_aload_n X dX3_count_85 rfl (lv_at hl 0 rfl) ?_
    refine g_get X 0 (lt_obj) in_X3_count_X3 rfl 0 (by decide) (X.ts (.fieldLink RX3 12 "LeadTimes" "now" "LLeadTimes$State;") (by decide +kernel)) rfl rfl dX3_count_86 ?_
    obtain ⟨r89, hr89, hF⟩ := obind hF
    refine k_Vi X (As := []) (rest := []) (c_X1_moverCount hI isSt6 hr89) (cwV 0 X.ts gX3_count_X1_moverCount rfl rfl rfl (by decide +kernel) ⟨Nat.le_of_ble_eq_true rfl, Nat.le_of_ble_eq_true rfl⟩) ⟨6, 1, _, _, st_obj isSt6, rfl, rfl⟩ rfl hl.1 rfl (Nat.le_of_ble_eq_true rfl) dX3_count_89 ?_
    refine g_aload_n X dX3_count_92 rfl (lv_at hl 0 rfl) ?_
    refine g_get X 0 (lt_obj) in_X3_count_X3 rfl 4 (by decide) (X.ts (.fieldLink RX3 32 "LeadTimes" "leading" "LLeadTimes$Course;") (by decide +kernel)) rfl rfl dX3_count_93 ?_
    refine g_get X 48 (co_obj isCo48) in_X3_count_X0 rfl 5 (by decide) (X.ts (.fieldLink RX3 244 "LeadTimes$Course" "size" "I") (by decide +kernel)) rfl rfl dX3_count_96 ?_
    refine g_isub X dX3_count_99 ?_
    exact g_iret X (pP_mk (some_inj hF)) dX3_count_100
  have hF := ite_f hF hc1_5
  by_cases hc1_6 : a1 = 6
  · have hF := ite_t hF hc1_6
    refine g_tableIn (tgt := 101) X dX3_count_1 (by rw [hc1_6]; decide) (by rw [hc1_6]; decide) (by rw [hc1_6]; rfl) (by decide) ?_
    have hF := inR_some hF
    refine g_aload_n X dX3_count_101 rfl (lv_at hl 0 rfl) ?_
    refine g_get X 0 (lt_obj) in_X3_count_X3 rfl 3 (by decide) (X.ts (.fieldLink RX3 24 "LeadTimes" "savedCount" "I") (by decide +kernel)) rfl rfl dX3_count_102 ?_
    exact g_iret X (pP_mk (some_inj hF)) dX3_count_105
  have hF := ite_f hF hc1_6
  refine g_tableOut (tgt := 106) X dX3_count_1 (tb_out6 hc1_0 hc1_1 hc1_2 hc1_3 hc1_4 hc1_5 hc1_6) (by decide) ?_
  exact (inl_inr hF).elim
def L_X3_turnsIn_25 (a1 : Int32) (σ : Mem) : Nat → Int32 → Int32 → Option Int32
  | 0, _, _ => none
  | fu + 1, a2, a3 => (if (15 : Int32) < a3 then some a2 else Option.bind (F_X3_courseOf a3 σ) (fun r34 => Option.bind (F_X0_turnsWithin r34 a1 σ) (fun r38 => L_X3_turnsIn_25 a1 σ fu (a2 + r38) (a3 + 1))))
set_option maxHeartbeats 4000000 in
set_option maxRecDepth 100000 in
theorem w_X3_turnsIn_25 {D : va_G} {ay : Nat → ClassId} {ad : Nat → Nat} {p : Program} {l : Launch} {e : Env} {s : State} {m : MethodId} {args : Array Value} {below : List Frame} {meth : Method} {c : Code} {Q : State → Prop} {a1 : Int32} {σ : Mem} {res : Int32} (X : CX D ay p s m args meth c cX3_turnsIn 4 RX3 (some .int) wsX3_turnsIn) (hI : adOK ad) (K : ∀ ls : Array Slot, lv_has ls 4 [(2, .int res)] → GW D (wC ay ad) (AC ad) p l e ({ frames := 1, cells := 0, slots := 0, locals := 23 } : Room) s m args below meth c Q σ (F0 m 49 ls [])) : ∀ (fu : Nat) (a2 : Int32) (a3 : Int32), L_X3_turnsIn_25 a1 σ fu a2 a3 = some res → ∀ ls : Array Slot, lv_has ls 4 [(0, .ref (ad 0)), (1, .int a1), (2, .int a2), (3, .int a3)] → GW D (wC ay ad) (AC ad) p l e ({ frames := 1, cells := 0, slots := 0, locals := 23 } : Room) s m args below meth c Q σ (F0 m 25 ls []) := by
  intro fu
  induction fu with
  | zero =>
    intro a2 a3 hF ls hl
    rw [L_X3_turnsIn_25] at hF
    cases hF
  | succ fu ih =>
    intro a2 a3 hF ls hl
    rw [L_X3_turnsIn_25] at hF
    refine g_iload_n X dX3_turnsIn_25 rfl (lv_at hl 3 rfl) ?_
    refine g_bipush (v := 15) X dX3_turnsIn_26 (by decide) ?_
    refine g_icmp_gt (tgt := 49) X dX3_turnsIn_28 (by decide) (fun hc28 => ?_) (fun hc28 => ?_)
    · have hF := ite_t hF hc28
      have e25 := some_inj hF
      subst e25
      exact K ls (lv_sub hl [2] rfl)
    · have hF := ite_f hF hc28
      refine g_iload_n X dX3_turnsIn_31 rfl (lv_at hl 2 rfl) ?_
      refine g_aload_n X dX3_turnsIn_32 rfl (lv_at hl 0 rfl) ?_
      refine g_iload_n X dX3_turnsIn_33 rfl (lv_at hl 3 rfl) ?_
      obtain ⟨r34, hr34, hF⟩ := obind hF
      refine k_Vr X (As := [.int a3]) (rest := [.int a2]) (c_X3_courseOf hI hr34) (cwV 1 X.ts gX3_turnsIn_X3_courseOf rfl rfl rfl (by decide +kernel) ⟨Nat.le_of_ble_eq_true rfl, Nat.le_of_ble_eq_true rfl⟩) ⟨0, 3, _, _, lt_obj, rfl, rfl⟩ rfl hl.1 rfl (Nat.le_of_ble_eq_true rfl) dX3_turnsIn_34 ?_
      refine g_iload_n X dX3_turnsIn_37 rfl (lv_at hl 1 rfl) ?_
      obtain ⟨r38, hr38, hF⟩ := obind hF
      refine k_Vi X (As := [.int a1]) (rest := [.int a2]) (c_X0_turnsWithin hI (is_X3_courseOf hr34) hr38) (cwV 1 X.ts gX3_turnsIn_X0_turnsWithin rfl rfl rfl (by decide +kernel) ⟨Nat.le_of_ble_eq_true rfl, Nat.le_of_ble_eq_true rfl⟩) ⟨r34, 0, _, _, co_obj (is_X3_courseOf hr34), rfl, rfl⟩ rfl hl.1 rfl (Nat.le_of_ble_eq_true rfl) dX3_turnsIn_38 ?_
      refine g_iadd X dX3_turnsIn_41 ?_
      refine g_istore_n (lv' := [(2, _), (0, _), (1, _), (3, _)]) X dX3_turnsIn_42 rfl hl (by decide) rfl (fun ls hl => ?_)
      refine g_iinc (v := a3 + 1) (lv' := [(3, _), (2, _), (0, _), (1, _)]) X dX3_turnsIn_43 hl (k := 3) rfl rfl (by decide) rfl (fun ls hl => ?_)
      refine g_goto (tgt := 25) X dX3_turnsIn_46 (by decide) ?_
      exact ih (a2 + r38) (a3 + 1) hF ls (lv_sub hl [2, 3, 1, 0] rfl)
def F_X3_turnsIn (a1 : Int32) (σ : Mem) : Option (Nat ⊕ Int32) := Option.bind (F_X3_isWithin a1 (0 : Int32) (999 : Int32)) (fun r5 => (if ¬ r5 = 0 then inR (Option.bind (L_X3_turnsIn_25 a1 σ FU (0 : Int32) (1 : Int32)) (fun v25 : Int32 => some v25)) else some (Sum.inl 0)))
set_option maxHeartbeats 4000000 in
set_option maxRecDepth 100000 in
theorem c_X3_turnsIn {l : Launch} {D : va_G} {ay : Nat → ClassId} {ad : Nat → Nat} {a1 : Int32} {σ : Mem} {res : Int32} (hI : adOK ad) (hF : F_X3_turnsIn a1 σ = some (Sum.inr res)) : Met l yX3_turnsIn wsX3_turnsIn ({ frames := 1, cells := 0, slots := 0, locals := 23 } : Room) (va_Pc [.ref (ad 0), .int a1] (PP D ay (wC ay ad σ))) (va_Qi (pP res σ) (fun τ => PP D ay (wC ay ad τ)) (AC ad)) 0 0 (AC ad) := by
  refine g_start (wd := wC ay ad) (A := AC ad) (own := RX3) (mL := 4) (rt := (some .int)) (by decide) rfl rfl (Nat.le_of_ble_eq_true rfl) ?_
  intro p e s m below meth c ls X hl
  have hl : lv_has ls 4 [(0, .ref (ad 0)), (1, .int a1)] := hl
  rw [F_X3_turnsIn] at hF
  refine g_iload_n X dX3_turnsIn_0 rfl (lv_at hl 1 rfl) ?_
  refine g_iconst (v := 0) X dX3_turnsIn_1 (by decide) ?_
  refine g_sipush (v := 999) X dX3_turnsIn_2 (by decide) ?_
  obtain ⟨r5, hr5, hF⟩ := obind hF
  refine k_Sz X (As := [.int a1, .int (0 : Int32), .int (999 : Int32)]) (rest := []) (c_X3_isWithin hI hr5) (va_cwS 3 X.ts gX3_turnsIn_X3_isWithin rfl rfl rfl (by decide +kernel) ⟨Nat.le_of_ble_eq_true rfl, Nat.le_of_ble_eq_true rfl⟩) rfl hl.1 rfl (Nat.le_of_ble_eq_true rfl) dX3_turnsIn_5 (fun hz5 => ?_)
  refine g_if_ne (tgt := 21) X dX3_turnsIn_8 (by decide) (fun hc8 => ?_) (fun hc8 => ?_)
  · have hF := ite_t hF hc8
    have hF := inR_some hF
    refine g_iconst (v := 0) X dX3_turnsIn_21 (by decide) ?_
    refine g_istore_n (lv' := [(2, _), (0, _), (1, _)]) X dX3_turnsIn_22 rfl hl (by decide) rfl (fun ls hl => ?_)
    refine g_iconst (v := 1) X dX3_turnsIn_23 (by decide) ?_
    refine g_istore_n (lv' := [(3, _), (2, _), (0, _), (1, _)]) X dX3_turnsIn_24 rfl hl (by decide) rfl (fun ls hl => ?_)
    obtain ⟨v25, hL25, hF⟩ := obind hF
    refine w_X3_turnsIn_25 X hI (fun ls hl => ?_) FU (0 : Int32) (1 : Int32) hL25 ls (lv_sub hl [2, 3, 1, 0] rfl)
    refine g_iload_n X dX3_turnsIn_49 rfl (lv_at hl 0 rfl) ?_
    exact g_iret X (pP_mk (some_inj hF)) dX3_turnsIn_50
  · have hF := ite_n hF hc8
    exact (inl_inr hF).elim
