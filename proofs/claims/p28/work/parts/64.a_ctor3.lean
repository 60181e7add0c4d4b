/-! the class's constructor, whole; its world is the class's, with the first memory -/
def fin (ay : Nat → ClassId) (f : Nat → Nat) : va_W := ([(f 0, .inr (3, [.ref (f 6), .ref (f 1), .int 0, .int 0, .ref (f 48), .ref (f 2), .ref (f 3), .ref (f 4)])), (f 1, svE ay f 6), (f 2, csE ay f 15)] ++ (SW ay f 7 ++ CW ay f 15)) ++ [(f 3, .inl (ay 0, 16, .inl z0)), (f 4, .inr (2, [.ref (f 5), .int 0, .int 0])), (f 5, .inl (ay 2, 60, .inl z0))]
theorem vq_ext {cA : ClassId} {n : Nat} {g h : Nat → Option Nat} (e : ∀ k, k < n → g k = h k) : vp_cell cA (n, .inr (.inr (.inr (.inr g)))) = vp_cell cA (n, .inr (.inr (.inr (.inr h)))) := by
  rw [vp_cell_q, vp_cell_q]
  unfold arrV
  congr 2
  funext j
  show va_rf (g j.val) = va_rf (h j.val)
  rw [e j.val j.isLt]
theorem sig_lo {x : Nat} (h : x < 6) : sig0 x = z0 := by
  funext k
  unfold sig0 z0
  rw [if_pos h]
theorem sig_st {i : Nat} (hi : i < 7) : sig0 (6 + 6 * i) 5 = 0 ∧ sig0 (6 + 6 * i) 6 = 0 ∧ sig0 (6 + 6 * i) 7 = 50 := by
  refine ⟨?_, ?_, ?_⟩
  · unfold sig0; rw [if_neg (by omega), if_pos (by omega), if_neg (by omega)]
  · unfold sig0; rw [if_neg (by omega), if_pos (by omega), if_neg (by omega)]
  · unfold sig0; rw [if_neg (by omega), if_pos (by omega), if_pos (by omega)]
theorem sig_sa {i j : Nat} (hi : i < 7) (h1 : 1 ≤ j) (h5 : j < 6) : sig0 (6 + 6 * i + j) = z0 := by
  funext k
  unfold sig0 z0
  rw [if_neg (by omega), if_pos (by omega), if_neg (by omega)]
theorem sig_co {i : Nat} : sig0 (48 + 4 * i) 0 = (cfw i).1 ∧ sig0 (48 + 4 * i) 1 = (cfw i).1 + (cfw i).2 ∧ sig0 (48 + 4 * i) 5 = 0 := by
  have e : (48 + 4 * i - 48) / 4 = i := by omega
  refine ⟨?_, ?_, ?_⟩
  · unfold sig0; rw [if_neg (by omega), if_neg (by omega), if_pos (by omega), e]
  · unfold sig0; rw [if_neg (by omega), if_neg (by omega), if_neg (by omega), if_pos (by omega), e]
  · unfold sig0; rw [if_neg (by omega), if_neg (by omega), if_neg (by omega), if_neg (by omega)]
theorem sig_ca {i j : Nat} (h1 : 1 ≤ j) (h5 : j < 4) : sig0 (48 + 4 * i + j) = z0 := by
  funext k
  unfold sig0 z0
  rw [if_neg (by omega), if_neg (by omega), if_neg (by omega), if_neg (by omega)]
theorem fin_len (ay : Nat → ClassId) (f : Nat → Nat) (a b c : Nat × va_E) : ([a, b, c] ++ (SW ay f 7 ++ CW ay f 15)).length = 105 := by
  rw [List.length_append, List.length_append, (SW_get ay f 7).1, (CW_get ay f 15).1]; rfl
def nTx (q : Nat) : va_W := [(q, .inr (2, [.null, .int 0, .int 0]))]
def gI (k : Nat) : Nat := if k < 3 then k else if k < 6 then 102 + k else k - 3
theorem fin_st {ay : Nat → ClassId} {f : Nat → Nat} {i j : Nat} (hi : i < 7) (hj : j < 6) : (fin ay f)[gI (6 + 6 * i + j)]? = (stL ay f (6 + 6 * i))[j]? := by
  unfold fin gI
  rw [if_neg (by omega), if_neg (by omega), List.getElem?_append_left (by rw [fin_len]; omega), List.getElem?_append_right (by show 3 ≤ _; omega), List.getElem?_append_left (by rw [(SW_get ay f 7).1]; show _ - 3 < _; omega)]
  rw [← (SW_get ay f 7).2 i j hi hj]
  congr 1
  show 6 + 6 * i + j - 3 - 3 = _
  omega
theorem fin_co {ay : Nat → ClassId} {f : Nat → Nat} {i j : Nat} (hi : i < 15) (hj : j < 4) : (fin ay f)[gI (48 + 4 * i + j)]? = (coL ay f (48 + 4 * i) (cfw i))[j]? := by
  unfold fin gI
  rw [if_neg (by omega), if_neg (by omega), List.getElem?_append_left (by rw [fin_len]; omega), List.getElem?_append_right (by show 3 ≤ _; omega), List.getElem?_append_right (by rw [(SW_get ay f 7).1]; show 42 ≤ _ - 3; omega), (SW_get ay f 7).1]
  rw [← (CW_get ay f 15).2 i j hi hj]
  congr 1
  show 48 + 4 * i + j - 3 - 3 - 42 = _
  omega
theorem fin_end {ay : Nat → ClassId} {f : Nat → Nat} {j : Nat} (hj : j < 3) : (fin ay f)[gI (3 + j)]? = [(f 3, (.inl (ay 0, 16, .inl z0) : va_E)), (f 4, .inr (2, [.ref (f 5), .int 0, .int 0])), (f 5, .inl (ay 2, 60, .inl z0))][j]? := by
  unfold fin gI
  rw [if_neg (by omega), if_pos (by omega), List.getElem?_append_right (by rw [fin_len]; omega), fin_len]
  congr 1
  omega
theorem fin_get {ay : Nat → ClassId} {f : Nat → Nat} {k : Nat} (hk : k < 108) : ∃ e, (fin ay f)[gI k]? = some (f k, e) ∧ ∀ (D : va_G) (H : Heap), va_at D vwCl (f k, e) H → va_at D vwCl (f k, kC ay f sig0 k) H := by
  rcases Nat.lt_or_ge k 6 with h6 | h6
  · rcases (show k = 0 ∨ k = 1 ∨ k = 2 ∨ k = 3 ∨ k = 4 ∨ k = 5 by omega) with rfl | rfl | rfl | rfl | rfl | rfl
    · exact ⟨_, rfl, fun D H h => h⟩
    · refine ⟨_, rfl, fun D H h => ?_⟩
      have h : H[f 1]? = some (vp_cell (ay 3) (6, .inr (.inr (.inr (.inr (fun k => if k < 6 then some (f (12 + 6 * k)) else none)))))) := h
      show H[f 1]? = some (vp_cell (ay 3) (6, .inr (.inr (.inr (.inr (fun k => some (f (12 + 6 * k))))))))
      rw [h, vq_ext (fun k hk => if_pos hk)]
    · refine ⟨_, rfl, fun D H h => ?_⟩
      have h : H[f 2]? = some (vp_cell (ay 4) (16, .inr (.inr (.inr (.inr (fun k => if 1 ≤ k ∧ k < 15 + 1 then some (f (44 + 4 * k)) else none)))))) := h
      show H[f 2]? = some (vp_cell (ay 4) (16, .inr (.inr (.inr (.inr (fun k => if k = 0 then none else some (f (44 + 4 * k))))))))
      rw [h, vq_ext (h := fun k => if k = 0 then none else some (f (44 + 4 * k))) (fun k hk => by
        by_cases q : k = 0
        · rw [if_neg (by omega), if_pos q]
        · rw [if_pos (by omega), if_neg q])]
    · refine ⟨_, fin_end (j := 0) (by omega), fun D H h => ?_⟩
      have : kC ay f sig0 3 = .inl (ay 0, 16, .inl (sig0 3)) := rfl
      rw [this, sig_lo (by omega)]; exact h
    · exact ⟨_, fin_end (j := 1) (by omega), fun D H h => h⟩
    · refine ⟨_, fin_end (j := 2) (by omega), fun D H h => ?_⟩
      have : kC ay f sig0 5 = .inl (ay 2, 60, .inl (sig0 5)) := rfl
      rw [this, sig_lo (by omega)]; exact h
  · rcases Nat.lt_or_ge k 48 with h48 | h48
    · obtain ⟨i, j, hi, hj, rfl⟩ : ∃ i j, i < 7 ∧ j < 6 ∧ k = 6 + 6 * i + j := ⟨(k - 6) / 6, (k - 6) % 6, by omega, by omega, by omega⟩
      rw [fin_st hi hj, kC_S ⟨i, hi, rfl⟩ hj]
      obtain ⟨a1, a2, a3⟩ := sig_st hi
      rcases (show j = 0 ∨ j = 1 ∨ j = 2 ∨ j = 3 ∨ j = 4 ∨ j = 5 by omega) with rfl | rfl | rfl | rfl | rfl | rfl
      · refine ⟨_, rfl, fun D H h => ?_⟩
        show va_at D vwCl (f (6 + 6 * i), .inr (1, [.ref (f (6 + 6 * i + 1)), .ref (f (6 + 6 * i + 2)), .ref (f (6 + 6 * i + 3)), .ref (f (6 + 6 * i + 4)), .ref (f (6 + 6 * i + 5)), .int (sig0 (6 + 6 * i) 5), .int (sig0 (6 + 6 * i) 6), .int (sig0 (6 + 6 * i) 7)])) H
        rw [a1, a2, a3]; exact h
      · refine ⟨_, rfl, fun D H h => ?_⟩
        show va_at D vwCl (f (6 + 6 * i + 1), .inl (ay 1, 16, .inl (sig0 (6 + 6 * i + 1)))) H
        rw [sig_sa hi (by omega) (by omega)]; exact h
      · refine ⟨_, rfl, fun D H h => ?_⟩
        show va_at D vwCl (f (6 + 6 * i + 2), .inl (ay 0, 16, .inl (sig0 (6 + 6 * i + 2)))) H
        rw [sig_sa hi (by omega) (by omega)]; exact h
      · refine ⟨_, rfl, fun D H h => ?_⟩
        show va_at D vwCl (f (6 + 6 * i + 3), .inl (ay 0, 16, .inl (sig0 (6 + 6 * i + 3)))) H
        rw [sig_sa hi (by omega) (by omega)]; exact h
      · refine ⟨_, rfl, fun D H h => ?_⟩
        show va_at D vwCl (f (6 + 6 * i + 4), .inl (ay 0, 16, .inl (sig0 (6 + 6 * i + 4)))) H
        rw [sig_sa hi (by omega) (by omega)]; exact h
      · refine ⟨_, rfl, fun D H h => ?_⟩
        show va_at D vwCl (f (6 + 6 * i + 5), .inl (ay 0, 16, .inl (sig0 (6 + 6 * i + 5)))) H
        rw [sig_sa hi (by omega) (by omega)]; exact h
    · obtain ⟨i, j, hi, hj, rfl⟩ : ∃ i j, i < 15 ∧ j < 4 ∧ k = 48 + 4 * i + j := ⟨(k - 48) / 4, (k - 48) % 4, by omega, by omega, by omega⟩
      rw [fin_co hi hj, kC_K ⟨i, hi, rfl⟩ hj]
      obtain ⟨a1, a2, a3⟩ := sig_co (i := i)
      rcases (show j = 0 ∨ j = 1 ∨ j = 2 ∨ j = 3 by omega) with rfl | rfl | rfl | rfl
      · refine ⟨_, rfl, fun D H h => ?_⟩
        show va_at D vwCl (f (48 + 4 * i), .inr (0, [.int (sig0 (48 + 4 * i) 0), .int (sig0 (48 + 4 * i) 1), .ref (f (48 + 4 * i + 1)), .ref (f (48 + 4 * i + 2)), .ref (f (48 + 4 * i + 3)), .int (sig0 (48 + 4 * i) 5)])) H
        rw [a1, a2, a3]; exact h
      · refine ⟨_, rfl, fun D H h => ?_⟩
        show va_at D vwCl (f (48 + 4 * i + 1), .inl (ay 0, 16, .inl (sig0 (48 + 4 * i + 1)))) H
        rw [sig_ca (by omega) (by omega)]; exact h
      · refine ⟨_, rfl, fun D H h => ?_⟩
        show va_at D vwCl (f (48 + 4 * i + 2), .inl (ay 0, 16, .inl (sig0 (48 + 4 * i + 2)))) H
        rw [sig_ca (by omega) (by omega)]; exact h
      · refine ⟨_, rfl, fun D H h => ?_⟩
        show va_at D vwCl (f (48 + 4 * i + 3), .inl (ay 0, 16, .inl (sig0 (48 + 4 * i + 3)))) H
        rw [sig_ca (by omega) (by omega)]; exact h
theorem fin_P {D : va_G} {ay : Nat → ClassId} {f : Nat → Nat} {H : Heap} (h : va_P D vwCl (fin ay f) H) : va_P D vwCl (wC ay f sig0) H := by
  intro k q hk
  have hk8 : k < 108 := by
    have := (List.getElem?_eq_some_iff.mp hk).1
    simpa [wC] using this
  rw [wC_get hk8] at hk
  cases hk
  obtain ⟨e, h1, h2⟩ := fin_get (ay := ay) (f := f) hk8
  exact h2 D H (h _ _ h1)
theorem fin_D {A : Nat → Prop} {ay : Nat → ClassId} {f : Nat → Nat} (h : va_D A (fin ay f)) : adOK f ∧ ∀ q, AC f q → A q := by
  refine ⟨fun i j hi hj e => ?_, fun q hq => ?_⟩
  · obtain ⟨e1, h1, -⟩ := fin_get (ay := ay) (f := f) hi
    obtain ⟨e2, h2, -⟩ := fin_get (ay := ay) (f := f) hj
    have := h.1 _ _ _ _ h1 h2 e
    unfold gI at this
    split at this <;> split at this <;> (try split at this) <;> (try split at this) <;> omega
  · obtain ⟨x, hx, rfl⟩ := hq
    obtain ⟨e1, h1, -⟩ := fin_get (ay := ay) (f := f) hx
    exact h.2 _ _ h1
set_option maxHeartbeats 4000000 in
set_option maxRecDepth 100000 in
theorem c_X3_init {l : Launch} {D : va_G} {ay : Nat → ClassId} {A : Nat → Prop} {h0 sz : Nat} (hA : ∀ q, sz ≤ q → A q) : Met l yX3_init wsX3_init R3 (va_Pc [.ref h0] (fun U => KK D ay U ∧ ((sz ≤ U.heap.size ∧ va_P D vwCl [(h0, .inr (3, [.null, .null, .int 0, .int 0, .null, .null, .null, .null]))] U.heap ∧ va_D A [(h0, .inr (3, [.null, .null, .int 0, .int 0, .null, .null, .null, .null]))]) ∧ va_AO "LeadTimes$State" U ∧ va_AO "LeadTimes$Course" U ∧ va_Nw (.methodLinkNest RX3 11 yX1_init RX3) U ∧ va_Nw (.methodLinkNest RX3 46 yX2_init RX3) U)))
    (va_Qv (fun f : Nat → Nat => f 0 = h0 ∧ adOK f ∧ ∀ q, AC f q → A q) (fun f U => va_P D vwCl (wC ay f sig0) U.heap ∧ KK D ay U ∧ va_D A (wC ay f sig0)) A) 107 1527 A := by
  refine g_startN (own := RX3) (mL := 4) (by decide) rfl rfl rfl (Nat.le_of_ble_eq_true rfl) ?_
  intro p e s m below meth c ls X hin hPx hl
  obtain ⟨⟨hsz, hP, hD⟩, hao1, hao2, hn1, hn2⟩ := hPx
  have hl : lv_has ls 4 [(0, .ref h0)] := hl
  have hA9 : ∀ q, s.heap.size ≤ q → A q := fun q h => hA q (Nat.le_trans hsz h)
  have hS : va_S A s.heap s.heap [] := va_S.rf
  refine lv_aload_n X.x X.b dX3_init_0 rfl (lv_at hl 0 rfl) ?_
  refine W.objInit X.x X.b X.ow (X.ts (.methodLink RX3 3 objectInit) (by decide +kernel)) (X.ts (.instanceMethod objectInit) (by decide +kernel)) (X.ts _ (List.mem_cons_of_mem _ (List.mem_append_left _ (List.mem_append_left _ (List.mem_append_left _ (List.mem_append_left _ (List.mem_append_left _ (List.mem_of_getElem? (i := 2) rfl)))))))) rfl (by rw [X.ml]; exact hl.1) rfl dX3_init_1 (Nat.le_of_ble_eq_true rfl) (Nat.le_of_ble_eq_true rfl) ?_
  refine W.eq (g2 := F0 m 4 ls []) rfl ?_
  refine lv_aload_n X.x X.b dX3_init_4 rfl (lv_at hl 0 rfl) ?_
  refine n_state X hA9 hn1 hl.1 dX3_init_5 dX3_init_8 dX3_init_9 (show 1 + 0 ≤ 7 by omega) (by omega) (by omega) hP hD hS (fun q6 r H locs hP hD hS => ?_)
  refine va_putF (D := D) (ci := 3) (v := .ref q6) (ty := .object "LeadTimes$State") (C := RX3) (T := TX3) (N := 8) X.x X.b X.ts (by decide +kernel) tyX3 tyX3_ok nmX3 X.ow X.k hP hD hS 0 rfl rfl 0 (by decide) (X.ts (.fieldLink RX3 12 "LeadTimes" "now" "LLeadTimes$State;") (by decide +kernel)) (fun _ h9 => h9) rfl hin rfl (by decide +kernel) rfl rfl (Nat.le_of_ble_eq_true rfl) dX3_init_12 (fun H locs hP hD hS => ?_)
  refine lv_aload_n X.x X.b dX3_init_15 rfl (lv_at hl 0 rfl) ?_
  refine lv_bipush (v := 6) X.x X.b dX3_init_16 (by decide) ?_
  refine n_refs X hA9 3 rfl (X.ts (.classLink RX3 9 RX1) (by decide +kernel)) hao1 (by decide) (N' := 6) (by decide) (Nat.le_of_ble_eq_true rfl) (Nat.le_of_ble_eq_true rfl) (Nat.le_of_ble_eq_true rfl) dX3_init_18 hP hD hS (fun q1 H hP hD hS => ?_)
  refine va_putF (D := D) (ci := 3) (v := .ref q1) (ty := .array (.object "LeadTimes$State")) (C := RX3) (T := TX3) (N := 8) X.x X.b X.ts (by decide +kernel) tyX3 tyX3_ok nmX3 X.ow X.k hP hD hS 0 rfl rfl 1 (by decide) (X.ts (.fieldLink RX3 16 "LeadTimes" "saved" "[LLeadTimes$State;") (by decide +kernel)) (fun _ h9 => h9) rfl hin rfl (by decide +kernel) rfl rfl (Nat.le_of_ble_eq_true rfl) dX3_init_21 (fun H locs hP hD hS => ?_)
  refine lv_iconst (v := 0) X.x X.b dX3_init_24 (by decide) ?_
  refine lv_istore_n (lv' := [(1, _), (0, _)]) X.x X.b dX3_init_25 rfl hl (by decide) rfl (fun ls hl => ?_)
  obtain ⟨f, hf⟩ : ∃ f : Nat → Nat, f = fun x => if x = 0 then h0 else if x = 1 then q1 else if x = 6 then q6 else r (x - 7) := ⟨_, rfl⟩
  have eB : B1 ay f 0 = [(h0, .inr (3, [.ref q6, .ref q1, .int 0, .int 0, .null, .null, .null, .null])), (q1, .inl (ay 3, 6, .inr (.inr (.inr (.inr (fun _ => none)))))), (q6, .inr (1, [.ref (r 0), .ref (r 1), .ref (r 2), .ref (r 3), .ref (r 4), .int 0, .int 0, .int 50])), (r 0, .inl (ay 1, 16, .inl z0)), (r 1, .inl (ay 0, 16, .inl z0)), (r 2, .inl (ay 0, 16, .inl z0)), (r 3, .inl (ay 0, 16, .inl z0)), (r 4, .inl (ay 0, 16, .inl z0))] := by
    have es : svE ay f 0 = .inl (ay 3, 6, .inr (.inr (.inr (.inr (fun _ => none))))) := by
      unfold svE
      congr 7
    unfold B1
    rw [es, hf]
    rfl
  have hP : va_P D vwCl (B1 ay f 0) H := by rw [eB]; exact hP.sub [0, 7, 1, 2, 3, 4, 5, 6] rfl
  have hD : va_D A (B1 ay f 0) := by rw [eB]; exact hD.sub [0, 7, 1, 2, 3, 4, 5, 6] (by decide) rfl
  refine W.widen (k := 7 + 6 * 0) (n := 94 + 88 * 0) (by omega) (by omega) ?_
  refine x3_loop1 X hA9 hn1 (c0 := 7) (s0 := 94) (h0 := h0) (by omega) (by omega) (fun f H locs ls hf hP hD hS hl => ?_) 6 0 f H locs ls rfl (by rw [hf]; rfl) hP hD hS (lv_sub hl [1, 0] rfl)
  refine lv_aload_n X.x X.b dX3_init_51 rfl (lv_at hl 0 rfl) ?_
  refine lv_iconst (v := 0) X.x X.b dX3_init_52 (by decide) ?_
  refine va_put (D := D) (ci := 3) (a := h0) (fs := [.ref (f 6), .ref (f 1), .int 0, .int 0, .null, .null, .null, .null]) (v := .int 0) (ty := .int) (C := RX3) (T := TX3) (N := 8) X.x X.b X.ts (by decide +kernel) tyX3 tyX3_ok nmX3 X.ow X.k hP hD hS 0 (by rw [← hf]; rfl) rfl 2 (by decide) (X.ts (.fieldLink RX3 20 "LeadTimes" "oldest" "I") (by decide +kernel)) (fun _ h9 => h9) rfl (by decide +kernel) rfl rfl (Nat.le_of_ble_eq_true rfl) dX3_init_53 (fun H locs hP hD hS => ?_)
  have hP : va_P D vwCl (B1 ay f 6) H := by rw [← hf] at hP; exact hP
  have hD : va_D A (B1 ay f 6) := by rw [← hf] at hD; exact hD
  refine lv_aload_n X.x X.b dX3_init_56 rfl (lv_at hl 0 rfl) ?_
  refine lv_iconst (v := 0) X.x X.b dX3_init_57 (by decide) ?_
  refine va_put (D := D) (ci := 3) (a := h0) (fs := [.ref (f 6), .ref (f 1), .int 0, .int 0, .null, .null, .null, .null]) (v := .int 0) (ty := .int) (C := RX3) (T := TX3) (N := 8) X.x X.b X.ts (by decide +kernel) tyX3 tyX3_ok nmX3 X.ow X.k hP hD hS 0 (by rw [← hf]; rfl) rfl 3 (by decide) (X.ts (.fieldLink RX3 24 "LeadTimes" "savedCount" "I") (by decide +kernel)) (fun _ h9 => h9) rfl (by decide +kernel) rfl rfl (Nat.le_of_ble_eq_true rfl) dX3_init_58 (fun H locs hP hD hS => ?_)
  have hP : va_P D vwCl (B1 ay f 6) H := by rw [← hf] at hP; exact hP
  have hD : va_D A (B1 ay f 6) := by rw [← hf] at hD; exact hD
  refine lv_aload_n X.x X.b dX3_init_61 rfl (lv_at hl 0 rfl) ?_
  refine n_newC X hA9 dX3_init_62 (by omega) (by omega) hP hD hS (fun q48 H hP hD hS => ?_)
  refine lv_dup X.x X.b dX3_init_65 rfl ?_
  refine lv_iconst (v := 0) X.x X.b dX3_init_66 (by decide) ?_
  refine lv_bipush (v := 16) X.x X.b dX3_init_67 (by decide) ?_
  refine n_callC X hA9 hl.1 dX3_init_69 (show 1 + (1 + 0) ≤ 8 by omega) (by omega) (by omega) hP hD hS (fun r2 H locs hP hD hS => ?_)
  refine va_putF (D := D) (ci := 3) (a := h0) (fs := [.ref (f 6), .ref (f 1), .int 0, .int 0, .null, .null, .null, .null]) (v := .ref q48) (ty := .object "LeadTimes$Course") (C := RX3) (T := TX3) (N := 8) X.x X.b X.ts (by decide +kernel) tyX3 tyX3_ok nmX3 X.ow X.k hP hD hS 0 (by rw [← hf]; rfl) rfl 4 (by decide) (X.ts (.fieldLink RX3 32 "LeadTimes" "leading" "LLeadTimes$Course;") (by decide +kernel)) (fun _ h9 => h9) rfl hin rfl (by decide +kernel) rfl rfl (Nat.le_of_ble_eq_true rfl) dX3_init_72 (fun H locs hP hD hS => ?_)
  have hP : va_P D vwCl ([(h0, .inr (3, [.ref (f 6), .ref (f 1), .int 0, .int 0, .ref q48, .null, .null, .null])), (f 1, svE ay f 6)] ++ (SW ay f 7 ++ [(q48, .inr (0, [.int 0, .int (0 + 16), .ref (r2 0), .ref (r2 1), .ref (r2 2), .int 0])), (r2 0, .inl (ay 0, 16, .inl z0)), (r2 1, .inl (ay 0, 16, .inl z0)), (r2 2, .inl (ay 0, 16, .inl z0))])) H := by
    rw [← List.append_assoc]; exact hP
  have hD : va_D A ([(h0, .inr (3, [.ref (f 6), .ref (f 1), .int 0, .int 0, .ref q48, .null, .null, .null])), (f 1, svE ay f 6)] ++ (SW ay f 7 ++ [(q48, .inr (0, [.int 0, .int (0 + 16), .ref (r2 0), .ref (r2 1), .ref (r2 2), .int 0])), (r2 0, .inl (ay 0, 16, .inl z0)), (r2 1, .inl (ay 0, 16, .inl z0)), (r2 2, .inl (ay 0, 16, .inl z0))])) := by
    rw [← List.append_assoc]; exact hD
  refine lv_aload_n X.x X.b dX3_init_75 rfl (lv_at hl 0 rfl) ?_
  refine lv_bipush (v := 16) X.x X.b dX3_init_76 (by decide) ?_
  refine n_refs X hA9 4 rfl (X.ts (.classLink RX3 27 RX0) (by decide +kernel)) hao2 (by decide) (N' := 16) (by decide) (Nat.le_of_ble_eq_true rfl) (Nat.le_of_ble_eq_true rfl) (Nat.le_of_ble_eq_true rfl) dX3_init_78 hP hD hS (fun q2 H hP hD hS => ?_)
  have hP := va_P.swap hP
  have hD := va_D.swap hD
  refine va_putF (D := D) (ci := 3) (v := .ref q2) (ty := .array (.object "LeadTimes$Course")) (C := RX3) (T := TX3) (N := 8) X.x X.b X.ts (by decide +kernel) tyX3 tyX3_ok nmX3 X.ow X.k hP hD hS 0 rfl rfl 5 (by decide) (X.ts (.fieldLink RX3 36 "LeadTimes" "courses" "[LLeadTimes$Course;") (by decide +kernel)) (fun _ h9 => h9) rfl hin rfl (by decide +kernel) rfl rfl (Nat.le_of_ble_eq_true rfl) dX3_init_81 (fun H locs hP hD hS => ?_)
  refine lv_aload_n X.x X.b dX3_init_84 rfl (lv_at hl 0 rfl) ?_
  refine va_get (D := D) (ci := 3) (v := .ref q2) (C := RX3) (T := TX3) (N := 8) X.x X.b X.ts (by decide +kernel) X.ow X.k hP 0 rfl rfl 5 (by decide) (X.ts (.fieldLink RX3 36 "LeadTimes" "courses" "[LLeadTimes$Course;") (by decide +kernel)) (fun _ h9 => h9) rfl dX3_init_85 ?_
  refine lv_iconst (v := 1) X.x X.b dX3_init_88 (by decide) ?_
  refine lv_aload_n X.x X.b dX3_init_89 rfl (lv_at hl 0 rfl) ?_
  refine va_get (D := D) (ci := 3) (v := .ref q48) (C := RX3) (T := TX3) (N := 8) X.x X.b X.ts (by decide +kernel) X.ow X.k hP 0 rfl rfl 4 (by decide) (X.ts (.fieldLink RX3 32 "LeadTimes" "leading" "LLeadTimes$Course;") (by decide +kernel)) (fun _ h9 => h9) rfl dX3_init_90 ?_
  have hP : va_P D vwCl ([(h0, .inr (3, [.ref (f 6), .ref (f 1), .int 0, .int 0, .ref q48, .ref q2, .null, .null])), (f 1, svE ay f 6), (q2, .inl (ay 4, 16, .inr (.inr (.inr (.inr (fun _ => none))))))] ++ (SW ay f 7 ++ [(q48, .inr (0, [.int 0, .int (0 + 16), .ref (r2 0), .ref (r2 1), .ref (r2 2), .int 0])), (r2 0, .inl (ay 0, 16, .inl z0)), (r2 1, .inl (ay 0, 16, .inl z0)), (r2 2, .inl (ay 0, 16, .inl z0))])) H := hP
  have hD : va_D A ([(h0, .inr (3, [.ref (f 6), .ref (f 1), .int 0, .int 0, .ref q48, .ref q2, .null, .null])), (f 1, svE ay f 6), (q2, .inl (ay 4, 16, .inr (.inr (.inr (.inr (fun _ => none))))))] ++ (SW ay f 7 ++ [(q48, .inr (0, [.int 0, .int (0 + 16), .ref (r2 0), .ref (r2 1), .ref (r2 2), .int 0])), (r2 0, .inl (ay 0, 16, .inl z0)), (r2 1, .inl (ay 0, 16, .inl z0)), (r2 2, .inl (ay 0, 16, .inl z0))])) := hD
  refine va_astq (r := (RX0, TX0, 6)) X.x X.b X.k hP hD hS 2 4 45 0 rfl rfl (by rw [List.getElem?_append_right (by show 3 ≤ 45; omega), List.getElem?_append_right (by rw [(SW_get ay f 7).1]; show 42 ≤ 45 - 3; omega), (SW_get ay f 7).1]; rfl) rfl (by unfold vp_in; decide) dX3_init_93 (fun H locs hP hD hS => ?_)
  obtain ⟨g, hg⟩ : ∃ g : Nat → Nat, g = nu (fun x => if x = 2 then q2 else f x) 48 4 q48 r2 := ⟨_, rfl⟩
  have eg : ∀ x, x < 48 → x ≠ 2 → g x = f x := fun x hx h2 => by rw [hg, nu_lt hx, if_neg h2]
  have eC : B2 ay g 1 = ([(h0, .inr (3, [.ref (f 6), .ref (f 1), .int 0, .int 0, .ref q48, .ref q2, .null, .null])), (f 1, svE ay f 6), (q2, .inl (ay 4, 16, .inr (.inr (.inr (.inr (va_up (fun _ => none) (1 : Int32).toNatClampNeg (some q48)))))))] : va_W) ++ (SW ay f 7 ++ [(q48, .inr (0, [.int 0, .int (0 + 16), .ref (r2 0), .ref (r2 1), .ref (r2 2), .int 0])), (r2 0, .inl (ay 0, 16, .inl z0)), (r2 1, .inl (ay 0, 16, .inl z0)), (r2 2, .inl (ay 0, 16, .inl z0))]) := by
    have e2 : g 2 = q2 := by rw [hg, nu_lt (by omega), if_pos rfl]
    have e48 : g 48 = q48 := by rw [hg]; exact nu_0 (by omega)
    have es : svE ay g 6 = svE ay f 6 := by
      unfold svE
      congr 7
      funext k
      by_cases h : k < 6
      · rw [if_pos h, if_pos h, eg _ (by omega) (by omega)]
      · rw [if_neg h, if_neg h]
    have ec : csE ay g 1 = .inl (ay 4, 16, .inr (.inr (.inr (.inr (va_up (fun _ => none) (1 : Int32).toNatClampNeg (some q48)))))) := by
      unfold csE
      congr 7
      funext k
      unfold va_up
      rw [show (1 : Int32).toNatClampNeg = 1 from by decide]
      by_cases h : k = 1
      · subst h; rw [if_pos (by omega), if_pos rfl, e48]
      · rw [if_neg (by omega), if_neg h]
    have eW : CW ay g 1 = [(q48, .inr (0, [.int 0, .int (0 + 16), .ref (r2 0), .ref (r2 1), .ref (r2 2), .int 0])), (r2 0, .inl (ay 0, 16, .inl z0)), (r2 1, .inl (ay 0, 16, .inl z0)), (r2 2, .inl (ay 0, 16, .inl z0))] := by
      rw [show CW ay g 1 = coL ay g 48 (0, 16) from rfl]
      unfold coL
      rw [e48, hg, show (48 + 1 : Nat) = 48 + (0 + 1) from rfl, nu_s (j := 0) (by omega), show (48 + 2 : Nat) = 48 + (1 + 1) from rfl, nu_s (j := 1) (by omega), show (48 + 3 : Nat) = 48 + (2 + 1) from rfl, nu_s (j := 2) (by omega)]
    unfold B2
    rw [es, ec, eW, eg 0 (by omega) (by omega), hf, eg 1 (by omega) (by omega), eg 6 (by omega) (by omega), e2, e48, SW_cong (f' := g) (f := f) (i := 7) (fun x h6 hx => eg x (by omega) (by omega))]
  have hP : va_P D vwCl (B2 ay g 1) H := by rw [eC]; exact hP
  have hD : va_D A (B2 ay g 1) := by rw [eC]; exact hD
  refine lv_iconst (v := 0) X.x X.b dX3_init_94 (by decide) ?_
  refine lv_istore_n (lv' := [(1, _), (0, _)]) X.x X.b dX3_init_95 rfl hl (by decide) rfl (fun ls hl => ?_)
  refine lv_bipush (v := 8) X.x X.b dX3_init_96 (by decide) ?_
  refine lv_istore_n (lv' := [(2, _), (1, _), (0, _)]) X.x X.b dX3_init_98 rfl hl (by decide) rfl (fun ls hl => ?_)
  refine lv_iconst (v := 2) X.x X.b dX3_init_99 (by decide) ?_
  refine lv_istore_n (lv' := [(3, _), (2, _), (1, _), (0, _)]) X.x X.b dX3_init_100 rfl hl (by decide) rfl (fun ls hl => ?_)
  refine W.widen (k := 44 + 4 * 1) (n := 638 + 54 * 1) (by omega) (by omega) ?_
  refine x3_loop2 X hA9 (c0 := 44) (s0 := 638) (h0 := h0) (by omega) (by omega) (fun f H locs ls hf hP hD hS hl => ?_) 14 1 g H locs ls rfl (by omega) (by rw [eg 0 (by omega) (by omega)]; exact hf) hP hD hS (lv_sub hl [3, 2, 1, 0] rfl)
  refine lv_aload_n X.x X.b dX3_init_144 rfl (lv_at hl 0 rfl) ?_
  refine lv_bipush (v := 16) X.x X.b dX3_init_145 (by decide) ?_
  refine n_prim (w := B2 ay f 15) (v := []) (a0 := (16, .inl z0)) (atype := .int) (ty := .int) X hA9 0 rfl rfl (fun _ h => h) (X.ts (.arrayClass .int) (by decide +kernel)) (fun _ => rfl) (by decide) (by decide) (Nat.le_of_ble_eq_true rfl) (Nat.le_of_ble_eq_true rfl) (Nat.le_of_ble_eq_true rfl) dX3_init_147 (by rw [List.append_nil]; exact hP) (by rw [List.append_nil]; exact hD) hS (fun q3 H hP hD hS => ?_)
  refine va_putF (D := D) (ci := 3) (a := h0) (fs := [.ref (f 6), .ref (f 1), .int 0, .int 0, .ref (f 48), .ref (f 2), .null, .null]) (v := .ref q3) (ty := .array .int) (C := RX3) (T := TX3) (N := 8) X.x X.b X.ts (by decide +kernel) tyX3 tyX3_ok nmX3 X.ow X.k hP hD hS 0 (by rw [← hf]; rfl) rfl 6 (by decide) (X.ts (.fieldLink RX3 40 "LeadTimes" "wonBefore" "[I") (by decide +kernel)) (fun _ h9 => h9) rfl hin rfl (by decide +kernel) rfl rfl (Nat.le_of_ble_eq_true rfl) dX3_init_149 (fun H locs hP hD hS => ?_)
  obtain ⟨wX, hwX⟩ : ∃ w : va_W, w = [(h0, .inr (3, [.ref (f 6), .ref (f 1), .int 0, .int 0, .ref (f 48), .ref (f 2), .ref q3, .null])), (f 1, svE ay f 6), (f 2, csE ay f 15)] ++ (SW ay f 7 ++ CW ay f 15) ++ [(q3, .inl (ay 0, 16, .inl z0))] := ⟨_, rfl⟩
  have hP : va_P D vwCl wX H := by rw [hwX]; exact hP
  have hD : va_D A wX := by rw [hwX]; exact hD
  refine lv_aload_n X.x X.b dX3_init_152 rfl (lv_at hl 0 rfl) ?_
  refine va_new (ci := 2) (fs := [.null, .int 0, .int 0]) (C := RX2) (T := TX2) (N := 3) X.x X.b X.ts (by decide +kernel) tyX2 tyX2_ok X.ow (X.ts (.classLink RX3 44 RX2) (by decide +kernel)) (X.ts (.instantiable RX2 3) (by decide +kernel)) (X.ts (.initialized RX2) (by decide +kernel)) X.k hP hD hS hA9 rfl (fun j hj => by rcases (show j = 0 ∨ j = 1 ∨ j = 2 by omega) with rfl | rfl | rfl <;> rfl) (Nat.le_of_ble_eq_true rfl) (Nat.le_of_ble_eq_true rfl) dX3_init_153 (fun q4 H hP hD hS => ?_)
  refine lv_dup X.x X.b dX3_init_156 rfl ?_
  refine n_ctorN (As := []) (rest := [.ref q4, .ref h0]) (mc := 1) (ms := 60) (Px := fun U => s.heap.size ≤ U.heap.size ∧ va_P D vwCl (wX ++ nTx q4) U.heap ∧ va_D A (wX ++ nTx q4)) X (c_X2_init (w := wX) (h0 := q4) (sz := s.heap.size) hA9) ⟨va_cnB 0 X.ts gX3_init_X2_init_n46 rfl rfl rfl hn2 (X.ts (.initialized RX2) (by decide +kernel)) (by decide +kernel) ⟨Nat.le_of_ble_eq_true rfl, Nat.le_of_ble_eq_true rfl⟩, rfl, X.ts (.instanceMethod yX2_init) (by decide +kernel)⟩ (fun a U g mk h => h) (fun U hU hW => by rw [hU]; exact ⟨hS.1, hP, hD⟩) rfl hl.1 rfl (show 1 + (1 + 0) ≤ 8 by omega) dX3_init_157 (Nat.le_of_ble_eq_true rfl) (Nat.le_of_ble_eq_true rfl) hS (fun r5 H locs _ hP hD hS => ?_)
  rw [hwX] at hP hD
  have hP : va_P D vwCl ([(h0, .inr (3, [.ref (f 6), .ref (f 1), .int 0, .int 0, .ref (f 48), .ref (f 2), .ref q3, .null])), (f 1, svE ay f 6), (f 2, csE ay f 15)] ++ (SW ay f 7 ++ CW ay f 15) ++ [(q3, .inl (ay 0, 16, .inl z0))] ++ [(q4, .inr (2, [.ref (r5 0), .int 0, .int 0])), (r5 0, .inl (ay 2, 60, .inl z0))]) H := hP
  have hD : va_D A ([(h0, .inr (3, [.ref (f 6), .ref (f 1), .int 0, .int 0, .ref (f 48), .ref (f 2), .ref q3, .null])), (f 1, svE ay f 6), (f 2, csE ay f 15)] ++ (SW ay f 7 ++ CW ay f 15) ++ [(q3, .inl (ay 0, 16, .inl z0))] ++ [(q4, .inr (2, [.ref (r5 0), .int 0, .int 0])), (r5 0, .inl (ay 2, 60, .inl z0))]) := hD
  refine va_putF (D := D) (ci := 3) (v := .ref q4) (ty := .object "LeadTimes$Text") (C := RX3) (T := TX3) (N := 8) X.x X.b X.ts (by decide +kernel) tyX3 tyX3_ok nmX3 X.ow X.k hP hD hS 0 rfl rfl 7 (by decide) (X.ts (.fieldLink RX3 47 "LeadTimes" "text" "LLeadTimes$Text;") (by decide +kernel)) (fun _ h9 => h9) rfl hin rfl (by decide +kernel) rfl rfl (Nat.le_of_ble_eq_true rfl) dX3_init_160 (fun H locs hP hD hS => ?_)
  obtain ⟨g2, hg2⟩ : ∃ g : Nat → Nat, g = fun x => if x = 3 then q3 else if x = 4 then q4 else if x = 5 then r5 0 else f x := ⟨_, rfl⟩
  have e9 : ∀ x, x < 3 ∨ 6 ≤ x → g2 x = f x := fun x hx => by rw [hg2]; show (if x = 3 then q3 else if x = 4 then q4 else if x = 5 then r5 0 else f x) = f x; rw [if_neg (by omega), if_neg (by omega), if_neg (by omega)]
  have eF : fin ay g2 = ([(h0, .inr (3, [.ref (f 6), .ref (f 1), .int 0, .int 0, .ref (f 48), .ref (f 2), .ref q3, .ref q4])), (f 1, svE ay f 6), (f 2, csE ay f 15)] ++ (SW ay f 7 ++ CW ay f 15) ++ [(q3, .inl (ay 0, 16, .inl z0))] ++ [(q4, .inr (2, [.ref (r5 0), .int 0, .int 0])), (r5 0, .inl (ay 2, 60, .inl z0))] : va_W) := by
    have es : svE ay g2 6 = svE ay f 6 := by
      unfold svE
      congr 7
      funext k
      rw [e9 _ (by omega)]
    have ec : csE ay g2 15 = csE ay f 15 := by
      unfold csE
      congr 7
      funext k
      rw [e9 _ (by omega)]
    have q3' : g2 3 = q3 := by rw [hg2]; rfl
    have q4' : g2 4 = q4 := by rw [hg2]; rfl
    have q5' : g2 5 = r5 0 := by rw [hg2]; rfl
    unfold fin
    rw [es, ec, e9 0 (by omega), hf, e9 1 (by omega), e9 2 (by omega), e9 6 (by omega), e9 48 (by omega), q3', q4', q5', SW_cong (f' := g2) (f := f) (i := 7) (fun x h6 hx => e9 x (by omega)), CW_cong (f' := g2) (f := f) (i := 15) (fun x h6 hx => e9 x (by omega))]
    simp only [List.append_assoc, List.cons_append, List.nil_append]
  have hP : va_P D vwCl (fin ay g2) H := by rw [eF]; exact hP
  have hD : va_D A (fin ay g2) := by rw [eF]; exact hD
  have hQ := fin_D hD
  refine W.widen (k := 107) (n := 1527) (by omega) (by omega) ?_
  exact W.vret X.x X.b X.rtt (fun t ht hW => ⟨⟨g2, rfl, ⟨by rw [e9 0 (by omega)]; exact hf, hQ.1, hQ.2⟩, (by rw [ht]; exact fin_P hP), KK.warm hW X.kk, (wC_D hQ.1 sig0).weaken (fun k q hk h => hQ.2 _ h)⟩, hS.F ht⟩) hS.2.2 dX3_init_163 X.lk
