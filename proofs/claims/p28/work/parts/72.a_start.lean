/-! the law's start: the object, the four arrays; then its loop -/
def nLt (q : Nat) : va_W := [(q, .inr (3, [.null, .null, .int 0, .int 0, .null, .null, .null, .null]))]
def PX3 (D : va_G) (A : Nat → Prop) (sz q : Nat) (U : State) : Prop := (sz ≤ U.heap.size ∧ va_P D vwCl (nLt q) U.heap ∧ va_D A (nLt q)) ∧ va_AO "LeadTimes$State" U ∧ va_AO "LeadTimes$Course" U ∧ va_Nw (.methodLinkNest RX3 11 yX1_init RX3) U ∧ va_Nw (.methodLinkNest RX3 46 yX2_init RX3) U
def adF (f : Nat → Nat) (a b c d : Nat) : Nat → Nat := fun x => if x < 108 then f x else if x = 108 then a else if x = 109 then b else if x = 110 then c else d
def arr4 (ay : Nat → ClassId) (a b c d : Nat) : va_W := [(a, .inl (ay 0, 19, .inl z0)), (b, .inl (ay 0, 64, .inl z0)), (c, .inl (ay 5, 64, .inr (.inl (fun _ => 0)))), (d, .inl (ay 5, 4, .inr (.inl (fun _ => 0))))]
theorem wC_mv {D : va_G} {ay : Nat → ClassId} {f ad : Nat → Nat} {σ : Mem} {H : Heap} (h : ∀ x, x < 108 → ad x = f x) (hP : va_P D vwCl (wC ay f σ) H) : va_P D vwCl (wC ay ad σ) H := by
  intro k q hk
  have hk8 : k < 108 := by
    have := (List.getElem?_eq_some_iff.mp hk).1
    simpa [wC] using this
  rw [wC_get hk8] at hk
  cases hk
  have h0 := hP k _ (wC_get hk8)
  rw [h k hk8]
  rcases Nat.lt_or_ge k 6 with h6 | h6
  · rcases (show k = 0 ∨ k = 1 ∨ k = 2 ∨ k = 3 ∨ k = 4 ∨ k = 5 by omega) with rfl | rfl | rfl | rfl | rfl | rfl
    · have e : kC ay ad σ 0 = kC ay f σ 0 := by
        show (Sum.inr (3, [Value.ref (ad 6), .ref (ad 1), .int (σ 0 2), .int (σ 0 3), .ref (ad 48), .ref (ad 2), .ref (ad 3), .ref (ad 4)]) : va_E) = _
        rw [h 6 (by omega), h 1 (by omega), h 48 (by omega), h 2 (by omega), h 3 (by omega), h 4 (by omega)]; rfl
      rw [e]; exact h0
    · have h0 : H[f 1]? = some (vp_cell (ay 3) (6, .inr (.inr (.inr (.inr (fun k => some (f (12 + 6 * k)))))))) := h0
      show H[f 1]? = some (vp_cell (ay 3) (6, .inr (.inr (.inr (.inr (fun k => some (ad (12 + 6 * k))))))))
      rw [h0, vq_ext (h := fun k => some (ad (12 + 6 * k))) (fun k hk => by rw [h _ (by omega)])]
    · have h0 : H[f 2]? = some (vp_cell (ay 4) (16, .inr (.inr (.inr (.inr (fun k => if k = 0 then none else some (f (44 + 4 * k)))))))) := h0
      show H[f 2]? = some (vp_cell (ay 4) (16, .inr (.inr (.inr (.inr (fun k => if k = 0 then none else some (ad (44 + 4 * k))))))))
      rw [h0, vq_ext (h := fun k => if k = 0 then none else some (ad (44 + 4 * k))) (fun k hk => by rw [h _ (by omega)])]
    · exact h0
    · have e : kC ay ad σ 4 = kC ay f σ 4 := by
        show (Sum.inr (2, [Value.ref (ad 5), .int (σ 4 1), .int (σ 4 2)]) : va_E) = _
        rw [h 5 (by omega)]; rfl
      rw [e]; exact h0
    · exact h0
  · rcases Nat.lt_or_ge k 48 with h48 | h48
    · obtain ⟨i, j, hi, hj, rfl⟩ : ∃ i j, i < 7 ∧ j < 6 ∧ k = 6 + 6 * i + j := ⟨(k - 6) / 6, (k - 6) % 6, by omega, by omega, by omega⟩
      rw [kC_S ⟨i, hi, rfl⟩ hj] at h0 ⊢
      match j, hj with
      | 0, _ =>
        have e : kS ay ad σ (6 + 6 * i) 0 = kS ay f σ (6 + 6 * i) 0 := by
          unfold kS
          simp only [h (6 + 6 * i + 1) (by omega), h (6 + 6 * i + 2) (by omega), h (6 + 6 * i + 3) (by omega), h (6 + 6 * i + 4) (by omega), h (6 + 6 * i + 5) (by omega)]
        rw [e]; exact h0
      | 1, _ => exact h0
      | j + 2, _ => exact h0
    · obtain ⟨i, j, hi, hj, rfl⟩ : ∃ i j, i < 15 ∧ j < 4 ∧ k = 48 + 4 * i + j := ⟨(k - 48) / 4, (k - 48) % 4, by omega, by omega, by omega⟩
      rw [kC_K ⟨i, hi, rfl⟩ hj] at h0 ⊢
      match j, hj with
      | 0, _ =>
        have e : kK ay ad σ (48 + 4 * i) 0 = kK ay f σ (48 + 4 * i) 0 := by
          unfold kK
          simp only [h (48 + 4 * i + 1) (by omega), h (48 + 4 * i + 2) (by omega), h (48 + 4 * i + 3) (by omega)]
        rw [e]; exact h0
      | j + 1, _ => exact h0
theorem wX_of {D : va_G} {ay : Nat → ClassId} {f : Nat → Nat} {a b c d : Nat} {σ : Mem} {H : Heap} (hP : va_P D vwCl (wC ay f σ ++ arr4 ay a b c d) H) : va_P D vwCl (wX ay (adF f a b c d) (σ, (fun _ _ => 0, fun _ _ => 0))) H :=
  (wC_mv (fun x hx => if_pos hx) (P_left hP)).app (P_right hP)
theorem ad_of {A : Nat → Prop} {ay : Nat → ClassId} {f : Nat → Nat} {a b c d : Nat} {σ : Mem} (hD : va_D A (wC ay f σ ++ arr4 ay a b c d)) : axOK (adF f a b c d) ∧ ∀ q, AX (adF f a b c d) q → A q := by
  have g : ∀ x, x < 112 → ∃ e, (wC ay f σ ++ arr4 ay a b c d)[x]? = some (adF f a b c d x, e) := by
    intro x hx
    rcases Nat.lt_or_ge x 108 with h | h
    · refine ⟨kC ay f σ x, ?_⟩
      rw [List.getElem?_append_left (by rw [wC_len]; exact h), wC_get h]
      unfold adF; rw [if_pos h]
    · obtain ⟨j, rfl⟩ : ∃ j, x = 108 + j := ⟨x - 108, by omega⟩
      rw [List.getElem?_append_right (by rw [wC_len]; omega), wC_len, Nat.add_sub_cancel_left]
      rcases (show j = 0 ∨ j = 1 ∨ j = 2 ∨ j = 3 by omega) with rfl | rfl | rfl | rfl <;> exact ⟨_, rfl⟩
  refine ⟨fun i j hi hj e => ?_, fun q hq => ?_⟩
  · obtain ⟨e1, h1⟩ := g i hi
    obtain ⟨e2, h2⟩ := g j hj
    exact hD.1 i j _ _ h1 h2 e
  · obtain ⟨x, hx, rfl⟩ := hq
    obtain ⟨e1, h1⟩ := g x hx
    exact hD.2 _ _ h1
set_option maxHeartbeats 4000000 in
set_option maxRecDepth 100000 in
theorem whole_start {p : Program} {e : Env} {s : State} {m : MethodId} {below : List Frame} {meth : Method} {c : Code} (l : Launch) (hflags : l.flags = flags0) {b L : Nat} {xs : Nat → Int32} (hL : L ≤ 260) (C0 : lw_At p s m meth c b L xs) : W p l e room_1 s m #[Value.ref b] below meth c s.heap [] 0 0 (lw_Z below #[Value.ref b] s) (entryFrame m ([Value.ref b] : List Value).toArray 10) := by
  obtain ⟨hx, hb, hr, hml, hown, hts, hX, hbl, hlocks, hgv⟩ := id C0
  have hT1 : ∀ w ∈ tables_1, w.before #[Value.ref b] s = true := fun w h => hts w (List.mem_append_right _ h)
  have hL1 : ∀ w ∈ wsL_law, w.before #[Value.ref b] s = true := fun w h => hts w (wsL_law_in w h)
  obtain ⟨D, ay, hKK⟩ := first_KK hT1 hL1
  have X : CX D ay p s m #[Value.ref b] meth c cL_law 10 RL ret wsL_law := ⟨hx, hb, hml, hown, hL1, hr, hlocks, hKK⟩
  have hA : ∀ q : Nat, s.heap.size ≤ q → (fun q : Nat => s.heap.size ≤ q) q := fun _ h => h
  have hS : va_S (fun q : Nat => s.heap.size ≤ q) s.heap s.heap [] := va_S.rf
  have hP : va_P D vwCl [] s.heap := fun k q h => by simp at h
  have hD : va_D (fun q : Nat => s.heap.size ≤ q) [] := ⟨fun i j p q h => by simp at h, fun k q h => by simp at h⟩
  have ao1 : va_AO "LeadTimes$State" s := va_AO.of (hT1 _ (List.mem_of_getElem? (i := 55) (by decide +kernel)))
  have ao2 : va_AO "LeadTimes$Course" s := va_AO.of (hT1 _ (List.mem_of_getElem? (i := 82) (by decide +kernel)))
  have n1 : va_Nw (.methodLinkNest RX3 11 yX1_init RX3) s := va_Nw.of rfl (hT1 _ (List.mem_of_getElem? (i := 21) (by decide +kernel)))
  have n2 : va_Nw (.methodLinkNest RX3 46 yX2_init RX3) s := va_Nw.of rfl (hT1 _ (List.mem_of_getElem? (i := 85) (by decide +kernel)))
  have hl := lv_entry ([.ref b]) (n := 10) (Nat.le_of_ble_eq_true rfl)
  rw [lg_entry_eq]
  generalize (lg_sl ([.ref b]) ++ List.replicate (10 - (lg_sl ([.ref b])).length) Slot.unset).toArray = ls at hl ⊢
  have hl : lv_has ls 10 [(0, .ref b)] := hl
  refine va_new (ci := 3) (fs := [.null, .null, .int 0, .int 0, .null, .null, .null, .null]) (C := RX3) (T := TX3) (N := 8) X.x X.b X.ts inlX3 tyX3 tyX3_ok X.ow (X.ts (.classLink RL 32 RX3) (by decide +kernel)) (X.ts (.instantiable RX3 8) (by decide +kernel)) (X.ts (.initialized RX3) (by decide +kernel)) X.k hP hD hS hA rfl (fun j hj => by rcases (show j = 0 ∨ j = 1 ∨ j = 2 ∨ j = 3 ∨ j = 4 ∨ j = 5 ∨ j = 6 ∨ j = 7 by omega) with rfl | rfl | rfl | rfl | rfl | rfl | rfl | rfl <;> rfl) (Nat.le_of_ble_eq_true rfl) (Nat.le_of_ble_eq_true rfl) dL_law_0 (fun q0 H hP hD hS => ?_)
  refine lv_dup X.x X.b dL_law_3 rfl ?_
  refine n_ctorI (As := []) (rest := [.ref q0]) (mc := 107) (ms := 1527) (Px := PX3 D (fun q => s.heap.size ≤ q) s.heap.size q0) X (c_X3_init (h0 := q0) (sz := s.heap.size) hA) (cwI 0 X.ts gL_law_X3_init rfl rfl rfl (X.ts (.initialized RX3) (by decide +kernel)) (X.ts (.methodLink RL 93 yX3_init) (by decide +kernel)) (X.ts (.instanceMethod yX3_init) (by decide +kernel)) rfl (by decide +kernel) ⟨Nat.le_of_ble_eq_true rfl, Nat.le_of_ble_eq_true rfl⟩)
    (fun a U g mk h => ⟨h.1, va_AO.moved (u := U) (U := U.calling g mk a) (Vm.Alike.refl U.vm) h.2.1, va_AO.moved (u := U) (U := U.calling g mk a) (Vm.Alike.refl U.vm) h.2.2.1, va_Nw.same (U := U.calling g mk a) rfl rfl h.2.2.2.1, va_Nw.same (U := U.calling g mk a) rfl rfl h.2.2.2.2⟩)
    (fun U hU hW => ⟨by rw [hU]; exact ⟨hS.1, hP, hD⟩, va_AO.moved hW.alike ao1, va_AO.moved hW.alike ao2, va_Nw.warmM hW n1, va_Nw.warmM hW n2⟩) rfl hl.1 rfl (show 1 + 0 ≤ 8 by omega) dL_law_4 (Nat.le_of_ble_eq_true rfl) (Nat.le_of_ble_eq_true rfl) hS (fun f H locs hf hP hD hS => ?_)
  refine lv_astore_n (lv' := [(1, .ref q0), (0, .ref b)]) X.x X.b dL_law_7 rfl hl (by decide) rfl (fun ls hl => ?_)
  refine lv_bipush (v := 19) X.x X.b dL_law_8 (by decide) ?_
  refine n_prim (w := wC ay f sig0) (v := []) (a0 := (19, .inl z0)) (atype := .int) (ty := .int) X hA 0 rfl rfl (fun _ h => h) (X.ts (.arrayClass .int) (by decide +kernel)) (fun _ => rfl) (by decide) (by decide) (Nat.le_of_ble_eq_true rfl) (Nat.le_of_ble_eq_true rfl) (Nat.le_of_ble_eq_true rfl) dL_law_10 (by rw [List.append_nil]; exact hP) (by rw [List.append_nil]; exact hD) hS (fun o1 H hP hD hS => ?_)
  refine lv_astore_n (lv' := [(2, .ref o1), (1, .ref q0), (0, .ref b)]) X.x X.b dL_law_12 rfl hl (by decide) rfl (fun ls hl => ?_)
  refine lv_bipush (v := 64) X.x X.b dL_law_13 (by decide) ?_
  refine n_prim (w := wC ay f sig0) (v := [(o1, .inl (ay 0, 19, .inl z0))]) (a0 := (64, .inl z0)) (atype := .int) (ty := .int) X hA 0 rfl rfl (fun _ h => h) (X.ts (.arrayClass .int) (by decide +kernel)) (fun _ => rfl) (by decide) (by decide) (Nat.le_of_ble_eq_true rfl) (Nat.le_of_ble_eq_true rfl) (Nat.le_of_ble_eq_true rfl) dL_law_15 hP hD hS (fun o2 H hP hD hS => ?_)
  refine lv_astore_n (lv' := [(3, .ref o2), (2, .ref o1), (1, .ref q0), (0, .ref b)]) X.x X.b dL_law_17 rfl hl (by decide) rfl (fun ls hl => ?_)
  refine lv_bipush (v := 64) X.x X.b dL_law_18 (by decide) ?_
  refine n_prim (w := wC ay f sig0) (v := [(o1, .inl (ay 0, 19, .inl z0)), (o2, .inl (ay 0, 64, .inl z0))]) (a0 := (64, .inr (.inl (fun _ => 0)))) (atype := .long) (ty := .long) X hA 5 rfl rfl (fun _ h => h) (X.ts (.arrayClass .long) (by decide +kernel)) (fun _ => rfl) (by decide) (by decide) (Nat.le_of_ble_eq_true rfl) (Nat.le_of_ble_eq_true rfl) (Nat.le_of_ble_eq_true rfl) dL_law_20 hP hD hS (fun o3 H hP hD hS => ?_)
  refine lv_astore (lv' := [(4, .ref o3), (3, .ref o2), (2, .ref o1), (1, .ref q0), (0, .ref b)]) X.x X.b dL_law_22 hl (by decide) rfl (fun ls hl => ?_)
  refine lv_iconst (v := 4) X.x X.b dL_law_24 (by decide) ?_
  refine n_prim (w := wC ay f sig0) (v := [(o1, .inl (ay 0, 19, .inl z0)), (o2, .inl (ay 0, 64, .inl z0)), (o3, .inl (ay 5, 64, .inr (.inl (fun _ => 0))))]) (a0 := (4, .inr (.inl (fun _ => 0)))) (atype := .long) (ty := .long) X hA 5 rfl rfl (fun _ h => h) (X.ts (.arrayClass .long) (by decide +kernel)) (fun _ => rfl) (by decide) (by decide) (Nat.le_of_ble_eq_true rfl) (Nat.le_of_ble_eq_true rfl) (Nat.le_of_ble_eq_true rfl) dL_law_25 hP hD hS (fun o4 H hP hD hS => ?_)
  refine lv_astore (lv' := [(5, .ref o4), (4, .ref o3), (3, .ref o2), (2, .ref o1), (1, .ref q0), (0, .ref b)]) X.x X.b dL_law_27 hl (by decide) rfl (fun ls hl => ?_)
  obtain ⟨hI, hAX⟩ := ad_of hD
  have hP := wX_of hP
  have ea0 : adF f o1 o2 o3 o4 0 = q0 := hf.1
  have hl : lv_has ls 10 [(5, .ref (adF f o1 o2 o3 o4 111)), (4, .ref (adF f o1 o2 o3 o4 110)), (3, .ref (adF f o1 o2 o3 o4 109)), (2, .ref (adF f o1 o2 o3 o4 108)), (1, .ref (adF f o1 o2 o3 o4 0)), (0, .ref b)] := by rw [ea0]; exact hl
  generalize adF f o1 o2 o3 o4 = ad at hI hAX hP hl
  have hDX : va_D (fun q => s.heap.size ≤ q) (wX ay ad (sig0, (fun _ _ => 0, fun _ _ => 0))) := ⟨(wX_D hI _).1, fun k q hq => hAX _ ((wX_D hI _).2 k q hq)⟩
  refine lv_aload_n X.x X.b dL_law_29 rfl (lv_at hl 3 rfl) ?_
  refine lv_iconst (v := 2) X.x X.b dL_law_30 (by decide) ?_
  refine lv_bipush (v := 50) X.x X.b dL_law_31 (by decide) ?_
  refine va_iast X.x X.b X.k hP hDX hS 108 0 xa_c rfl (by unfold vp_in; decide) dL_law_33 (fun H locs hP _ hS => ?_)
  have hH : LX D ay ad s (sig0, (mu0, fun _ _ => 0)) H := ⟨by have h9 := set_xc (ay := ay) (ad := ad) (τ := (sig0, (fun _ _ => 0, fun _ _ => 0))) (k := 2) (v := 50); exact h9 ▸ hP, ⟨hS.1, hS.2.1, fun _ h => nomatch h⟩⟩
  refine va_forget hS.2.2 ?_
  refine W.widen (k := 112) (n := 1686) (by omega) (by omega) ?_
  have hz0 : zv sig0 6 = lz mu0 := by rw [zv0, lz0]
  obtain ⟨lam1, et⟩ := l_told rmS0.1 hz0 (fun _ _ => 0)
  refine lv_aload_n X.x X.b dL_law_34 rfl (lv_at hl 4 rfl) ?_
  refine lv_aload_n X.x X.b dL_law_35 rfl (lv_at hl 3 rfl) ?_
  refine lv_aload_n X.x X.b dL_law_36 rfl (lv_at hl 2 rfl) ?_
  refine lv_aload X.x X.b dL_law_37 (lv_at hl 1 rfl) ?_
  refine lv_aload X.x X.b dL_law_39 (lv_at hl 0 rfl) ?_
  refine lx_callS (As := [.ref (ad 0), .ref (ad 108), .ref (ad 109), .ref (ad 110), .ref (ad 111)]) (rest := []) X hAX hH (c_L_told hI et) (va_cwS 5 X.ts gL_law_L_told rfl rfl rfl (by decide +kernel) ⟨Nat.le_of_ble_eq_true rfl, Nat.le_of_ble_eq_true rfl⟩) rfl hl.1 rfl (Nat.le_of_ble_eq_true rfl) dL_law_41 (Nat.le_of_ble_eq_true rfl) (Nat.le_of_ble_eq_true rfl) (fun r u H hp hH => ?_)
  have ep : (r, u) = ((1 : Int32), (sig0, (mu0, lam1))) := hp.1
  obtain ⟨rfl, rfl⟩ := Prod.mk.inj ep
  refine lv_if_ne (tgt := 49) X.x X.b dL_law_44 (by decide) (fun _ => ?_) (fun q => absurd q (by decide))
  refine lv_iconst (v := 0) X.x X.b dL_law_49 (by decide) ?_
  refine lv_istore (lv' := [(6, _), (5, _), (4, _), (3, _), (2, _), (1, _), (0, _)]) X.x X.b dL_law_50 hl (by decide) rfl (fun ls hl => ?_)
  refine l_loop X hX hbl hL hI hAX (Nat.le_of_ble_eq_true rfl) (Nat.le_of_ble_eq_true rfl) (fun τ H ls R hH hl => ?_) 40 0 sig0 mu0 lam1 H ls rfl rmS0 hz0 bd0 (fun _ => fs0) (fun q => by omega) hH (lv_sub hl [6, 5, 4, 3, 2, 1, 0] rfl)
  obtain ⟨n9, m1, m2, ec⟩ := q_count6 R.2
  refine lv_aload_n X.x X.b dL_law_149 rfl (lv_at hl 1 rfl) ?_
  refine lv_bipush (v := 6) X.x X.b dL_law_150 (by decide) ?_
  refine lx_callV (As := [.int 6]) (rest := []) X hI hAX hH (c_X3_count hI.c ec) (cwV 1 X.ts gL_law_X3_count rfl rfl rfl (by decide +kernel) ⟨Nat.le_of_ble_eq_true rfl, Nat.le_of_ble_eq_true rfl⟩) rfl hl.1 rfl (Nat.le_of_ble_eq_true rfl) dL_law_152 (Nat.le_of_ble_eq_true rfl) (Nat.le_of_ble_eq_true rfl) (fun r u H hp hH => ?_)
  rw [hp.1]
  refine lv_if_le (tgt := 162) X.x X.b dL_law_155 (by decide) (fun q => absurd ((nI_le_iff (b := 0) (show n9 < 2 ^ 31 by omega) (by decide)).mp q) (by omega)) (fun _ => ?_)
  refine lv_iconst (v := 1) X.x X.b dL_law_158 (by decide) ?_
  refine lv_goto (tgt := 163) X.x X.b dL_law_159 (by decide) ?_
  refine W.widen (k := 600130) (n := 7301080) (by omega) (by omega) ?_
  exact lw_ret hx hb hr hlocks dL_law_163
