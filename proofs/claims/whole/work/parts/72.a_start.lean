/-! the law's start: the two objects, the two cells; then its loop -/
def nLt (q : Nat) : va_W := [(q, .inr (3, [.null, .null, .int 0, .int 0, .null, .null, .null, .null]))]
def nMo (q : Nat) : va_W := [(q, .inr (4, [.null, .null, .int 0, .null, .int 0, .int 0, .int 0, .int 0, .int 0, .null, .int 0, .int 0, .int 0, .int 0, .int 0, .int 0, .null, .null, .null, .null, .int 0, .long 0]))]
def PX3 (D : va_G) (A : Nat → Prop) (sz q : Nat) (U : State) : Prop := (sz ≤ U.heap.size ∧ va_P D vwCl (nLt q) U.heap ∧ va_D A (nLt q)) ∧ va_AO "LeadTimes$State" U ∧ va_AO "LeadTimes$Course" U ∧ va_Nw (.methodLinkNest RX3 11 yX1_init RX3) U ∧ va_Nw (.methodLinkNest RX3 46 yX2_init RX3) U
theorem LA_of {ay : Nat → ClassId} {ad am : Nat → Nat} {oa od sz : Nat} {σ : Mem} {τ : Mem × Int64} {e1 e2 : va_E} (hD : va_D (fun q => sz ≤ q) ((wC ay ad σ ++ wM ay am τ) ++ ([(oa, e1)] ++ [(od, e2)]))) : LA sz ad am oa od := by
  have lC : (wC ay ad σ).length = 108 := wC_len
  have lM : (wM ay am τ).length = 9 := by simp [wM]
  have gC : ∀ x, x < 108 → ((wC ay ad σ ++ wM ay am τ) ++ ([(oa, e1)] ++ [(od, e2)]))[x]? = some (ad x, kC ay ad σ x) := fun x hx => by
    rw [List.getElem?_append_left (by rw [List.length_append]; omega), List.getElem?_append_left (by omega)]; exact wC_get hx
  have gM : ∀ x, x < 9 → ((wC ay ad σ ++ wM ay am τ) ++ ([(oa, e1)] ++ [(od, e2)]))[108 + x]? = some (am x, kM ay am τ x) := fun x hx => by
    rw [List.getElem?_append_left (by rw [List.length_append]; omega), List.getElem?_append_right (by omega), lC, Nat.add_sub_cancel_left]; exact wM_get hx
  have gO : ((wC ay ad σ ++ wM ay am τ) ++ ([(oa, e1)] ++ [(od, e2)]))[117]? = some (oa, e1) := by
    rw [List.getElem?_append_right (by rw [List.length_append]; omega), List.length_append, lC, lM]; rfl
  have gD : ((wC ay ad σ ++ wM ay am τ) ++ ([(oa, e1)] ++ [(od, e2)]))[118]? = some (od, e2) := by
    rw [List.getElem?_append_right (by rw [List.length_append]; omega), List.length_append, lC, lM]; rfl
  refine ⟨fun i j hi hj e => hD.1 i j _ _ (gC i hi) (gC j hj) e, fun i j hi hj e => ?_, fun q hq => ?_, fun q hq => ?_, hD.2 _ _ gO, hD.2 _ _ gD, fun q hq hm => ?_, fun hq => ?_, fun hq => ?_, fun hq => ?_, fun hq => ?_, fun e => ?_⟩
  · have := hD.1 _ _ _ _ (gM i hi) (gM j hj) e; omega
  · obtain ⟨x, hx, rfl⟩ := hq; exact hD.2 _ _ (gC x hx)
  · obtain ⟨x, hx, rfl⟩ := hq; exact hD.2 _ _ (gM x hx)
  · obtain ⟨x, hx, rfl⟩ := hq
    obtain ⟨y, hy, e⟩ := hm
    have := hD.1 _ _ _ _ (gC x hx) (gM y hy) e; omega
  · obtain ⟨x, hx, e⟩ := hq
    have := hD.1 _ _ _ _ gO (gC x hx) e; omega
  · obtain ⟨x, hx, e⟩ := hq
    have := hD.1 _ _ _ _ gD (gC x hx) e; omega
  · obtain ⟨x, hx, e⟩ := hq
    have := hD.1 _ _ _ _ gO (gM x hx) e; omega
  · obtain ⟨x, hx, e⟩ := hq
    have := hD.1 _ _ _ _ gD (gM x hx) e; omega
  · have := hD.1 _ _ _ _ gO gD e; omega
set_option maxHeartbeats 4000000 in
set_option maxRecDepth 100000 in
theorem whole_start {p : Program} {e : Env} {s : State} {m : MethodId} {below : List Frame} {meth : Method} {c : Code} (l : Launch) (hflags : l.flags = flags0) {b L : Nat} {xs : Nat → Int32} (hL : L ≤ 2048) (C0 : lw_At p s m meth c b L xs) : W p l e room_1 s m #[Value.ref b] below meth c s.heap [] 0 0 (lw_Z below #[Value.ref b] s) (entryFrame m ([Value.ref b] : List Value).toArray 9) := by
  obtain ⟨hx, hb, hr, hml, hown, hts, hX, hbl, hlocks, hgv⟩ := id C0
  have hlt : l.stackTraces = false := by
    unfold Launch.stackTraces
    rw [hflags]; decide +kernel
  have hT1 : ∀ w ∈ tables_1, w.before #[Value.ref b] s = true := fun w h => hts w (List.mem_append_right _ h)
  have hL1 : ∀ w ∈ wsL_law, w.before #[Value.ref b] s = true := fun w h => hts w (wsL_law_in w h)
  obtain ⟨D, ay, hKK⟩ := first_KK hT1 hL1
  obtain ⟨sd, hTX⟩ := first_TX hT1 (flat_of_before _ hgv)
  have X : CX D ay p s m #[Value.ref b] meth c cL_law 9 RL ret wsL_law := ⟨hx, hb, hml, hown, hL1, hr, hlocks, hKK⟩
  have hA : ∀ q : Nat, s.heap.size ≤ q → (fun q : Nat => s.heap.size ≤ q) q := fun _ h => h
  have hS : va_S (fun q : Nat => s.heap.size ≤ q) s.heap s.heap [] := va_S.rf
  have hP : va_P D vwCl [] s.heap := fun k q h => by simp at h
  have hD : va_D (fun q : Nat => s.heap.size ≤ q) [] := ⟨fun i j p q h => by simp at h, fun k q h => by simp at h⟩
  have ao1 : va_AO "LeadTimes$State" s := va_AO.of (hT1 _ (List.mem_of_getElem? (i := 58) (by decide +kernel)))
  have ao2 : va_AO "LeadTimes$Course" s := va_AO.of (hT1 _ (List.mem_of_getElem? (i := 85) (by decide +kernel)))
  have n1 : va_Nw (.methodLinkNest RX3 11 yX1_init RX3) s := va_Nw.of rfl (hT1 _ (List.mem_of_getElem? (i := 24) (by decide +kernel)))
  have n2 : va_Nw (.methodLinkNest RX3 46 yX2_init RX3) s := va_Nw.of rfl (hT1 _ (List.mem_of_getElem? (i := 88) (by decide +kernel)))
  have hl := lv_entry ([.ref b]) (n := 9) (Nat.le_of_ble_eq_true rfl)
  rw [lg_entry_eq]
  generalize (lg_sl ([.ref b]) ++ List.replicate (9 - (lg_sl ([.ref b])).length) Slot.unset).toArray = ls at hl ⊢
  have hl : lv_has ls 9 [(0, .ref b)] := hl
  refine va_new (ci := 3) (fs := [.null, .null, .int 0, .int 0, .null, .null, .null, .null]) (C := RX3) (T := TX3) (N := 8) X.x X.b X.ts inlX3 tyX3 tyX3_ok X.ow (X.ts (.classLink RL 8 RX3) (by decide +kernel)) (X.ts (.instantiable RX3 8) (by decide +kernel)) (X.ts (.initialized RX3) (by decide +kernel)) X.k hP hD hS hA rfl (fun j hj => by rcases (show j = 0 ∨ j = 1 ∨ j = 2 ∨ j = 3 ∨ j = 4 ∨ j = 5 ∨ j = 6 ∨ j = 7 by omega) with rfl | rfl | rfl | rfl | rfl | rfl | rfl | rfl <;> rfl) (Nat.le_of_ble_eq_true rfl) (Nat.le_of_ble_eq_true rfl) dL_law_0 (fun q0 H hP hD hS => ?_)
  refine lv_dup X.x X.b dL_law_3 rfl ?_
  refine n_ctorI (As := []) (rest := [.ref q0]) (mc := 107) (ms := 1527) (Px := PX3 D (fun q => s.heap.size ≤ q) s.heap.size q0) X (c_X3_init (h0 := q0) (sz := s.heap.size) hA) (cwI 0 X.ts gL_law_X3_init rfl rfl rfl (X.ts (.initialized RX3) (by decide +kernel)) (X.ts (.methodLink RL 86 yX3_init) (by decide +kernel)) (X.ts (.instanceMethod yX3_init) (by decide +kernel)) rfl (by decide +kernel) ⟨Nat.le_of_ble_eq_true rfl, Nat.le_of_ble_eq_true rfl⟩)
    (fun a U g mk h => ⟨h.1, va_AO.moved (u := U) (U := U.calling g mk a) (Vm.Alike.refl U.vm) h.2.1, va_AO.moved (u := U) (U := U.calling g mk a) (Vm.Alike.refl U.vm) h.2.2.1, va_Nw.same (U := U.calling g mk a) rfl rfl h.2.2.2.1, va_Nw.same (U := U.calling g mk a) rfl rfl h.2.2.2.2⟩)
    (fun U hU hW => ⟨by rw [hU]; exact ⟨hS.1, hP, hD⟩, va_AO.moved hW.alike ao1, va_AO.moved hW.alike ao2, va_Nw.warmM hW n1, va_Nw.warmM hW n2⟩) rfl hl.1 rfl (show 1 + 0 ≤ 8 by omega) dL_law_4 (Nat.le_of_ble_eq_true rfl) (Nat.le_of_ble_eq_true rfl) hS (fun f H locs hf hP hD hS => ?_)
  refine lv_astore_n (lv' := [(1, .ref q0), (0, .ref b)]) X.x X.b dL_law_7 rfl hl (by decide) rfl (fun ls hl => ?_)
  refine va_new (ci := 4) (fs := [.null, .null, .int 0, .null, .int 0, .int 0, .int 0, .int 0, .int 0, .null, .int 0, .int 0, .int 0, .int 0, .int 0, .int 0, .null, .null, .null, .null, .int 0, .long 0]) (C := RX4) (T := TX4) (N := 22) X.x X.b X.ts inlX4 tyX4 tyX4_ok X.ow (X.ts (.classLink RL 87 RX4) (by decide +kernel)) (X.ts (.instantiable RX4 22) (by decide +kernel)) (X.ts (.initialized RX4) (by decide +kernel)) X.k hP hD hS hA rfl (fun j hj => by rcases (show j = 0 ∨ j = 1 ∨ j = 2 ∨ j = 3 ∨ j = 4 ∨ j = 5 ∨ j = 6 ∨ j = 7 ∨ j = 8 ∨ j = 9 ∨ j = 10 ∨ j = 11 ∨ j = 12 ∨ j = 13 ∨ j = 14 ∨ j = 15 ∨ j = 16 ∨ j = 17 ∨ j = 18 ∨ j = 19 ∨ j = 20 ∨ j = 21 by omega) with rfl | rfl | rfl | rfl | rfl | rfl | rfl | rfl | rfl | rfl | rfl | rfl | rfl | rfl | rfl | rfl | rfl | rfl | rfl | rfl | rfl | rfl <;> rfl) (Nat.le_of_ble_eq_true rfl) (Nat.le_of_ble_eq_true rfl) dL_law_8 (fun q1 H hP hD hS => ?_)
  refine lv_dup X.x X.b dL_law_11 rfl ?_
  refine n_ctorI (As := []) (rest := [.ref q1]) (mc := 8) (ms := 756) (Px := fun U => s.heap.size ≤ U.heap.size ∧ va_P D vwCl (wC ay f sig0 ++ nMo q1) U.heap ∧ va_D (fun q => s.heap.size ≤ q) (wC ay f sig0 ++ nMo q1)) X (c_X4_init (w := wC ay f sig0) (h0 := q1) (sz := s.heap.size) hA) (cwI 0 X.ts gL_law_X4_init rfl rfl rfl (X.ts (.initialized RX4) (by decide +kernel)) (X.ts (.methodLink RL 89 yX4_init) (by decide +kernel)) (X.ts (.instanceMethod yX4_init) (by decide +kernel)) rfl (by decide +kernel) ⟨Nat.le_of_ble_eq_true rfl, Nat.le_of_ble_eq_true rfl⟩)
    (fun a U g mk h => h) (fun U hU hW => by rw [hU]; exact ⟨hS.1, hP, hD⟩) rfl hl.1 rfl (show 1 + 0 ≤ 8 by omega) dL_law_12 (Nat.le_of_ble_eq_true rfl) (Nat.le_of_ble_eq_true rfl) hS (fun am H locs ham hP hD hS => ?_)
  refine lv_astore_n (lv' := [(2, .ref q1), (1, .ref q0), (0, .ref b)]) X.x X.b dL_law_15 rfl hl (by decide) rfl (fun ls hl => ?_)
  refine lv_iconst (v := 1) X.x X.b dL_law_16 (by decide) ?_
  refine n_prim (w := wC ay f sig0 ++ wM ay am tau0) (v := []) (a0 := (1, .inr (.inl (fun _ => 0)))) (atype := .long) (ty := .long) X hA 5 rfl rfl (fun _ h => h) (X.ts (.arrayClass .long) (by decide +kernel)) (fun _ => rfl) (by decide) (by decide) (Nat.le_of_ble_eq_true rfl) (Nat.le_of_ble_eq_true rfl) (Nat.le_of_ble_eq_true rfl) dL_law_17 (by rw [List.append_nil]; exact hP) (by rw [List.append_nil]; exact hD) hS (fun oa H hP hD hS => ?_)
  refine lv_astore_n (lv' := [(3, .ref oa), (2, .ref q1), (1, .ref q0), (0, .ref b)]) X.x X.b dL_law_19 rfl hl (by decide) rfl (fun ls hl => ?_)
  refine lv_iconst (v := 1) X.x X.b dL_law_20 (by decide) ?_
  refine n_prim (w := wC ay f sig0 ++ wM ay am tau0) (v := [(oa, .inl (ay 5, 1, .inr (.inl (fun _ => 0))))]) (a0 := (1, .inr (.inr (.inr (.inl (fun _ => 0)))))) (atype := .double) (ty := .double) X hA 6 rfl rfl (fun _ h => h) (X.ts (.arrayClass .double) (by decide +kernel)) (fun _ => rfl) (by decide) (by decide) (Nat.le_of_ble_eq_true rfl) (Nat.le_of_ble_eq_true rfl) (Nat.le_of_ble_eq_true rfl) dL_law_21 hP hD hS (fun od H hP hD hS => ?_)
  refine lv_astore (lv' := [(4, .ref od), (3, .ref oa), (2, .ref q1), (1, .ref q0), (0, .ref b)]) X.x X.b dL_law_23 hl (by decide) rfl (fun ls hl => ?_)
  refine lv_iconst (v := 0) X.x X.b dL_law_25 (by decide) ?_
  refine lv_istore (lv' := [(5, .int 0), (4, .ref od), (3, .ref oa), (2, .ref q1), (1, .ref q0), (0, .ref b)]) X.x X.b dL_law_26 hl (by decide) rfl (fun ls hl => ?_)
  have hLA := LA_of hD
  have hLH : LH D ay f am oa od s sig0 tau0 0 0 H := by
    refine ⟨P_left (P_left hP), P_right (P_left hP), ?_, ?_, ⟨hS.1, hS.2.1, fun _ h => nomatch h⟩⟩
    · have e : oL ay oa 0 = [(oa, .inl (ay 5, 1, .inr (.inl (fun _ => 0))))] := by
        have ez : (fun j : Nat => if j = 0 then (0 : Int64) else 0) = fun _ => 0 := by funext j; split <;> rfl
        unfold oL
        rw [ez]
      rw [e]; exact P_left (P_right hP)
    · have e : oD ay od 0 = [(od, .inl (ay 6, 1, .inr (.inr (.inr (.inl (fun _ => 0))))))] := by
        have ez : (fun j : Nat => if j = 0 then (0 : UInt64) else 0) = fun _ => 0 := by funext j; split <;> rfl
        unfold oD
        rw [ez]
      rw [e]; exact P_right (P_right hP)
  refine va_forget hS.2.2 ?_
  refine W.widen (k := 119 + 0) (n := 2315 + 6 * 0) (by omega) (by omega) ?_
  refine k_loop hlt X hX hbl hLA hTX hL (c0 := 119) (s0 := 2315) (by omega) (by omega) (fun H ls cells slots h1 h2 => ?_) 513 0 sig0 tau0 0 0 H ls (by omega) (by omega) rel0 hLH (by rw [hf.1, ham]; exact lv_sub hl [5, 4, 3, 2, 1, 0] rfl)
  refine lv_iconst (v := 1) X.x X.b dL_law_1555 (by decide) ?_
  refine W.widen (k := 601024) (n := 7293034) h1 h2 ?_
  exact W.base (lw_ret (d0 := s.drawn) (Drawn.sameBut.refl s.drawn lw_cs) hx hb hr hlocks dL_law_1556)
