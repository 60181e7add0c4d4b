/-! the law's own world: the class's, the reference's, the two cells of the answers; its calls -/
def LH (D : va_G) (ay : Nat → ClassId) (ad am : Nat → Nat) (oa od : Nat) (s : State) (σ : Mem) (τ : Mem × Int64) (ov : Int64) (dv : UInt64) (H : Heap) : Prop :=
  va_P D vwCl (wC ay ad σ) H ∧ va_P D vwCl (wM ay am τ) H ∧ va_P D vwCl (oL ay oa ov) H ∧ va_P D vwCl (oD ay od dv) H ∧ va_S (fun q => s.heap.size ≤ q) s.heap H []
def LA (sz : Nat) (ad am : Nat → Nat) (oa od : Nat) : Prop :=
  adOK ad ∧ amOK am ∧ (∀ q, AC ad q → sz ≤ q) ∧ (∀ q, AM am q → sz ≤ q) ∧ sz ≤ oa ∧ sz ≤ od ∧ (∀ q, AC ad q → ¬ AM am q) ∧ ¬ AC ad oa ∧ ¬ AC ad od ∧ ¬ AM am oa ∧ ¬ AM am od ∧ oa ≠ od
theorem wM_in {ay : Nat → ClassId} {am : Nat → Nat} {τ : Mem × Int64} {k : Nat} {q : Nat × va_E} (h : (wM ay am τ)[k]? = some q) : AM am q.1 := by
  have hk : k < 9 := by
    have := (List.getElem?_eq_some_iff.mp h).1
    simpa [wM] using this
  rw [wM_get hk] at h
  cases h
  exact ⟨k, hk, rfl⟩
theorem wC_in {ay : Nat → ClassId} {ad : Nat → Nat} {σ : Mem} {k : Nat} {q : Nat × va_E} (h : (wC ay ad σ)[k]? = some q) : AC ad q.1 := by
  have hk : k < 108 := by
    have := (List.getElem?_eq_some_iff.mp h).1
    simpa [wC] using this
  rw [wC_get hk] at h
  cases h
  exact ⟨k, hk, rfl⟩
theorem lg_cmp_same {x y : Int64} (h : x = y) : lg_cmp x y = 0 := by
  subst h
  unfold lg_cmp
  rw [if_neg (by simp [gt_iff_lt, Int64.lt_iff_toInt_lt]), if_pos rfl]
section LC
variable {D : va_G} {ay : Nat → ClassId} {ad am : Nat → Nat} {oa od : Nat} {p : Program} {l : Launch} {e : Env} {R : Room} {s : State} {m : MethodId} {args : Array Value} {below : List Frame} {meth : Method} {c : Code} {Q : State → Prop} {sd : Nat → Nat}
variable {cc : ByteArray} {nL : Nat} {own : String} {rt : Option FieldType} {Ts : List Cond} {pc : Nat} {ls : Array Slot} {H : Heap} {cells slots : Nat} {σ σ' : Mem} {τ τ' : Mem × Int64} {ov ov' : Int64} {dv dv' : UInt64}
variable {b L : Nat} {xs : Nat → Int32}
theorem lc_sld (X : CX D ay p s m args meth c cc nL own rt Ts) (hX : va_X b L xs s s.heap) (hb : b < s.heap.size) (hH : LH D ay ad am oa od s σ τ ov dv H) {i : Int32} {rest : List Value} (hin : vp_in i L) (d : decode cc pc = .ok (.iaload, 1)) (k : W p l e R s m args below meth c H [] cells slots Q (F0 m (pc + 1) ls (.int (xs i.toNatClampNeg) :: rest))) : W p l e R s m args below meth c H [] cells slots Q (F0 m pc ls (.int i :: .ref b :: rest)) :=
  va_sld (A := fun q => s.heap.size ≤ q) (H0 := s.heap) X.x X.b hX hb (Nat.not_le.mpr hb) hH.2.2.2.2 hin d k
theorem lc_slen (X : CX D ay p s m args meth c cc nL own rt Ts) (hX : va_X b L xs s s.heap) (hb : b < s.heap.size) (hH : LH D ay ad am oa od s σ τ ov dv H) {rest : List Value} (d : decode cc pc = .ok (.arraylength, 1)) (k : W p l e R s m args below meth c H [] cells slots Q (F0 m (pc + 1) ls (.int (Int32.ofNat L) :: rest))) : W p l e R s m args below meth c H [] cells slots Q (F0 m pc ls (.ref b :: rest)) :=
  va_slen (A := fun q => s.heap.size ≤ q) (H0 := s.heap) X.x X.b hX hb (Nat.not_le.mpr hb) hH.2.2.2.2 d k
theorem lc_lald (X : CX D ay p s m args meth c cc nL own rt Ts) (hH : LH D ay ad am oa od s σ τ ov dv H) {rest : List Value} (d : decode cc pc = .ok (.laload, 1)) (k : W p l e R s m args below meth c H [] cells slots Q (F0 m (pc + 1) ls (.long ov :: rest))) : W p l e R s m args below meth c H [] cells slots Q (F0 m pc ls (.int 0 :: .ref oa :: rest)) := by
  refine va_lald X.x X.b X.k hH.2.2.1 0 5 (i := 0) rfl rfl (by unfold vp_in; decide) d ?_
  have e0 : (if (0 : Int32).toNatClampNeg = 0 then ov else 0) = ov := if_pos (by decide)
  show W p l e R s m args below meth c H [] cells slots Q (F0 m (pc + 1) ls (.long (if (0 : Int32).toNatClampNeg = 0 then ov else 0) :: rest))
  rw [e0]
  exact k
theorem lc_dald (X : CX D ay p s m args meth c cc nL own rt Ts) (hH : LH D ay ad am oa od s σ τ ov dv H) {rest : List Value} (d : decode cc pc = .ok (.daload, 1)) (k : W p l e R s m args below meth c H [] cells slots Q (F0 m (pc + 1) ls (.double dv :: rest))) : W p l e R s m args below meth c H [] cells slots Q (F0 m pc ls (.int 0 :: .ref od :: rest)) := by
  refine va_dald X.x X.b X.k hH.2.2.2.1 0 6 (i := 0) rfl rfl (by unfold vp_in; decide) d ?_
  have e0 : (if (0 : Int32).toNatClampNeg = 0 then dv else 0) = dv := if_pos (by decide)
  show W p l e R s m args below meth c H [] cells slots Q (F0 m (pc + 1) ls (.double (if (0 : Int32).toNatClampNeg = 0 then dv else 0) :: rest))
  rw [e0]
  exact k
theorem oL_in {k : Nat} {q : Nat × va_E} (h : (oL ay oa ov)[k]? = some q) : q.1 = oa := oL_at h
theorem oD_in {k : Nat} {q : Nat × va_E} (h : (oD ay od dv)[k]? = some q) : q.1 = od := oD_at h
variable {y : MethodName} {bytes : ByteArray} {maxL index n mc ms : Nat} {rt9 : Option FieldType} {ws : List Cond} {rm : Room} {As rest st0 : List Value} {hh : List (Nat × Nat × Nat × Nat)}
theorem lc_W (X : CX D ay p s m args meth c cc nL RL rt Ts) (hA : LA s.heap.size ad am oa od) (hT : TX (fun q => s.heap.size ≤ q) sd s) (hH : LH D ay ad am oa od s σ τ ov dv H) {r : Int32}
    (hM : Met l y ws rm (va_Pc As (fun U => PP D ay (wL ay ad oa (σ, ov)) U ∧ TX (A2 ad oa) sd U)) (va_Qi (pE (r, (σ', ov'))) (fun u => PP D ay (wL ay ad oa u)) (A2 ad oa)) mc ms (A2 ad oa)) (cw : vx_CSW R s args RL index y bytes maxL rt9 hh ws rm mc ms n)
    (hn : As.length = n) (hl : ls.size = nL) (hst : st0 = As.reverse ++ rest) (hcat : (rest.map fun v => v.category).sum ≤ 8) (d : decode cc pc = .ok (.invokestatic index, 3)) (hmc : cells + mc ≤ R.cells) (hms : slots + ms ≤ R.slots)
    (k : ∀ H' : Heap, LH D ay ad am oa od s σ' τ ov' dv H' → W p l e R s m args below meth c H' [] (cells + mc) (slots + ms) Q (F0 m (pc + 3) ls (.int r :: rest))) : W p l e R s m args below meth c H [] cells slots Q (F0 m pc ls st0) := by
  obtain ⟨hC, hMo, hO, hDo, hS⟩ := hH
  obtain ⟨a1, a2, a3, a4, a5, a6, a7, a8, a9, a10, a11, a12⟩ := hA
  have hsub : ∀ q, A2 ad oa q → s.heap.size ≤ q := fun q h => h.elim (a3 q) (fun h => by rw [h]; exact a5)
  refine va_calli (A0 := fun q => s.heap.size ≤ q) (H0 := s.heap) (vx_runSW (As := As) (rest := rest) X.fix hM cw ⟨PT_blind, fun U hU hW => ⟨rfl, ⟨by rw [hU]; exact hC.app hO, KK.warm hW X.kk⟩, (TX.warm hW (fun q q1 q2 => by rw [hU]; exact hS.2.1 q q1 q2) hT).narrow hsub⟩⟩ rfl hn hl hst (lv_room hcat) d ⟨hmc, hms⟩) hS (fun q _ h => hsub q h) hsub (fun r1 u t H1 locs1 ht hvm hw hB hz hk hS1 => ?_)
  have hw : (r1, u) = (r, (σ', ov')) := hw
  obtain ⟨rfl, rfl⟩ := Prod.mk.inj hw
  have hP := hB.1
  rw [ht] at hP
  refine va_forget hS1.2.2 (k H1 ⟨P_left hP, hMo.kept (fun k9 q hq => hk q.1 ((hMo k9 q hq).lt) (fun h => ?_)), P_right hP, hDo.kept (fun k9 q hq => hk q.1 ((hDo k9 q hq).lt) (fun h => ?_)), ⟨hS1.1, hS1.2.1, fun _ h => nomatch h⟩⟩)
  · rcases h with h | h
    · exact a7 _ h (wM_in hq)
    · exact a10 (by rw [← h]; exact wM_in hq)
  · rw [oD_at hq] at h
    rcases h with h | h
    · exact a9 h
    · exact a12 h.symm
theorem lc_WD (X : CX D ay p s m args meth c cc nL RL rt Ts) (hA : LA s.heap.size ad am oa od) (hT : TX (fun q => s.heap.size ≤ q) sd s) (hH : LH D ay ad am oa od s σ τ ov dv H) {r : Int32}
    (hM : Met l y ws rm (va_Pc As (fun U => PP D ay (wV ay ad od (σ, dv)) U ∧ TX (A2 ad od) sd U)) (va_Qi (pE (r, (σ', dv'))) (fun u => PP D ay (wV ay ad od u)) (A2 ad od)) mc ms (A2 ad od)) (cw : vx_CSW R s args RL index y bytes maxL rt9 hh ws rm mc ms n)
    (hn : As.length = n) (hl : ls.size = nL) (hst : st0 = As.reverse ++ rest) (hcat : (rest.map fun v => v.category).sum ≤ 8) (d : decode cc pc = .ok (.invokestatic index, 3)) (hmc : cells + mc ≤ R.cells) (hms : slots + ms ≤ R.slots)
    (k : ∀ H' : Heap, LH D ay ad am oa od s σ' τ ov dv' H' → W p l e R s m args below meth c H' [] (cells + mc) (slots + ms) Q (F0 m (pc + 3) ls (.int r :: rest))) : W p l e R s m args below meth c H [] cells slots Q (F0 m pc ls st0) := by
  obtain ⟨hC, hMo, hO, hDo, hS⟩ := hH
  obtain ⟨a1, a2, a3, a4, a5, a6, a7, a8, a9, a10, a11, a12⟩ := hA
  have hsub : ∀ q, A2 ad od q → s.heap.size ≤ q := fun q h => h.elim (a3 q) (fun h => by rw [h]; exact a6)
  refine va_calli (A0 := fun q => s.heap.size ≤ q) (H0 := s.heap) (vx_runSW (As := As) (rest := rest) X.fix hM cw ⟨PT_blind, fun U hU hW => ⟨rfl, ⟨by rw [hU]; exact hC.app hDo, KK.warm hW X.kk⟩, (TX.warm hW (fun q q1 q2 => by rw [hU]; exact hS.2.1 q q1 q2) hT).narrow hsub⟩⟩ rfl hn hl hst (lv_room hcat) d ⟨hmc, hms⟩) hS (fun q _ h => hsub q h) hsub (fun r1 u t H1 locs1 ht hvm hw hB hz hk hS1 => ?_)
  have hw : (r1, u) = (r, (σ', dv')) := hw
  obtain ⟨rfl, rfl⟩ := Prod.mk.inj hw
  have hP := hB.1
  rw [ht] at hP
  refine va_forget hS1.2.2 (k H1 ⟨P_left hP, hMo.kept (fun k9 q hq => hk q.1 ((hMo k9 q hq).lt) (fun h => ?_)), hO.kept (fun k9 q hq => hk q.1 ((hO k9 q hq).lt) (fun h => ?_)), P_right hP, ⟨hS1.1, hS1.2.1, fun _ h => nomatch h⟩⟩)
  · rcases h with h | h
    · exact a7 _ h (wM_in hq)
    · exact a11 (by rw [← h]; exact wM_in hq)
  · rw [oL_at hq] at h
    rcases h with h | h
    · exact a8 h
    · exact a12 h
theorem lc_MiE (X : CX D ay p s m args meth c cc nL own rt Ts) (hA : LA s.heap.size ad am oa od) (hH : LH D ay ad am oa od s σ τ ov dv H) {v : Int32}
    (hM : Met l y ws rm (va_Pc (.ref (am 0) :: As) (PP D ay (wM ay am τ))) (va_Qi (pE (v, τ')) (fun u => PP D ay (wM ay am u)) (AM am)) 0 0 (AM am)) (cw : CallW R s args own RX4 index y bytes maxL rt9 ws rm 0 0 n)
    (hn : As.length = n) (hl : ls.size = nL) (hst : st0 = As.reverse ++ .ref (am 0) :: rest) (hcat : (rest.map fun v => v.category).sum ≤ 8) (d : decode cc pc = .ok (.invokevirtual index, 3)) (hmc : cells ≤ R.cells) (hms : slots ≤ R.slots)
    (k : ∀ H' : Heap, LH D ay ad am oa od s σ τ' ov dv H' → W p l e R s m args below meth c H' [] cells slots Q (F0 m (pc + 3) ls (.int v :: rest))) : W p l e R s m args below meth c H [] cells slots Q (F0 m pc ls st0) := by
  obtain ⟨hC, hMo, hO, hDo, hS⟩ := hH
  obtain ⟨a1, a2, a3, a4, a5, a6, a7, a8, a9, a10, a11, a12⟩ := hA
  refine va_calli (A0 := fun q => s.heap.size ≤ q) (H0 := s.heap) (va_runV (As := As) (rest := rest) X.fix hM cw ⟨PP_blind, va_recv X.k hMo (q0 := 0) (ci := 4) rfl mo_obj, fun U hU hW => ⟨rfl, by rw [hU]; exact hMo, KK.warm hW X.kk⟩⟩ rfl hn hl hst (lv_room hcat) d ⟨hmc, hms⟩) hS (fun q _ h => a4 q h) a4 (fun r1 u t H1 locs1 ht hvm hw hB hz hk hS1 => ?_)
  have hw : (r1, u) = (v, τ') := hw
  obtain ⟨rfl, rfl⟩ := Prod.mk.inj hw
  have hP := hB.1
  rw [ht] at hP
  exact va_forget hS1.2.2 (k H1 ⟨hC.kept (fun k9 q hq => hk q.1 ((hC k9 q hq).lt) (a7 _ (wC_in hq))), hP, hO.kept (fun k9 q hq => hk q.1 ((hO k9 q hq).lt) (by rw [oL_at hq]; exact a10)), hDo.kept (fun k9 q hq => hk q.1 ((hDo k9 q hq).lt) (by rw [oD_at hq]; exact a11)), ⟨hS1.1, hS1.2.1, fun _ h => nomatch h⟩⟩)
theorem lc_CiE (X : CX D ay p s m args meth c cc nL own rt Ts) (hA : LA s.heap.size ad am oa od) (hH : LH D ay ad am oa od s σ τ ov dv H) {v : Int32}
    (hM : Met l y ws rm (va_Pc (.ref (ad 0) :: As) (PP D ay (wC ay ad σ))) (va_Qi (pE (v, σ')) (fun u => PP D ay (wC ay ad u)) (AC ad)) 0 0 (AC ad)) (cw : CallW R s args own RX3 index y bytes maxL rt9 ws rm 0 0 n)
    (hn : As.length = n) (hl : ls.size = nL) (hst : st0 = As.reverse ++ .ref (ad 0) :: rest) (hcat : (rest.map fun v => v.category).sum ≤ 8) (d : decode cc pc = .ok (.invokevirtual index, 3)) (hmc : cells ≤ R.cells) (hms : slots ≤ R.slots)
    (k : ∀ H' : Heap, LH D ay ad am oa od s σ' τ ov dv H' → W p l e R s m args below meth c H' [] cells slots Q (F0 m (pc + 3) ls (.int v :: rest))) : W p l e R s m args below meth c H [] cells slots Q (F0 m pc ls st0) := by
  obtain ⟨hC, hMo, hO, hDo, hS⟩ := hH
  obtain ⟨a1, a2, a3, a4, a5, a6, a7, a8, a9, a10, a11, a12⟩ := hA
  refine va_calli (A0 := fun q => s.heap.size ≤ q) (H0 := s.heap) (va_runV (As := As) (rest := rest) X.fix hM cw ⟨PP_blind, va_recv X.k hC (q0 := 0) (ci := 3) rfl lt_obj, fun U hU hW => ⟨rfl, by rw [hU]; exact hC, KK.warm hW X.kk⟩⟩ rfl hn hl hst (lv_room hcat) d ⟨hmc, hms⟩) hS (fun q _ h => a3 q h) a3 (fun r1 u t H1 locs1 ht hvm hw hB hz hk hS1 => ?_)
  have hw : (r1, u) = (v, σ') := hw
  obtain ⟨rfl, rfl⟩ := Prod.mk.inj hw
  have hP := hB.1
  rw [ht] at hP
  exact va_forget hS1.2.2 (k H1 ⟨hP, hMo.kept (fun k9 q hq => hk q.1 ((hMo k9 q hq).lt) (fun h => a7 _ h (wM_in hq))), hO.kept (fun k9 q hq => hk q.1 ((hO k9 q hq).lt) (by rw [oL_at hq]; exact a8)), hDo.kept (fun k9 q hq => hk q.1 ((hDo k9 q hq).lt) (by rw [oD_at hq]; exact a9)), ⟨hS1.1, hS1.2.1, fun _ h => nomatch h⟩⟩)
theorem lc_MiP (X : CX D ay p s m args meth c cc nL own rt Ts) (hA : LA s.heap.size ad am oa od) (hH : LH D ay ad am oa od s σ τ ov dv H) {v : Int32}
    (hM : Met l y ws rm (va_Pc (.ref (am 0) :: As) (PP D ay (wM ay am τ))) (va_Qi (pP v τ) (fun u => PP D ay (wM ay am u)) (AM am)) 0 0 (AM am)) (cw : CallW R s args own RX4 index y bytes maxL rt9 ws rm 0 0 n)
    (hn : As.length = n) (hl : ls.size = nL) (hst : st0 = As.reverse ++ .ref (am 0) :: rest) (hcat : (rest.map fun v => v.category).sum ≤ 8) (d : decode cc pc = .ok (.invokevirtual index, 3)) (hmc : cells ≤ R.cells) (hms : slots ≤ R.slots)
    (k : ∀ H' : Heap, LH D ay ad am oa od s σ τ ov dv H' → W p l e R s m args below meth c H' [] cells slots Q (F0 m (pc + 3) ls (.int v :: rest))) : W p l e R s m args below meth c H [] cells slots Q (F0 m pc ls st0) := by
  obtain ⟨hC, hMo, hO, hDo, hS⟩ := hH
  obtain ⟨a1, a2, a3, a4, a5, a6, a7, a8, a9, a10, a11, a12⟩ := hA
  refine va_calli (A0 := fun q => s.heap.size ≤ q) (H0 := s.heap) (va_runV (As := As) (rest := rest) X.fix hM cw ⟨PP_blind, va_recv X.k hMo (q0 := 0) (ci := 4) rfl mo_obj, fun U hU hW => ⟨rfl, by rw [hU]; exact hMo, KK.warm hW X.kk⟩⟩ rfl hn hl hst (lv_room hcat) d ⟨hmc, hms⟩) hS (fun q _ h => a4 q h) a4 (fun r1 u t H1 locs1 ht hvm hw hB hz hk hS1 => ?_)
  have hw : r1 = v ∧ u = τ := hw
  obtain ⟨rfl, rfl⟩ := hw
  have hP := hB.1
  rw [ht] at hP
  exact va_forget hS1.2.2 (k H1 ⟨hC.kept (fun k9 q hq => hk q.1 ((hC k9 q hq).lt) (a7 _ (wC_in hq))), hP, hO.kept (fun k9 q hq => hk q.1 ((hO k9 q hq).lt) (by rw [oL_at hq]; exact a10)), hDo.kept (fun k9 q hq => hk q.1 ((hDo k9 q hq).lt) (by rw [oD_at hq]; exact a11)), ⟨hS1.1, hS1.2.1, fun _ h => nomatch h⟩⟩)
theorem lc_CiP (X : CX D ay p s m args meth c cc nL own rt Ts) (hA : LA s.heap.size ad am oa od) (hH : LH D ay ad am oa od s σ τ ov dv H) {v : Int32}
    (hM : Met l y ws rm (va_Pc (.ref (ad 0) :: As) (PP D ay (wC ay ad σ))) (va_Qi (pP v σ) (fun u => PP D ay (wC ay ad u)) (AC ad)) 0 0 (AC ad)) (cw : CallW R s args own RX3 index y bytes maxL rt9 ws rm 0 0 n)
    (hn : As.length = n) (hl : ls.size = nL) (hst : st0 = As.reverse ++ .ref (ad 0) :: rest) (hcat : (rest.map fun v => v.category).sum ≤ 8) (d : decode cc pc = .ok (.invokevirtual index, 3)) (hmc : cells ≤ R.cells) (hms : slots ≤ R.slots)
    (k : ∀ H' : Heap, LH D ay ad am oa od s σ τ ov dv H' → W p l e R s m args below meth c H' [] cells slots Q (F0 m (pc + 3) ls (.int v :: rest))) : W p l e R s m args below meth c H [] cells slots Q (F0 m pc ls st0) := by
  obtain ⟨hC, hMo, hO, hDo, hS⟩ := hH
  obtain ⟨a1, a2, a3, a4, a5, a6, a7, a8, a9, a10, a11, a12⟩ := hA
  refine va_calli (A0 := fun q => s.heap.size ≤ q) (H0 := s.heap) (va_runV (As := As) (rest := rest) X.fix hM cw ⟨PP_blind, va_recv X.k hC (q0 := 0) (ci := 3) rfl lt_obj, fun U hU hW => ⟨rfl, by rw [hU]; exact hC, KK.warm hW X.kk⟩⟩ rfl hn hl hst (lv_room hcat) d ⟨hmc, hms⟩) hS (fun q _ h => a3 q h) a3 (fun r1 u t H1 locs1 ht hvm hw hB hz hk hS1 => ?_)
  have hw : r1 = v ∧ u = σ := hw
  obtain ⟨rfl, rfl⟩ := hw
  have hP := hB.1
  rw [ht] at hP
  exact va_forget hS1.2.2 (k H1 ⟨hP, hMo.kept (fun k9 q hq => hk q.1 ((hMo k9 q hq).lt) (fun h => a7 _ h (wM_in hq))), hO.kept (fun k9 q hq => hk q.1 ((hO k9 q hq).lt) (by rw [oL_at hq]; exact a8)), hDo.kept (fun k9 q hq => hk q.1 ((hDo k9 q hq).lt) (by rw [oD_at hq]; exact a9)), ⟨hS1.1, hS1.2.1, fun _ h => nomatch h⟩⟩)
theorem lc_MlE (X : CX D ay p s m args meth c cc nL own rt Ts) (hA : LA s.heap.size ad am oa od) (hH : LH D ay ad am oa od s σ τ ov dv H) {v : Int64}
    (hM : Met l y ws rm (va_Pc (.ref (am 0) :: As) (PP D ay (wM ay am τ))) (va_Ql (pE (v, τ')) (fun u => PP D ay (wM ay am u)) (AM am)) 0 0 (AM am)) (cw : CallW R s args own RX4 index y bytes maxL rt9 ws rm 0 0 n)
    (hn : As.length = n) (hl : ls.size = nL) (hst : st0 = As.reverse ++ .ref (am 0) :: rest) (hcat : (rest.map fun v => v.category).sum ≤ 8) (d : decode cc pc = .ok (.invokevirtual index, 3)) (hmc : cells ≤ R.cells) (hms : slots ≤ R.slots)
    (k : ∀ H' : Heap, LH D ay ad am oa od s σ τ' ov dv H' → W p l e R s m args below meth c H' [] cells slots Q (F0 m (pc + 3) ls (.long v :: rest))) : W p l e R s m args below meth c H [] cells slots Q (F0 m pc ls st0) := by
  obtain ⟨hC, hMo, hO, hDo, hS⟩ := hH
  obtain ⟨a1, a2, a3, a4, a5, a6, a7, a8, a9, a10, a11, a12⟩ := hA
  refine va_calll (A0 := fun q => s.heap.size ≤ q) (H0 := s.heap) (va_runV (As := As) (rest := rest) X.fix hM cw ⟨PP_blind, va_recv X.k hMo (q0 := 0) (ci := 4) rfl mo_obj, fun U hU hW => ⟨rfl, by rw [hU]; exact hMo, KK.warm hW X.kk⟩⟩ rfl hn hl hst (lv_room hcat) d ⟨hmc, hms⟩) hS (fun q _ h => a4 q h) a4 (fun r1 u t H1 locs1 ht hvm hw hB hz hk hS1 => ?_)
  have hw : (r1, u) = (v, τ') := hw
  obtain ⟨rfl, rfl⟩ := Prod.mk.inj hw
  have hP := hB.1
  rw [ht] at hP
  exact va_forget hS1.2.2 (k H1 ⟨hC.kept (fun k9 q hq => hk q.1 ((hC k9 q hq).lt) (a7 _ (wC_in hq))), hP, hO.kept (fun k9 q hq => hk q.1 ((hO k9 q hq).lt) (by rw [oL_at hq]; exact a10)), hDo.kept (fun k9 q hq => hk q.1 ((hDo k9 q hq).lt) (by rw [oD_at hq]; exact a11)), ⟨hS1.1, hS1.2.1, fun _ h => nomatch h⟩⟩)
theorem lc_MlP (X : CX D ay p s m args meth c cc nL own rt Ts) (hA : LA s.heap.size ad am oa od) (hH : LH D ay ad am oa od s σ τ ov dv H) {v : Int64}
    (hM : Met l y ws rm (va_Pc (.ref (am 0) :: As) (PP D ay (wM ay am τ))) (va_Ql (pP v τ) (fun u => PP D ay (wM ay am u)) (AM am)) 0 0 (AM am)) (cw : CallW R s args own RX4 index y bytes maxL rt9 ws rm 0 0 n)
    (hn : As.length = n) (hl : ls.size = nL) (hst : st0 = As.reverse ++ .ref (am 0) :: rest) (hcat : (rest.map fun v => v.category).sum ≤ 8) (d : decode cc pc = .ok (.invokevirtual index, 3)) (hmc : cells ≤ R.cells) (hms : slots ≤ R.slots)
    (k : ∀ H' : Heap, LH D ay ad am oa od s σ τ ov dv H' → W p l e R s m args below meth c H' [] cells slots Q (F0 m (pc + 3) ls (.long v :: rest))) : W p l e R s m args below meth c H [] cells slots Q (F0 m pc ls st0) := by
  obtain ⟨hC, hMo, hO, hDo, hS⟩ := hH
  obtain ⟨a1, a2, a3, a4, a5, a6, a7, a8, a9, a10, a11, a12⟩ := hA
  refine va_calll (A0 := fun q => s.heap.size ≤ q) (H0 := s.heap) (va_runV (As := As) (rest := rest) X.fix hM cw ⟨PP_blind, va_recv X.k hMo (q0 := 0) (ci := 4) rfl mo_obj, fun U hU hW => ⟨rfl, by rw [hU]; exact hMo, KK.warm hW X.kk⟩⟩ rfl hn hl hst (lv_room hcat) d ⟨hmc, hms⟩) hS (fun q _ h => a4 q h) a4 (fun r1 u t H1 locs1 ht hvm hw hB hz hk hS1 => ?_)
  have hw : r1 = v ∧ u = τ := hw
  obtain ⟨rfl, rfl⟩ := hw
  have hP := hB.1
  rw [ht] at hP
  exact va_forget hS1.2.2 (k H1 ⟨hC.kept (fun k9 q hq => hk q.1 ((hC k9 q hq).lt) (a7 _ (wC_in hq))), hP, hO.kept (fun k9 q hq => hk q.1 ((hO k9 q hq).lt) (by rw [oL_at hq]; exact a10)), hDo.kept (fun k9 q hq => hk q.1 ((hDo k9 q hq).lt) (by rw [oD_at hq]; exact a11)), ⟨hS1.1, hS1.2.1, fun _ h => nomatch h⟩⟩)
theorem lc_ClP (X : CX D ay p s m args meth c cc nL own rt Ts) (hA : LA s.heap.size ad am oa od) (hH : LH D ay ad am oa od s σ τ ov dv H) {v : Int64}
    (hM : Met l y ws rm (va_Pc (.ref (ad 0) :: As) (PP D ay (wC ay ad σ))) (va_Ql (pP v σ) (fun u => PP D ay (wC ay ad u)) (AC ad)) 0 0 (AC ad)) (cw : CallW R s args own RX3 index y bytes maxL rt9 ws rm 0 0 n)
    (hn : As.length = n) (hl : ls.size = nL) (hst : st0 = As.reverse ++ .ref (ad 0) :: rest) (hcat : (rest.map fun v => v.category).sum ≤ 8) (d : decode cc pc = .ok (.invokevirtual index, 3)) (hmc : cells ≤ R.cells) (hms : slots ≤ R.slots)
    (k : ∀ H' : Heap, LH D ay ad am oa od s σ τ ov dv H' → W p l e R s m args below meth c H' [] cells slots Q (F0 m (pc + 3) ls (.long v :: rest))) : W p l e R s m args below meth c H [] cells slots Q (F0 m pc ls st0) := by
  obtain ⟨hC, hMo, hO, hDo, hS⟩ := hH
  obtain ⟨a1, a2, a3, a4, a5, a6, a7, a8, a9, a10, a11, a12⟩ := hA
  refine va_calll (A0 := fun q => s.heap.size ≤ q) (H0 := s.heap) (va_runV (As := As) (rest := rest) X.fix hM cw ⟨PP_blind, va_recv X.k hC (q0 := 0) (ci := 3) rfl lt_obj, fun U hU hW => ⟨rfl, by rw [hU]; exact hC, KK.warm hW X.kk⟩⟩ rfl hn hl hst (lv_room hcat) d ⟨hmc, hms⟩) hS (fun q _ h => a3 q h) a3 (fun r1 u t H1 locs1 ht hvm hw hB hz hk hS1 => ?_)
  have hw : r1 = v ∧ u = σ := hw
  obtain ⟨rfl, rfl⟩ := hw
  have hP := hB.1
  rw [ht] at hP
  exact va_forget hS1.2.2 (k H1 ⟨hP, hMo.kept (fun k9 q hq => hk q.1 ((hMo k9 q hq).lt) (fun h => a7 _ h (wM_in hq))), hO.kept (fun k9 q hq => hk q.1 ((hO k9 q hq).lt) (by rw [oL_at hq]; exact a8)), hDo.kept (fun k9 q hq => hk q.1 ((hDo k9 q hq).lt) (by rw [oD_at hq]; exact a9)), ⟨hS1.1, hS1.2.1, fun _ h => nomatch h⟩⟩)
theorem lc_MdE (X : CX D ay p s m args meth c cc nL own rt Ts) (hA : LA s.heap.size ad am oa od) (hH : LH D ay ad am oa od s σ τ ov dv H) {v : UInt64}
    (hM : Met l y ws rm (va_Pc (.ref (am 0) :: As) (PP D ay (wM ay am τ))) (va_Qd (pE (v, τ')) (fun u => PP D ay (wM ay am u)) (AM am)) 0 0 (AM am)) (cw : CallW R s args own RX4 index y bytes maxL rt9 ws rm 0 0 n)
    (hn : As.length = n) (hl : ls.size = nL) (hst : st0 = As.reverse ++ .ref (am 0) :: rest) (hcat : (rest.map fun v => v.category).sum ≤ 8) (d : decode cc pc = .ok (.invokevirtual index, 3)) (hmc : cells ≤ R.cells) (hms : slots ≤ R.slots)
    (k : ∀ H' : Heap, LH D ay ad am oa od s σ τ' ov dv H' → W p l e R s m args below meth c H' [] cells slots Q (F0 m (pc + 3) ls (.double v :: rest))) : W p l e R s m args below meth c H [] cells slots Q (F0 m pc ls st0) := by
  obtain ⟨hC, hMo, hO, hDo, hS⟩ := hH
  obtain ⟨a1, a2, a3, a4, a5, a6, a7, a8, a9, a10, a11, a12⟩ := hA
  refine va_calld (A0 := fun q => s.heap.size ≤ q) (H0 := s.heap) (va_runV (As := As) (rest := rest) X.fix hM cw ⟨PP_blind, va_recv X.k hMo (q0 := 0) (ci := 4) rfl mo_obj, fun U hU hW => ⟨rfl, by rw [hU]; exact hMo, KK.warm hW X.kk⟩⟩ rfl hn hl hst (lv_room hcat) d ⟨hmc, hms⟩) hS (fun q _ h => a4 q h) a4 (fun r1 u t H1 locs1 ht hvm hw hB hz hk hS1 => ?_)
  have hw : (r1, u) = (v, τ') := hw
  obtain ⟨rfl, rfl⟩ := Prod.mk.inj hw
  have hP := hB.1
  rw [ht] at hP
  exact va_forget hS1.2.2 (k H1 ⟨hC.kept (fun k9 q hq => hk q.1 ((hC k9 q hq).lt) (a7 _ (wC_in hq))), hP, hO.kept (fun k9 q hq => hk q.1 ((hO k9 q hq).lt) (by rw [oL_at hq]; exact a10)), hDo.kept (fun k9 q hq => hk q.1 ((hDo k9 q hq).lt) (by rw [oD_at hq]; exact a11)), ⟨hS1.1, hS1.2.1, fun _ h => nomatch h⟩⟩)
theorem lc_MdP (X : CX D ay p s m args meth c cc nL own rt Ts) (hA : LA s.heap.size ad am oa od) (hH : LH D ay ad am oa od s σ τ ov dv H) {v : UInt64}
    (hM : Met l y ws rm (va_Pc (.ref (am 0) :: As) (PP D ay (wM ay am τ))) (va_Qd (pP v τ) (fun u => PP D ay (wM ay am u)) (AM am)) 0 0 (AM am)) (cw : CallW R s args own RX4 index y bytes maxL rt9 ws rm 0 0 n)
    (hn : As.length = n) (hl : ls.size = nL) (hst : st0 = As.reverse ++ .ref (am 0) :: rest) (hcat : (rest.map fun v => v.category).sum ≤ 8) (d : decode cc pc = .ok (.invokevirtual index, 3)) (hmc : cells ≤ R.cells) (hms : slots ≤ R.slots)
    (k : ∀ H' : Heap, LH D ay ad am oa od s σ τ ov dv H' → W p l e R s m args below meth c H' [] cells slots Q (F0 m (pc + 3) ls (.double v :: rest))) : W p l e R s m args below meth c H [] cells slots Q (F0 m pc ls st0) := by
  obtain ⟨hC, hMo, hO, hDo, hS⟩ := hH
  obtain ⟨a1, a2, a3, a4, a5, a6, a7, a8, a9, a10, a11, a12⟩ := hA
  refine va_calld (A0 := fun q => s.heap.size ≤ q) (H0 := s.heap) (va_runV (As := As) (rest := rest) X.fix hM cw ⟨PP_blind, va_recv X.k hMo (q0 := 0) (ci := 4) rfl mo_obj, fun U hU hW => ⟨rfl, by rw [hU]; exact hMo, KK.warm hW X.kk⟩⟩ rfl hn hl hst (lv_room hcat) d ⟨hmc, hms⟩) hS (fun q _ h => a4 q h) a4 (fun r1 u t H1 locs1 ht hvm hw hB hz hk hS1 => ?_)
  have hw : r1 = v ∧ u = τ := hw
  obtain ⟨rfl, rfl⟩ := hw
  have hP := hB.1
  rw [ht] at hP
  exact va_forget hS1.2.2 (k H1 ⟨hC.kept (fun k9 q hq => hk q.1 ((hC k9 q hq).lt) (a7 _ (wC_in hq))), hP, hO.kept (fun k9 q hq => hk q.1 ((hO k9 q hq).lt) (by rw [oL_at hq]; exact a10)), hDo.kept (fun k9 q hq => hk q.1 ((hDo k9 q hq).lt) (by rw [oD_at hq]; exact a11)), ⟨hS1.1, hS1.2.1, fun _ h => nomatch h⟩⟩)
end LC
