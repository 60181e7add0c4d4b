/-! the law's own frame: its world, which it made; its calls; the script -/
def LX (D : va_G) (ay : Nat → ClassId) (ad : Nat → Nat) (s : State) (τ : LM) (H : Heap) : Prop := va_P D vwCl (wX ay ad τ) H ∧ va_S (fun q => s.heap.size ≤ q) s.heap H []
section LXs
variable {D : va_G} {ay : Nat → ClassId} {ad : Nat → Nat} {p : Program} {l : Launch} {e : Env} {R : Room} {s : State} {m : MethodId} {args : Array Value} {below : List Frame} {meth : Method} {c : Code} {Q : State → Prop}
variable {cc : ByteArray} {nL : Nat} {own : String} {rt : Option FieldType} {Ts : List Cond} {pc : Nat} {ls : Array Slot} {H : Heap} {cells slots : Nat} {τ : LM}
variable {y : MethodName} {bytes : ByteArray} {maxL index n : Nat} {rt9 : Option FieldType} {ws : List Cond} {rm : Room} {As rest st0 : List Value}
theorem lx_callS (X : CX D ay p s m args meth c cc nL own rt Ts) (hA : ∀ q, AX ad q → s.heap.size ≤ q) (hH : LX D ay ad s τ H) {post : Int32 → LM → Prop} (hM : Met l y ws rm (va_Pc As (PP D ay (wX ay ad τ))) (va_Qi post (fun u => PP D ay (wX ay ad u)) (AX ad)) 0 0 (AX ad)) (cw : CallB R s args own index y bytes maxL rt9 ws rm 0 0 n ∧ (Cond.static y).before args s = true) (hn : As.length = n) (hl : ls.size = nL) (hst : st0 = As.reverse ++ rest) (hcat : (rest.map fun v => v.category).sum ≤ 8) (d : decode cc pc = .ok (.invokestatic index, 3)) (hc : cells ≤ R.cells) (hs : slots ≤ R.slots)
    (kk : ∀ (r : Int32) (u : LM) (H1 : Heap), post r u → LX D ay ad s u H1 → W p l e R s m args below meth c H1 [] cells slots Q (F0 m (pc + 3) ls (.int r :: rest))) : W p l e R s m args below meth c H [] cells slots Q (F0 m pc ls st0) := by
  obtain ⟨hP, hS⟩ := hH
  subst hst
  refine va_calli (A0 := fun q => s.heap.size ≤ q) (H0 := s.heap) (va_runS (As := As) (rest := rest) X.fix hM cw ⟨PP_blind, fun U hU hW => ⟨rfl, by rw [hU]; exact hP, KK.warm hW X.kk⟩⟩ rfl hn hl rfl (lv_room hcat) d ⟨hc, hs⟩) hS (fun q _ h => hA q h) hA (fun r u t H1 locs1 ht hvm hw hB hz hk hS1 => ?_)
  have hP1 := hB.1
  rw [ht] at hP1
  exact va_forget hS1.2.2 (kk r u H1 hw ⟨hP1, ⟨hS1.1, hS1.2.1, fun _ h => nomatch h⟩⟩)
theorem lx_callV (X : CX D ay p s m args meth c cc nL own rt Ts) (hI : axOK ad) (hA : ∀ q, AX ad q → s.heap.size ≤ q) (hH : LX D ay ad s τ H) {post : Int32 → Mem → Prop} (hM : Met l y ws rm (va_Pc (.ref (ad 0) :: As) (PP D ay (wC ay ad τ.1))) (va_Qi post (fun u => PP D ay (wC ay ad u)) (AC ad)) 0 0 (AC ad)) (cw : CallW R s args own RX3 index y bytes maxL rt9 ws rm 0 0 n) (hn : As.length = n) (hl : ls.size = nL) (hst : st0 = As.reverse ++ .ref (ad 0) :: rest) (hcat : (rest.map fun v => v.category).sum ≤ 8) (d : decode cc pc = .ok (.invokevirtual index, 3)) (hc : cells ≤ R.cells) (hs : slots ≤ R.slots)
    (kk : ∀ (r : Int32) (u : Mem) (H1 : Heap), post r u → LX D ay ad s (u, τ.2) H1 → W p l e R s m args below meth c H1 [] cells slots Q (F0 m (pc + 3) ls (.int r :: rest))) : W p l e R s m args below meth c H [] cells slots Q (F0 m pc ls st0) := by
  obtain ⟨hP, hS⟩ := hH
  subst hst
  have hPl : va_P D vwCl (wC ay ad τ.1) H := P_left hP
  have hPr : va_P D vwCl (wA ay ad τ.2) H := P_right hP
  refine va_calli (A0 := fun q => s.heap.size ≤ q) (H0 := s.heap) (va_runV (As := As) (rest := rest) X.fix hM cw ⟨PP_blind, va_recv (q := (RX3, TX3, 8)) X.k hPl rfl lt_obj, fun U hU hW => ⟨rfl, by rw [hU]; exact hPl, KK.warm hW X.kk⟩⟩ rfl hn hl rfl (lv_room hcat) d ⟨hc, hs⟩) hS (fun q _ h => hA q (AC_AX h)) (fun q h => hA q (AC_AX h)) (fun r u t H1 locs1 ht hvm hw hB hz hk hS1 => ?_)
  have hP1 := hB.1
  rw [ht] at hP1
  exact va_forget hS1.2.2 (kk r u H1 hw ⟨(show va_P D vwCl (wC ay ad u ++ wA ay ad τ.2) H1 from hP1.app (hPr.kept (fun k q hq => hk q.1 ((hPr k q hq).lt) (wA_out τ.1 hI hq)))), ⟨hS1.1, hS1.2.1, fun _ h => nomatch h⟩⟩)
end LXs
/-- a number of the script, or of its own: whichever -/
theorem c_L_cell {l : Launch} {D : va_G} {ay : Nat → ClassId} {b L k : Nat} {xs : Nat → Int32} (hk : k < 1000) (hL : L ≤ 260) : Met l yL_cell wsL_cell ({ frames := 0, cells := 0, slots := 0, locals := 0 } : Room) (va_Pc [.ref b, .int (nI k)] (fun U => KK D ay U ∧ va_X b L xs U U.heap ∧ b < U.heap.size)) (va_Qi (fun _ (_ : Unit) => True) (fun _ _ => True) (fun _ => False)) 0 0 (fun _ => False) := by
  refine Met.ofW (cc := cL_cell) (maxL := 2) (ret := some .int) (by decide) rfl ?_
  intro p e s m args below meth c s₁ B hml hv
  obtain ⟨rfl, hK, hX, hb⟩ := hv
  rw [lg_entry_eq]
  have X : CX D ay p s m ([Value.ref b, .int (nI k)] : List Value).toArray meth c cL_cell 2 RL (some .int) wsL_cell := ⟨B.exec, B.bytes, hml, findClass_of_methodNamed B.named, atoms_spec (ws := wsL_cell) B.pre, B.returns, B.notSynchronized, hK⟩
  have hl := lv_entry [Value.ref b, .int (nI k)] (n := 2) (Nat.le_of_ble_eq_true rfl)
  generalize (lg_sl [Value.ref b, .int (nI k)] ++ List.replicate (2 - (lg_sl [Value.ref b, .int (nI k)]).length) Slot.unset).toArray = ls at hl ⊢
  have hl : lv_has ls 2 [(0, .ref b), (1, .int (nI k))] := hl
  have hS : va_S (fun _ => False) s.heap s.heap [] := va_S.rf
  refine lv_iload_n X.x X.b dL_cell_0 rfl (lv_at hl 1 rfl) ?_
  refine lv_aload_n X.x X.b dL_cell_1 rfl (lv_at hl 0 rfl) ?_
  refine va_slen (A := fun _ => False) (H0 := s.heap) X.x X.b hX hb (fun q => q) hS dL_cell_2 ?_
  have fin : ∀ v : Int32, W p l e ({ frames := 0, cells := 0, slots := 0, locals := 0 } : Room) s m ([Value.ref b, .int (nI k)] : List Value).toArray below meth c s.heap [] 0 0 (MQ below (va_Qi (fun _ (_ : Unit) => True) (fun _ _ => True) (fun _ => False)) ([Value.ref b, .int (nI k)] : List Value).toArray s 0 0 (fun _ => False)) (F0 m 18 ls [.int v]) := fun v =>
    W.iret X.x X.b X.rtt (fun t ht hW => ⟨⟨v, (), rfl, trivial, trivial⟩, hS.F ht⟩) hS.2.2 dL_cell_18 X.lk
  refine lv_icmp_ge (tgt := 12) X.x X.b dL_cell_3 (by decide) (fun _ => ?_) (fun q => ?_)
  · refine lv_ldc X.x X.b X.ow (X.ts (.constant RL 7 902940665) (by decide +kernel)) dL_cell_12 ?_
    refine lv_iload_n X.x X.b dL_cell_14 rfl (lv_at hl 1 rfl) ?_
    refine lv_iconst (v := 1) X.x X.b dL_cell_15 (by decide) ?_
    refine lv_iadd X.x X.b dL_cell_16 ?_
    refine lv_imul X.x X.b dL_cell_17 ?_
    exact fin _
  · have hlt : k < L := by
      rcases Nat.lt_or_ge k L with h | h
      · exact h
      · exact (q ((nI_le_iff (show L < 2 ^ 31 by omega) (show k < 2 ^ 31 by omega)).mpr h)).elim
    refine lv_aload_n X.x X.b dL_cell_6 rfl (lv_at hl 0 rfl) ?_
    refine lv_iload_n X.x X.b dL_cell_7 rfl (lv_at hl 1 rfl) ?_
    refine va_sld (A := fun _ => False) (H0 := s.heap) X.x X.b hX hb (fun q => q) hS (nI_in hlt (by omega)) dL_cell_8 ?_
    refine lv_goto (tgt := 18) X.x X.b dL_cell_9 (by decide) ?_
    exact fin _
section LXc
variable {D : va_G} {ay : Nat → ClassId} {ad : Nat → Nat} {p : Program} {l : Launch} {e : Env} {R : Room} {s : State} {m : MethodId} {args : Array Value} {below : List Frame} {meth : Method} {c : Code} {Q : State → Prop}
variable {cc : ByteArray} {nL : Nat} {own : String} {rt : Option FieldType} {Ts : List Cond} {pc : Nat} {ls : Array Slot} {H : Heap} {cells slots : Nat} {τ : LM}
theorem lx_cell (X : CX D ay p s m args meth c cc nL own rt Ts) {b L k : Nat} {xs : Nat → Int32} (hX : va_X b L xs s s.heap) (hb : b < s.heap.size) (hL : L ≤ 260) (hk : k < 1000) (hH : LX D ay ad s τ H) {index maxL : Nat} {bytes : ByteArray} {rt9 : Option FieldType} (cw : CallB R s args own index yL_cell bytes maxL rt9 wsL_cell ({ frames := 0, cells := 0, slots := 0, locals := 0 } : Room) 0 0 2 ∧ (Cond.static yL_cell).before args s = true) (hl : ls.size = nL) (d : decode cc pc = .ok (.invokestatic index, 3)) (hc : cells ≤ R.cells) (hs : slots ≤ R.slots)
    (kk : ∀ (r : Int32) (H1 : Heap), LX D ay ad s τ H1 → W p l e R s m args below meth c H1 [] cells slots Q (F0 m (pc + 3) ls [.int r])) : W p l e R s m args below meth c H [] cells slots Q (F0 m pc ls [.int (nI k), .ref b]) := by
  obtain ⟨hP, hS⟩ := hH
  have hbH : b < H.size := Nat.lt_of_lt_of_le hb hS.1
  have hXH : va_X b L xs s H := hX.kept (hS.2.1 b hb (Nat.not_le.mpr hb))
  refine va_calli (A0 := fun q => s.heap.size ≤ q) (H0 := s.heap) (va_runS (As := [.ref b, .int (nI k)]) (rest := []) X.fix (c_L_cell (D := D) (ay := ay) (b := b) (L := L) (k := k) (xs := xs) hk hL) cw ⟨fun a U g mk q => ⟨q.1, KK.same (U := U.calling g mk a) rfl q.2.1, va_X.moved (U := U.calling g mk a) (Vm.Alike.refl U.vm) q.2.2.1, q.2.2.2⟩, fun U hU hW => ⟨rfl, KK.warm hW X.kk, by rw [hU]; exact hXH.moved hW.alike, by rw [hU]; exact hbH⟩⟩ rfl rfl hl rfl (lv_room (Nat.le_of_ble_eq_true rfl)) d ⟨hc, hs⟩) hS (fun q _ h => h.elim) (fun q h => h.elim) (fun r u t H1 locs1 ht hvm hw hB hz hk hS1 => ?_)
  exact va_forget hS1.2.2 (kk r H1 ⟨hP.kept (fun k q hq => hk q.1 ((hP k q hq).lt) (fun h => h)), ⟨hS1.1, hS1.2.1, fun _ h => nomatch h⟩⟩)
end LXc
