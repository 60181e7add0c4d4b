/-! constructors: worlds that grow behind a prefix w -/
theorem ap_get (w v : va_W) (k : Nat) : (w ++ v)[w.length + k]? = v[k]? := by rw [List.getElem?_append_right (by omega), Nat.add_sub_cancel_left]
theorem ap_set (w v : va_W) (k : Nat) (e : Nat × va_E) : (w ++ v).set (w.length + k) e = w ++ v.set k e := by rw [List.set_append_right _ _ (by omega), Nat.add_sub_cancel_left]
def z0 : Nat → Int32 := fun _ => 0
section CN
variable {D : va_G} {ay : Nat → ClassId} {A : Nat → Prop} {p : Program} {l : Launch} {e : Env} {R : Room} {s : State} {m : MethodId} {args : Array Value} {below : List Frame} {meth : Method} {c : Code} {Q : State → Prop}
variable {cc : ByteArray} {nL : Nat} {own : String} {rt : Option FieldType} {Ts : List Cond} {pc : Nat} {ls : Array Slot} {st : List Value} {H : Heap} {locs : List Loc} {cells slots : Nat} {w v : va_W}
theorem n_prim (X : CX D ay p s m args meth c cc nL own rt Ts) (hA : ∀ q, s.heap.size ≤ q → A q) {atype : ArrayType} {ty : FieldType} (t0 : Nat) {cT : ClassId} (ht : (tysL ay)[t0]? = some (cT, ty)) (hty : newarray.typeOf atype = ty) (hra : ∀ cA, va_RA s cA ty → s.vm.findClass ("[" ++ ty.toString) = some cA)
    (harr : (Cond.arrayClass (newarray.typeOf atype)).before args s = true) {n : Int32} {N' : Nat} {a0 : vp_A} (ha : ∀ cA : ClassId, vp_cell cA a0 = arrV cA N' (fun _ => defaultValue ty)) (hn : ¬ n < 0) (hN : n.toNatClampNeg = N') (hbytes : N' * componentBytes ty ≤ 536870912) (hcells : cells + 1 ≤ R.cells) (hslots : slots + N' ≤ R.slots) (d : decode cc pc = .ok (.newarray atype, 2))
    (hP : va_P D vwCl (w ++ v) H) (hD : va_D A (w ++ v)) (hS : va_S A s.heap H locs)
    (kk : ∀ (q : Nat) (H1 : Heap), va_P D vwCl (w ++ (v ++ [(q, .inl (cT, a0))])) H1 → va_D A (w ++ (v ++ [(q, .inl (cT, a0))])) → va_S A s.heap H1 locs → W p l e R s m args below meth c H1 locs (cells + 1) (slots + N') Q (F0 m (pc + 2) ls (.ref q :: st))) : W p l e R s m args below meth c H locs cells slots Q (F0 m pc ls (.int n :: st)) := by
  refine va_newa X.x X.b harr hty X.k hP hD hS hA ha hn hN hbytes hcells hslots d (fun q cA H1 hK1 hP1 hD1 hS1 => ?_)
  have e1 := hra cA (hK1.2 (tysL ay).length (cA, ty) (by rw [List.getElem?_append_right (Nat.le_refl _), Nat.sub_self]; rfl)).2
  have e2 := hra cT (X.k.2 t0 _ ht).2
  have e3 : cA = cT := Option.some.inj (e1.symm.trans e2)
  subst e3
  rw [List.append_assoc] at hP1 hD1
  exact kk q H1 hP1 hD1 hS1
theorem n_refs (X : CX D ay p s m args meth c cc nL own rt Ts) (hA : ∀ q, s.heap.size ≤ q → A q) {C : String} (t0 : Nat) {cT : ClassId} (ht : (tysL ay)[t0]? = some (cT, .object C)) {index : Nat} (hlink : (Cond.classLink own index C).before args s = true) (hover : va_AO C s) {n : Int32} {N' : Nat} (hn : ¬ n < 0) (hN : n.toNatClampNeg = N') (hbytes : N' * 4 ≤ 536870912) (hcells : cells + 1 ≤ R.cells) (hslots : slots + N' ≤ R.slots) (d : decode cc pc = .ok (.anewarray index, 3))
    (hP : va_P D vwCl w H) (hD : va_D A w) (hS : va_S A s.heap H locs)
    (kk : ∀ (q : Nat) (H1 : Heap), va_P D vwCl (w ++ [(q, .inl (cT, N', .inr (.inr (.inr (.inr (fun _ => none))))))]) H1 → va_D A (w ++ [(q, .inl (cT, N', .inr (.inr (.inr (.inr (fun _ => none))))))]) → va_S A s.heap H1 locs → W p l e R s m args below meth c H1 locs (cells + 1) (slots + N') Q (F0 m (pc + 3) ls (.ref q :: st))) : W p l e R s m args below meth c H locs cells slots Q (F0 m pc ls (.int n :: st)) := by
  refine va_newq X.x X.b X.ow hlink hover X.k hP hD hS hA hn hN hbytes hcells hslots d (fun q cA H1 hK1 hP1 hD1 hS1 => ?_)
  obtain ⟨-, -, -, -, -, e1⟩ := (hK1.2 (tysL ay).length (cA, .object C) (by rw [List.getElem?_append_right (Nat.le_refl _), Nat.sub_self]; rfl)).2
  obtain ⟨-, -, -, -, -, e2⟩ := (X.k.2 t0 _ ht).2
  have e3 : cA = cT := Option.some.inj (e1.symm.trans e2)
  subst e3
  exact kk q H1 hP1 hD1 hS1
end CN
theorem g_startN {D : va_G} {ay : Nat → ClassId} {l : Launch} {y : MethodName} {ws ws' : List Cond} {rm : Room} {cc : ByteArray} {own : String} {As : List Value} {Px : State → Prop} {Qc : Array Value → State → Outcome → State → Prop} {mc ms mL : Nat} {free : Addr → Prop} (hy : plainName y.cls = true) (ho : y.cls = own) (hn : y.name = "<init>") (hw : ws = Cond.code y cc mL none :: ws') (hle : (lg_sl As).length ≤ mL)
    (body : ∀ (p : Program) (e : Env) (s : State) (m : MethodId) (below : List Frame) (meth : Method) (c : Code) (ls : Array Slot), CX D ay p s m As.toArray meth c cc mL own none ws → meth.name = "<init>" → Px s → lv_has ls mL (lv_args 0 As) → W p l e rm s m As.toArray below meth c s.heap [] 0 0 (MQ below Qc As.toArray s mc ms free) (F0 m 0 ls [])) : Met l y ws rm (va_Pc As (fun U => KK D ay U ∧ Px U)) Qc mc ms free := by
  refine Met.ofW (cc := cc) (maxL := mL) (ret := none) hy hw ?_
  intro p e s m args below meth c s₁ B hml hv
  obtain ⟨rfl, hK, hPx⟩ := hv
  rw [lg_entry_eq]
  exact body p e s m below meth c _ ⟨B.exec, B.bytes, hml, (by rw [← ho]; exact findClass_of_methodNamed B.named), atoms_spec (ws := ws) B.pre, B.returns, B.notSynchronized, hK⟩ ((name_of_methodNamed B.named B.method).1.trans hn) hPx (lv_entry As hle)
set_option maxHeartbeats 4000000 in
set_option maxRecDepth 100000 in
theorem c_X0_init {l : Launch} {D : va_G} {ay : Nat → ClassId} {A : Nat → Prop} {w : va_W} {h0 sz : Nat} {a1 : Int32} {a2 : Int32} (hA : ∀ q, sz ≤ q → A q) : Met l yX0_init wsX0_init ({ frames := 1, cells := 3, slots := 48, locals := 12 } : Room) (va_Pc [.ref h0, .int a1, .int a2] (fun U => KK D ay U ∧ (sz ≤ U.heap.size ∧ va_P D vwCl (w ++ [(h0, .inr (0, [.int 0, .int 0, .null, .null, .null, .int 0]))]) U.heap ∧ va_D A (w ++ [(h0, .inr (0, [.int 0, .int 0, .null, .null, .null, .int 0]))])))) (va_Qv (fun _ : Nat → Nat => True) (fun q U => va_P D vwCl (w ++ [(h0, .inr (0, [.int a1, .int (a1 + a2), .ref (q 0), .ref (q 1), .ref (q 2), .int 0])), ((q 0), .inl (ay 0, 16, .inl z0)), ((q 1), .inl (ay 0, 16, .inl z0)), ((q 2), .inl (ay 0, 16, .inl z0))]) U.heap ∧ KK D ay U ∧ va_D A (w ++ [(h0, .inr (0, [.int a1, .int (a1 + a2), .ref (q 0), .ref (q 1), .ref (q 2), .int 0])), ((q 0), .inl (ay 0, 16, .inl z0)), ((q 1), .inl (ay 0, 16, .inl z0)), ((q 2), .inl (ay 0, 16, .inl z0))])) A) 3 48 A := by
  refine g_startN (own := RX0) (mL := 3) (by decide) rfl rfl rfl (Nat.le_of_ble_eq_true rfl) ?_
  intro p e s m below meth c ls X hin hPx hl
  obtain ⟨hsz, hP, hD⟩ := hPx
  have hl : lv_has ls 3 [(0, .ref h0), (1, .int a1), (2, .int a2)] := hl
  have hA9 : ∀ q, s.heap.size ≤ q → A q := fun q h => hA q (Nat.le_trans hsz h)
  have hS : va_S A s.heap s.heap [] := va_S.rf
  refine lv_aload_n X.x X.b dX0_init_0 rfl (lv_at hl 0 rfl) ?_
  refine W.objInit X.x X.b X.ow (X.ts (.methodLink RX0 3 objectInit) (by decide +kernel)) (X.ts (.instanceMethod objectInit) (by decide +kernel)) (X.ts _ (List.mem_cons_of_mem _ (List.mem_append_left _ (List.mem_of_getElem? (i := 2) rfl)))) rfl (by rw [X.ml]; exact hl.1) rfl dX0_init_1 (Nat.le_of_ble_eq_true rfl) (Nat.le_of_ble_eq_true rfl) ?_
  refine W.eq (g2 := F0 m 4 ls []) rfl ?_
  refine lv_aload_n X.x X.b dX0_init_4 rfl (lv_at hl 0 rfl) ?_
  refine lv_bipush (v := 16) X.x X.b dX0_init_5 (by decide) ?_
  refine n_prim (w := w) (v := [(h0, .inr (0, [.int 0, .int 0, .null, .null, .null, .int 0]))]) (a0 := (16, .inl z0)) (atype := .int) (ty := .int) X hA9 0 rfl rfl (fun _ h => h) (X.ts (.arrayClass .int) (by decide +kernel)) (fun _ => rfl) (by decide) (by decide) (Nat.le_of_ble_eq_true rfl) (Nat.le_of_ble_eq_true rfl) (Nat.le_of_ble_eq_true rfl) dX0_init_7 hP hD hS (fun q7 H hP hD hS => ?_)
  have hP : va_P D vwCl (w ++ [(h0, .inr (0, [.int 0, .int 0, .null, .null, .null, .int 0])), (q7, .inl (ay 0, 16, .inl z0))]) H := hP
  have hD : va_D A (w ++ [(h0, .inr (0, [.int 0, .int 0, .null, .null, .null, .int 0])), (q7, .inl (ay 0, 16, .inl z0))]) := hD
  refine va_putF (D := D) (ci := 0) (v := .ref q7) (ty := .array .int) (C := RX0) (T := TX0) (N := 6) X.x X.b X.ts (by decide +kernel) tyX0 tyX0_ok nmX0 X.ow X.k hP hD hS (w.length + 0) ((ap_get w _ 0).trans rfl) rfl 2 (by decide) (X.ts (.fieldLink RX0 9 "LeadTimes$Course" "winner" "[I") (by decide +kernel)) (fun _ h9 => h9) rfl hin rfl (by decide +kernel) rfl rfl (Nat.le_of_ble_eq_true rfl) dX0_init_9 (fun H locs hP hD hS => ?_)
  rw [ap_set] at hP hD
  have hP : va_P D vwCl (w ++ [(h0, .inr (0, [.int 0, .int 0, .ref q7, .null, .null, .int 0])), (q7, .inl (ay 0, 16, .inl z0))]) H := hP
  have hD : va_D A (w ++ [(h0, .inr (0, [.int 0, .int 0, .ref q7, .null, .null, .int 0])), (q7, .inl (ay 0, 16, .inl z0))]) := hD
  refine lv_aload_n X.x X.b dX0_init_12 rfl (lv_at hl 0 rfl) ?_
  refine lv_bipush (v := 16) X.x X.b dX0_init_13 (by decide) ?_
  refine n_prim (w := w) (v := [(h0, .inr (0, [.int 0, .int 0, .ref q7, .null, .null, .int 0])), (q7, .inl (ay 0, 16, .inl z0))]) (a0 := (16, .inl z0)) (atype := .int) (ty := .int) X hA9 0 rfl rfl (fun _ h => h) (X.ts (.arrayClass .int) (by decide +kernel)) (fun _ => rfl) (by decide) (by decide) (Nat.le_of_ble_eq_true rfl) (Nat.le_of_ble_eq_true rfl) (Nat.le_of_ble_eq_true rfl) dX0_init_15 hP hD hS (fun q15 H hP hD hS => ?_)
  have hP : va_P D vwCl (w ++ [(h0, .inr (0, [.int 0, .int 0, .ref q7, .null, .null, .int 0])), (q7, .inl (ay 0, 16, .inl z0)), (q15, .inl (ay 0, 16, .inl z0))]) H := hP
  have hD : va_D A (w ++ [(h0, .inr (0, [.int 0, .int 0, .ref q7, .null, .null, .int 0])), (q7, .inl (ay 0, 16, .inl z0)), (q15, .inl (ay 0, 16, .inl z0))]) := hD
  refine va_putF (D := D) (ci := 0) (v := .ref q15) (ty := .array .int) (C := RX0) (T := TX0) (N := 6) X.x X.b X.ts (by decide +kernel) tyX0 tyX0_ok nmX0 X.ow X.k hP hD hS (w.length + 0) ((ap_get w _ 0).trans rfl) rfl 3 (by decide) (X.ts (.fieldLink RX0 15 "LeadTimes$Course" "over" "[I") (by decide +kernel)) (fun _ h9 => h9) rfl hin rfl (by decide +kernel) rfl rfl (Nat.le_of_ble_eq_true rfl) dX0_init_17 (fun H locs hP hD hS => ?_)
  rw [ap_set] at hP hD
  have hP : va_P D vwCl (w ++ [(h0, .inr (0, [.int 0, .int 0, .ref q7, .ref q15, .null, .int 0])), (q7, .inl (ay 0, 16, .inl z0)), (q15, .inl (ay 0, 16, .inl z0))]) H := hP
  have hD : va_D A (w ++ [(h0, .inr (0, [.int 0, .int 0, .ref q7, .ref q15, .null, .int 0])), (q7, .inl (ay 0, 16, .inl z0)), (q15, .inl (ay 0, 16, .inl z0))]) := hD
  refine lv_aload_n X.x X.b dX0_init_20 rfl (lv_at hl 0 rfl) ?_
  refine lv_bipush (v := 16) X.x X.b dX0_init_21 (by decide) ?_
  refine n_prim (w := w) (v := [(h0, .inr (0, [.int 0, .int 0, .ref q7, .ref q15, .null, .int 0])), (q7, .inl (ay 0, 16, .inl z0)), (q15, .inl (ay 0, 16, .inl z0))]) (a0 := (16, .inl z0)) (atype := .int) (ty := .int) X hA9 0 rfl rfl (fun _ h => h) (X.ts (.arrayClass .int) (by decide +kernel)) (fun _ => rfl) (by decide) (by decide) (Nat.le_of_ble_eq_true rfl) (Nat.le_of_ble_eq_true rfl) (Nat.le_of_ble_eq_true rfl) dX0_init_23 hP hD hS (fun q23 H hP hD hS => ?_)
  have hP : va_P D vwCl (w ++ [(h0, .inr (0, [.int 0, .int 0, .ref q7, .ref q15, .null, .int 0])), (q7, .inl (ay 0, 16, .inl z0)), (q15, .inl (ay 0, 16, .inl z0)), (q23, .inl (ay 0, 16, .inl z0))]) H := hP
  have hD : va_D A (w ++ [(h0, .inr (0, [.int 0, .int 0, .ref q7, .ref q15, .null, .int 0])), (q7, .inl (ay 0, 16, .inl z0)), (q15, .inl (ay 0, 16, .inl z0)), (q23, .inl (ay 0, 16, .inl z0))]) := hD
  refine va_putF (D := D) (ci := 0) (v := .ref q23) (ty := .array .int) (C := RX0) (T := TX0) (N := 6) X.x X.b X.ts (by decide +kernel) tyX0 tyX0_ok nmX0 X.ow X.k hP hD hS (w.length + 0) ((ap_get w _ 0).trans rfl) rfl 4 (by decide) (X.ts (.fieldLink RX0 18 "LeadTimes$Course" "under" "[I") (by decide +kernel)) (fun _ h9 => h9) rfl hin rfl (by decide +kernel) rfl rfl (Nat.le_of_ble_eq_true rfl) dX0_init_25 (fun H locs hP hD hS => ?_)
  rw [ap_set] at hP hD
  have hP : va_P D vwCl (w ++ [(h0, .inr (0, [.int 0, .int 0, .ref q7, .ref q15, .ref q23, .int 0])), (q7, .inl (ay 0, 16, .inl z0)), (q15, .inl (ay 0, 16, .inl z0)), (q23, .inl (ay 0, 16, .inl z0))]) H := hP
  have hD : va_D A (w ++ [(h0, .inr (0, [.int 0, .int 0, .ref q7, .ref q15, .ref q23, .int 0])), (q7, .inl (ay 0, 16, .inl z0)), (q15, .inl (ay 0, 16, .inl z0)), (q23, .inl (ay 0, 16, .inl z0))]) := hD
  refine lv_aload_n X.x X.b dX0_init_28 rfl (lv_at hl 0 rfl) ?_
  refine lv_iconst (v := 0) X.x X.b dX0_init_29 (by decide) ?_
  refine va_put (D := D) (ci := 0) (v := .int 0) (ty := .int) (C := RX0) (T := TX0) (N := 6) X.x X.b X.ts (by decide +kernel) tyX0 tyX0_ok nmX0 X.ow X.k hP hD hS (w.length + 0) ((ap_get w _ 0).trans rfl) rfl 5 (by decide) (X.ts (.fieldLink RX0 21 "LeadTimes$Course" "size" "I") (by decide +kernel)) (fun _ h9 => h9) rfl (by decide +kernel) rfl rfl (Nat.le_of_ble_eq_true rfl) dX0_init_30 (fun H locs hP hD hS => ?_)
  rw [ap_set] at hP hD
  have hP : va_P D vwCl (w ++ [(h0, .inr (0, [.int 0, .int 0, .ref q7, .ref q15, .ref q23, .int 0])), (q7, .inl (ay 0, 16, .inl z0)), (q15, .inl (ay 0, 16, .inl z0)), (q23, .inl (ay 0, 16, .inl z0))]) H := hP
  have hD : va_D A (w ++ [(h0, .inr (0, [.int 0, .int 0, .ref q7, .ref q15, .ref q23, .int 0])), (q7, .inl (ay 0, 16, .inl z0)), (q15, .inl (ay 0, 16, .inl z0)), (q23, .inl (ay 0, 16, .inl z0))]) := hD
  refine lv_aload_n X.x X.b dX0_init_33 rfl (lv_at hl 0 rfl) ?_
  refine lv_iload_n X.x X.b dX0_init_34 rfl (lv_at hl 1 rfl) ?_
  refine va_putF (D := D) (ci := 0) (v := .int a1) (ty := .int) (C := RX0) (T := TX0) (N := 6) X.x X.b X.ts (by decide +kernel) tyX0 tyX0_ok nmX0 X.ow X.k hP hD hS (w.length + 0) ((ap_get w _ 0).trans rfl) rfl 0 (by decide) (X.ts (.fieldLink RX0 25 "LeadTimes$Course" "firstSlot" "I") (by decide +kernel)) (fun _ h9 => h9) rfl hin rfl (by decide +kernel) rfl rfl (Nat.le_of_ble_eq_true rfl) dX0_init_35 (fun H locs hP hD hS => ?_)
  rw [ap_set] at hP hD
  have hP : va_P D vwCl (w ++ [(h0, .inr (0, [.int a1, .int 0, .ref q7, .ref q15, .ref q23, .int 0])), (q7, .inl (ay 0, 16, .inl z0)), (q15, .inl (ay 0, 16, .inl z0)), (q23, .inl (ay 0, 16, .inl z0))]) H := hP
  have hD : va_D A (w ++ [(h0, .inr (0, [.int a1, .int 0, .ref q7, .ref q15, .ref q23, .int 0])), (q7, .inl (ay 0, 16, .inl z0)), (q15, .inl (ay 0, 16, .inl z0)), (q23, .inl (ay 0, 16, .inl z0))]) := hD
  refine lv_aload_n X.x X.b dX0_init_38 rfl (lv_at hl 0 rfl) ?_
  refine lv_iload_n X.x X.b dX0_init_39 rfl (lv_at hl 1 rfl) ?_
  refine lv_iload_n X.x X.b dX0_init_40 rfl (lv_at hl 2 rfl) ?_
  refine lv_iadd X.x X.b dX0_init_41 ?_
  refine va_putF (D := D) (ci := 0) (v := .int (a1 + a2)) (ty := .int) (C := RX0) (T := TX0) (N := 6) X.x X.b X.ts (by decide +kernel) tyX0 tyX0_ok nmX0 X.ow X.k hP hD hS (w.length + 0) ((ap_get w _ 0).trans rfl) rfl 1 (by decide) (X.ts (.fieldLink RX0 28 "LeadTimes$Course" "endSlot" "I") (by decide +kernel)) (fun _ h9 => h9) rfl hin rfl (by decide +kernel) rfl rfl (Nat.le_of_ble_eq_true rfl) dX0_init_42 (fun H locs hP hD hS => ?_)
  rw [ap_set] at hP hD
  have hP : va_P D vwCl (w ++ [(h0, .inr (0, [.int a1, .int (a1 + a2), .ref q7, .ref q15, .ref q23, .int 0])), (q7, .inl (ay 0, 16, .inl z0)), (q15, .inl (ay 0, 16, .inl z0)), (q23, .inl (ay 0, 16, .inl z0))]) H := hP
  have hD : va_D A (w ++ [(h0, .inr (0, [.int a1, .int (a1 + a2), .ref q7, .ref q15, .ref q23, .int 0])), (q7, .inl (ay 0, 16, .inl z0)), (q15, .inl (ay 0, 16, .inl z0)), (q23, .inl (ay 0, 16, .inl z0))]) := hD
  refine W.widen (k := 3) (n := 48) (by omega) (by omega) ?_
  exact W.vret X.x X.b X.rtt (fun t ht hW => ⟨⟨(fun k => [q7, q15, q23].getD k 0), rfl, trivial, (by rw [ht]; exact hP), KK.warm hW X.kk, hD⟩, hS.F ht⟩) hS.2.2 dX0_init_45 X.lk
set_option maxHeartbeats 4000000 in
set_option maxRecDepth 100000 in
theorem c_X1_init {l : Launch} {D : va_G} {ay : Nat → ClassId} {A : Nat → Prop} {w : va_W} {h0 sz : Nat} (hA : ∀ q, sz ≤ q → A q) : Met l yX1_init wsX1_init ({ frames := 1, cells := 5, slots := 80, locals := 12 } : Room) (va_Pc [.ref h0] (fun U => KK D ay U ∧ (sz ≤ U.heap.size ∧ va_P D vwCl (w ++ [(h0, .inr (1, [.null, .null, .null, .null, .null, .int 0, .int 0, .int 0]))]) U.heap ∧ va_D A (w ++ [(h0, .inr (1, [.null, .null, .null, .null, .null, .int 0, .int 0, .int 0]))])))) (va_Qv (fun _ : Nat → Nat => True) (fun q U => va_P D vwCl (w ++ [(h0, .inr (1, [.ref (q 0), .ref (q 1), .ref (q 2), .ref (q 3), .ref (q 4), .int 0, .int 0, .int 50])), ((q 0), .inl (ay 1, 16, .inl z0)), ((q 1), .inl (ay 0, 16, .inl z0)), ((q 2), .inl (ay 0, 16, .inl z0)), ((q 3), .inl (ay 0, 16, .inl z0)), ((q 4), .inl (ay 0, 16, .inl z0))]) U.heap ∧ KK D ay U ∧ va_D A (w ++ [(h0, .inr (1, [.ref (q 0), .ref (q 1), .ref (q 2), .ref (q 3), .ref (q 4), .int 0, .int 0, .int 50])), ((q 0), .inl (ay 1, 16, .inl z0)), ((q 1), .inl (ay 0, 16, .inl z0)), ((q 2), .inl (ay 0, 16, .inl z0)), ((q 3), .inl (ay 0, 16, .inl z0)), ((q 4), .inl (ay 0, 16, .inl z0))])) A) 5 80 A := by
  refine g_startN (own := RX1) (mL := 1) (by decide) rfl rfl rfl (Nat.le_of_ble_eq_true rfl) ?_
  intro p e s m below meth c ls X hin hPx hl
  obtain ⟨hsz, hP, hD⟩ := hPx
  have hl : lv_has ls 1 [(0, .ref h0)] := hl
  have hA9 : ∀ q, s.heap.size ≤ q → A q := fun q h => hA q (Nat.le_trans hsz h)
  have hS : va_S A s.heap s.heap [] := va_S.rf
  refine lv_aload_n X.x X.b dX1_init_0 rfl (lv_at hl 0 rfl) ?_
  refine W.objInit X.x X.b X.ow (X.ts (.methodLink RX1 3 objectInit) (by decide +kernel)) (X.ts (.instanceMethod objectInit) (by decide +kernel)) (X.ts _ (List.mem_cons_of_mem _ (List.mem_append_left _ (List.mem_of_getElem? (i := 2) rfl)))) rfl (by rw [X.ml]; exact hl.1) rfl dX1_init_1 (Nat.le_of_ble_eq_true rfl) (Nat.le_of_ble_eq_true rfl) ?_
  refine W.eq (g2 := F0 m 4 ls []) rfl ?_
  refine lv_aload_n X.x X.b dX1_init_4 rfl (lv_at hl 0 rfl) ?_
  refine lv_bipush (v := 16) X.x X.b dX1_init_5 (by decide) ?_
  refine n_prim (w := w) (v := [(h0, .inr (1, [.null, .null, .null, .null, .null, .int 0, .int 0, .int 0]))]) (a0 := (16, .inl z0)) (atype := .boolean) (ty := .boolean) X hA9 1 rfl rfl (fun _ h => h) (X.ts (.arrayClass .boolean) (by decide +kernel)) (fun _ => rfl) (by decide) (by decide) (Nat.le_of_ble_eq_true rfl) (Nat.le_of_ble_eq_true rfl) (Nat.le_of_ble_eq_true rfl) dX1_init_7 hP hD hS (fun q7 H hP hD hS => ?_)
  have hP : va_P D vwCl (w ++ [(h0, .inr (1, [.null, .null, .null, .null, .null, .int 0, .int 0, .int 0])), (q7, .inl (ay 1, 16, .inl z0))]) H := hP
  have hD : va_D A (w ++ [(h0, .inr (1, [.null, .null, .null, .null, .null, .int 0, .int 0, .int 0])), (q7, .inl (ay 1, 16, .inl z0))]) := hD
  refine va_putF (D := D) (ci := 1) (v := .ref q7) (ty := .array .boolean) (C := RX1) (T := TX1) (N := 8) X.x X.b X.ts (by decide +kernel) tyX1 tyX1_ok nmX1 X.ow X.k hP hD hS (w.length + 0) ((ap_get w _ 0).trans rfl) rfl 0 (by decide) (X.ts (.fieldLink RX1 9 "LeadTimes$State" "taken" "[Z") (by decide +kernel)) (fun _ h9 => h9) rfl hin rfl (by decide +kernel) rfl rfl (Nat.le_of_ble_eq_true rfl) dX1_init_9 (fun H locs hP hD hS => ?_)
  rw [ap_set] at hP hD
  have hP : va_P D vwCl (w ++ [(h0, .inr (1, [.ref q7, .null, .null, .null, .null, .int 0, .int 0, .int 0])), (q7, .inl (ay 1, 16, .inl z0))]) H := hP
  have hD : va_D A (w ++ [(h0, .inr (1, [.ref q7, .null, .null, .null, .null, .int 0, .int 0, .int 0])), (q7, .inl (ay 1, 16, .inl z0))]) := hD
  refine lv_aload_n X.x X.b dX1_init_12 rfl (lv_at hl 0 rfl) ?_
  refine lv_bipush (v := 16) X.x X.b dX1_init_13 (by decide) ?_
  refine n_prim (w := w) (v := [(h0, .inr (1, [.ref q7, .null, .null, .null, .null, .int 0, .int 0, .int 0])), (q7, .inl (ay 1, 16, .inl z0))]) (a0 := (16, .inl z0)) (atype := .int) (ty := .int) X hA9 0 rfl rfl (fun _ h => h) (X.ts (.arrayClass .int) (by decide +kernel)) (fun _ => rfl) (by decide) (by decide) (Nat.le_of_ble_eq_true rfl) (Nat.le_of_ble_eq_true rfl) (Nat.le_of_ble_eq_true rfl) dX1_init_15 hP hD hS (fun q15 H hP hD hS => ?_)
  have hP : va_P D vwCl (w ++ [(h0, .inr (1, [.ref q7, .null, .null, .null, .null, .int 0, .int 0, .int 0])), (q7, .inl (ay 1, 16, .inl z0)), (q15, .inl (ay 0, 16, .inl z0))]) H := hP
  have hD : va_D A (w ++ [(h0, .inr (1, [.ref q7, .null, .null, .null, .null, .int 0, .int 0, .int 0])), (q7, .inl (ay 1, 16, .inl z0)), (q15, .inl (ay 0, 16, .inl z0))]) := hD
  refine va_putF (D := D) (ci := 1) (v := .ref q15) (ty := .array .int) (C := RX1) (T := TX1) (N := 8) X.x X.b X.ts (by decide +kernel) tyX1 tyX1_ok nmX1 X.ow X.k hP hD hS (w.length + 0) ((ap_get w _ 0).trans rfl) rfl 1 (by decide) (X.ts (.fieldLink RX1 15 "LeadTimes$State" "value" "[I") (by decide +kernel)) (fun _ h9 => h9) rfl hin rfl (by decide +kernel) rfl rfl (Nat.le_of_ble_eq_true rfl) dX1_init_17 (fun H locs hP hD hS => ?_)
  rw [ap_set] at hP hD
  have hP : va_P D vwCl (w ++ [(h0, .inr (1, [.ref q7, .ref q15, .null, .null, .null, .int 0, .int 0, .int 0])), (q7, .inl (ay 1, 16, .inl z0)), (q15, .inl (ay 0, 16, .inl z0))]) H := hP
  have hD : va_D A (w ++ [(h0, .inr (1, [.ref q7, .ref q15, .null, .null, .null, .int 0, .int 0, .int 0])), (q7, .inl (ay 1, 16, .inl z0)), (q15, .inl (ay 0, 16, .inl z0))]) := hD
  refine lv_aload_n X.x X.b dX1_init_20 rfl (lv_at hl 0 rfl) ?_
  refine lv_bipush (v := 16) X.x X.b dX1_init_21 (by decide) ?_
  refine n_prim (w := w) (v := [(h0, .inr (1, [.ref q7, .ref q15, .null, .null, .null, .int 0, .int 0, .int 0])), (q7, .inl (ay 1, 16, .inl z0)), (q15, .inl (ay 0, 16, .inl z0))]) (a0 := (16, .inl z0)) (atype := .int) (ty := .int) X hA9 0 rfl rfl (fun _ h => h) (X.ts (.arrayClass .int) (by decide +kernel)) (fun _ => rfl) (by decide) (by decide) (Nat.le_of_ble_eq_true rfl) (Nat.le_of_ble_eq_true rfl) (Nat.le_of_ble_eq_true rfl) dX1_init_23 hP hD hS (fun q23 H hP hD hS => ?_)
  have hP : va_P D vwCl (w ++ [(h0, .inr (1, [.ref q7, .ref q15, .null, .null, .null, .int 0, .int 0, .int 0])), (q7, .inl (ay 1, 16, .inl z0)), (q15, .inl (ay 0, 16, .inl z0)), (q23, .inl (ay 0, 16, .inl z0))]) H := hP
  have hD : va_D A (w ++ [(h0, .inr (1, [.ref q7, .ref q15, .null, .null, .null, .int 0, .int 0, .int 0])), (q7, .inl (ay 1, 16, .inl z0)), (q15, .inl (ay 0, 16, .inl z0)), (q23, .inl (ay 0, 16, .inl z0))]) := hD
  refine va_putF (D := D) (ci := 1) (v := .ref q23) (ty := .array .int) (C := RX1) (T := TX1) (N := 8) X.x X.b X.ts (by decide +kernel) tyX1 tyX1_ok nmX1 X.ow X.k hP hD hS (w.length + 0) ((ap_get w _ 0).trans rfl) rfl 2 (by decide) (X.ts (.fieldLink RX1 19 "LeadTimes$State" "speed" "[I") (by decide +kernel)) (fun _ h9 => h9) rfl hin rfl (by decide +kernel) rfl rfl (Nat.le_of_ble_eq_true rfl) dX1_init_25 (fun H locs hP hD hS => ?_)
  rw [ap_set] at hP hD
  have hP : va_P D vwCl (w ++ [(h0, .inr (1, [.ref q7, .ref q15, .ref q23, .null, .null, .int 0, .int 0, .int 0])), (q7, .inl (ay 1, 16, .inl z0)), (q15, .inl (ay 0, 16, .inl z0)), (q23, .inl (ay 0, 16, .inl z0))]) H := hP
  have hD : va_D A (w ++ [(h0, .inr (1, [.ref q7, .ref q15, .ref q23, .null, .null, .int 0, .int 0, .int 0])), (q7, .inl (ay 1, 16, .inl z0)), (q15, .inl (ay 0, 16, .inl z0)), (q23, .inl (ay 0, 16, .inl z0))]) := hD
  refine lv_aload_n X.x X.b dX1_init_28 rfl (lv_at hl 0 rfl) ?_
  refine lv_bipush (v := 16) X.x X.b dX1_init_29 (by decide) ?_
  refine n_prim (w := w) (v := [(h0, .inr (1, [.ref q7, .ref q15, .ref q23, .null, .null, .int 0, .int 0, .int 0])), (q7, .inl (ay 1, 16, .inl z0)), (q15, .inl (ay 0, 16, .inl z0)), (q23, .inl (ay 0, 16, .inl z0))]) (a0 := (16, .inl z0)) (atype := .int) (ty := .int) X hA9 0 rfl rfl (fun _ h => h) (X.ts (.arrayClass .int) (by decide +kernel)) (fun _ => rfl) (by decide) (by decide) (Nat.le_of_ble_eq_true rfl) (Nat.le_of_ble_eq_true rfl) (Nat.le_of_ble_eq_true rfl) dX1_init_31 hP hD hS (fun q31 H hP hD hS => ?_)
  have hP : va_P D vwCl (w ++ [(h0, .inr (1, [.ref q7, .ref q15, .ref q23, .null, .null, .int 0, .int 0, .int 0])), (q7, .inl (ay 1, 16, .inl z0)), (q15, .inl (ay 0, 16, .inl z0)), (q23, .inl (ay 0, 16, .inl z0)), (q31, .inl (ay 0, 16, .inl z0))]) H := hP
  have hD : va_D A (w ++ [(h0, .inr (1, [.ref q7, .ref q15, .ref q23, .null, .null, .int 0, .int 0, .int 0])), (q7, .inl (ay 1, 16, .inl z0)), (q15, .inl (ay 0, 16, .inl z0)), (q23, .inl (ay 0, 16, .inl z0)), (q31, .inl (ay 0, 16, .inl z0))]) := hD
  refine va_putF (D := D) (ci := 1) (v := .ref q31) (ty := .array .int) (C := RX1) (T := TX1) (N := 8) X.x X.b X.ts (by decide +kernel) tyX1 tyX1_ok nmX1 X.ow X.k hP hD hS (w.length + 0) ((ap_get w _ 0).trans rfl) rfl 3 (by decide) (X.ts (.fieldLink RX1 22 "LeadTimes$State" "addedAt" "[I") (by decide +kernel)) (fun _ h9 => h9) rfl hin rfl (by decide +kernel) rfl rfl (Nat.le_of_ble_eq_true rfl) dX1_init_33 (fun H locs hP hD hS => ?_)
  rw [ap_set] at hP hD
  have hP : va_P D vwCl (w ++ [(h0, .inr (1, [.ref q7, .ref q15, .ref q23, .ref q31, .null, .int 0, .int 0, .int 0])), (q7, .inl (ay 1, 16, .inl z0)), (q15, .inl (ay 0, 16, .inl z0)), (q23, .inl (ay 0, 16, .inl z0)), (q31, .inl (ay 0, 16, .inl z0))]) H := hP
  have hD : va_D A (w ++ [(h0, .inr (1, [.ref q7, .ref q15, .ref q23, .ref q31, .null, .int 0, .int 0, .int 0])), (q7, .inl (ay 1, 16, .inl z0)), (q15, .inl (ay 0, 16, .inl z0)), (q23, .inl (ay 0, 16, .inl z0)), (q31, .inl (ay 0, 16, .inl z0))]) := hD
  refine lv_aload_n X.x X.b dX1_init_36 rfl (lv_at hl 0 rfl) ?_
  refine lv_bipush (v := 16) X.x X.b dX1_init_37 (by decide) ?_
  refine n_prim (w := w) (v := [(h0, .inr (1, [.ref q7, .ref q15, .ref q23, .ref q31, .null, .int 0, .int 0, .int 0])), (q7, .inl (ay 1, 16, .inl z0)), (q15, .inl (ay 0, 16, .inl z0)), (q23, .inl (ay 0, 16, .inl z0)), (q31, .inl (ay 0, 16, .inl z0))]) (a0 := (16, .inl z0)) (atype := .int) (ty := .int) X hA9 0 rfl rfl (fun _ h => h) (X.ts (.arrayClass .int) (by decide +kernel)) (fun _ => rfl) (by decide) (by decide) (Nat.le_of_ble_eq_true rfl) (Nat.le_of_ble_eq_true rfl) (Nat.le_of_ble_eq_true rfl) dX1_init_39 hP hD hS (fun q39 H hP hD hS => ?_)
  have hP : va_P D vwCl (w ++ [(h0, .inr (1, [.ref q7, .ref q15, .ref q23, .ref q31, .null, .int 0, .int 0, .int 0])), (q7, .inl (ay 1, 16, .inl z0)), (q15, .inl (ay 0, 16, .inl z0)), (q23, .inl (ay 0, 16, .inl z0)), (q31, .inl (ay 0, 16, .inl z0)), (q39, .inl (ay 0, 16, .inl z0))]) H := hP
  have hD : va_D A (w ++ [(h0, .inr (1, [.ref q7, .ref q15, .ref q23, .ref q31, .null, .int 0, .int 0, .int 0])), (q7, .inl (ay 1, 16, .inl z0)), (q15, .inl (ay 0, 16, .inl z0)), (q23, .inl (ay 0, 16, .inl z0)), (q31, .inl (ay 0, 16, .inl z0)), (q39, .inl (ay 0, 16, .inl z0))]) := hD
  refine va_putF (D := D) (ci := 1) (v := .ref q39) (ty := .array .int) (C := RX1) (T := TX1) (N := 8) X.x X.b X.ts (by decide +kernel) tyX1 tyX1_ok nmX1 X.ow X.k hP hD hS (w.length + 0) ((ap_get w _ 0).trans rfl) rfl 4 (by decide) (X.ts (.fieldLink RX1 25 "LeadTimes$State" "turned" "[I") (by decide +kernel)) (fun _ h9 => h9) rfl hin rfl (by decide +kernel) rfl rfl (Nat.le_of_ble_eq_true rfl) dX1_init_41 (fun H locs hP hD hS => ?_)
  rw [ap_set] at hP hD
  have hP : va_P D vwCl (w ++ [(h0, .inr (1, [.ref q7, .ref q15, .ref q23, .ref q31, .ref q39, .int 0, .int 0, .int 0])), (q7, .inl (ay 1, 16, .inl z0)), (q15, .inl (ay 0, 16, .inl z0)), (q23, .inl (ay 0, 16, .inl z0)), (q31, .inl (ay 0, 16, .inl z0)), (q39, .inl (ay 0, 16, .inl z0))]) H := hP
  have hD : va_D A (w ++ [(h0, .inr (1, [.ref q7, .ref q15, .ref q23, .ref q31, .ref q39, .int 0, .int 0, .int 0])), (q7, .inl (ay 1, 16, .inl z0)), (q15, .inl (ay 0, 16, .inl z0)), (q23, .inl (ay 0, 16, .inl z0)), (q31, .inl (ay 0, 16, .inl z0)), (q39, .inl (ay 0, 16, .inl z0))]) := hD
  refine lv_aload_n X.x X.b dX1_init_44 rfl (lv_at hl 0 rfl) ?_
  refine lv_iconst (v := 0) X.x X.b dX1_init_45 (by decide) ?_
  refine va_put (D := D) (ci := 1) (v := .int 0) (ty := .int) (C := RX1) (T := TX1) (N := 8) X.x X.b X.ts (by decide +kernel) tyX1 tyX1_ok nmX1 X.ow X.k hP hD hS (w.length + 0) ((ap_get w _ 0).trans rfl) rfl 5 (by decide) (X.ts (.fieldLink RX1 28 "LeadTimes$State" "time" "I") (by decide +kernel)) (fun _ h9 => h9) rfl (by decide +kernel) rfl rfl (Nat.le_of_ble_eq_true rfl) dX1_init_46 (fun H locs hP hD hS => ?_)
  rw [ap_set] at hP hD
  have hP : va_P D vwCl (w ++ [(h0, .inr (1, [.ref q7, .ref q15, .ref q23, .ref q31, .ref q39, .int 0, .int 0, .int 0])), (q7, .inl (ay 1, 16, .inl z0)), (q15, .inl (ay 0, 16, .inl z0)), (q23, .inl (ay 0, 16, .inl z0)), (q31, .inl (ay 0, 16, .inl z0)), (q39, .inl (ay 0, 16, .inl z0))]) H := hP
  have hD : va_D A (w ++ [(h0, .inr (1, [.ref q7, .ref q15, .ref q23, .ref q31, .ref q39, .int 0, .int 0, .int 0])), (q7, .inl (ay 1, 16, .inl z0)), (q15, .inl (ay 0, 16, .inl z0)), (q23, .inl (ay 0, 16, .inl z0)), (q31, .inl (ay 0, 16, .inl z0)), (q39, .inl (ay 0, 16, .inl z0))]) := hD
  refine lv_aload_n X.x X.b dX1_init_49 rfl (lv_at hl 0 rfl) ?_
  refine lv_iconst (v := 0) X.x X.b dX1_init_50 (by decide) ?_
  refine va_put (D := D) (ci := 1) (v := .int 0) (ty := .int) (C := RX1) (T := TX1) (N := 8) X.x X.b X.ts (by decide +kernel) tyX1 tyX1_ok nmX1 X.ow X.k hP hD hS (w.length + 0) ((ap_get w _ 0).trans rfl) rfl 6 (by decide) (X.ts (.fieldLink RX1 32 "LeadTimes$State" "higherFirst" "I") (by decide +kernel)) (fun _ h9 => h9) rfl (by decide +kernel) rfl rfl (Nat.le_of_ble_eq_true rfl) dX1_init_51 (fun H locs hP hD hS => ?_)
  rw [ap_set] at hP hD
  have hP : va_P D vwCl (w ++ [(h0, .inr (1, [.ref q7, .ref q15, .ref q23, .ref q31, .ref q39, .int 0, .int 0, .int 0])), (q7, .inl (ay 1, 16, .inl z0)), (q15, .inl (ay 0, 16, .inl z0)), (q23, .inl (ay 0, 16, .inl z0)), (q31, .inl (ay 0, 16, .inl z0)), (q39, .inl (ay 0, 16, .inl z0))]) H := hP
  have hD : va_D A (w ++ [(h0, .inr (1, [.ref q7, .ref q15, .ref q23, .ref q31, .ref q39, .int 0, .int 0, .int 0])), (q7, .inl (ay 1, 16, .inl z0)), (q15, .inl (ay 0, 16, .inl z0)), (q23, .inl (ay 0, 16, .inl z0)), (q31, .inl (ay 0, 16, .inl z0)), (q39, .inl (ay 0, 16, .inl z0))]) := hD
  refine lv_aload_n X.x X.b dX1_init_54 rfl (lv_at hl 0 rfl) ?_
  refine lv_bipush (v := 50) X.x X.b dX1_init_55 (by decide) ?_
  refine va_put (D := D) (ci := 1) (v := .int 50) (ty := .int) (C := RX1) (T := TX1) (N := 8) X.x X.b X.ts (by decide +kernel) tyX1 tyX1_ok nmX1 X.ow X.k hP hD hS (w.length + 0) ((ap_get w _ 0).trans rfl) rfl 7 (by decide) (X.ts (.fieldLink RX1 35 "LeadTimes$State" "horizon" "I") (by decide +kernel)) (fun _ h9 => h9) rfl (by decide +kernel) rfl rfl (Nat.le_of_ble_eq_true rfl) dX1_init_57 (fun H locs hP hD hS => ?_)
  rw [ap_set] at hP hD
  have hP : va_P D vwCl (w ++ [(h0, .inr (1, [.ref q7, .ref q15, .ref q23, .ref q31, .ref q39, .int 0, .int 0, .int 50])), (q7, .inl (ay 1, 16, .inl z0)), (q15, .inl (ay 0, 16, .inl z0)), (q23, .inl (ay 0, 16, .inl z0)), (q31, .inl (ay 0, 16, .inl z0)), (q39, .inl (ay 0, 16, .inl z0))]) H := hP
  have hD : va_D A (w ++ [(h0, .inr (1, [.ref q7, .ref q15, .ref q23, .ref q31, .ref q39, .int 0, .int 0, .int 50])), (q7, .inl (ay 1, 16, .inl z0)), (q15, .inl (ay 0, 16, .inl z0)), (q23, .inl (ay 0, 16, .inl z0)), (q31, .inl (ay 0, 16, .inl z0)), (q39, .inl (ay 0, 16, .inl z0))]) := hD
  refine W.widen (k := 5) (n := 80) (by omega) (by omega) ?_
  exact W.vret X.x X.b X.rtt (fun t ht hW => ⟨⟨(fun k => [q7, q15, q23, q31, q39].getD k 0), rfl, trivial, (by rw [ht]; exact hP), KK.warm hW X.kk, hD⟩, hS.F ht⟩) hS.2.2 dX1_init_60 X.lk
set_option maxHeartbeats 4000000 in
set_option maxRecDepth 100000 in
theorem c_X2_init {l : Launch} {D : va_G} {ay : Nat → ClassId} {A : Nat → Prop} {w : va_W} {h0 sz : Nat} (hA : ∀ q, sz ≤ q → A q) : Met l yX2_init wsX2_init ({ frames := 1, cells := 1, slots := 60, locals := 12 } : Room) (va_Pc [.ref h0] (fun U => KK D ay U ∧ (sz ≤ U.heap.size ∧ va_P D vwCl (w ++ [(h0, .inr (2, [.null, .int 0, .int 0]))]) U.heap ∧ va_D A (w ++ [(h0, .inr (2, [.null, .int 0, .int 0]))])))) (va_Qv (fun _ : Nat → Nat => True) (fun q U => va_P D vwCl (w ++ [(h0, .inr (2, [.ref (q 0), .int 0, .int 0])), ((q 0), .inl (ay 2, 60, .inl z0))]) U.heap ∧ KK D ay U ∧ va_D A (w ++ [(h0, .inr (2, [.ref (q 0), .int 0, .int 0])), ((q 0), .inl (ay 2, 60, .inl z0))])) A) 1 60 A := by
  refine g_startN (own := RX2) (mL := 1) (by decide) rfl rfl rfl (Nat.le_of_ble_eq_true rfl) ?_
  intro p e s m below meth c ls X hin hPx hl
  obtain ⟨hsz, hP, hD⟩ := hPx
  have hl : lv_has ls 1 [(0, .ref h0)] := hl
  have hA9 : ∀ q, s.heap.size ≤ q → A q := fun q h => hA q (Nat.le_trans hsz h)
  have hS : va_S A s.heap s.heap [] := va_S.rf
  refine lv_aload_n X.x X.b dX2_init_0 rfl (lv_at hl 0 rfl) ?_
  refine W.objInit X.x X.b X.ow (X.ts (.methodLink RX2 3 objectInit) (by decide +kernel)) (X.ts (.instanceMethod objectInit) (by decide +kernel)) (X.ts _ (List.mem_cons_of_mem _ (List.mem_append_left _ (List.mem_of_getElem? (i := 2) rfl)))) rfl (by rw [X.ml]; exact hl.1) rfl dX2_init_1 (Nat.le_of_ble_eq_true rfl) (Nat.le_of_ble_eq_true rfl) ?_
  refine W.eq (g2 := F0 m 4 ls []) rfl ?_
  refine lv_aload_n X.x X.b dX2_init_4 rfl (lv_at hl 0 rfl) ?_
  refine lv_bipush (v := 60) X.x X.b dX2_init_5 (by decide) ?_
  refine n_prim (w := w) (v := [(h0, .inr (2, [.null, .int 0, .int 0]))]) (a0 := (60, .inl z0)) (atype := .char) (ty := .char) X hA9 2 rfl rfl (fun _ h => h) (X.ts (.arrayClass .char) (by decide +kernel)) (fun _ => rfl) (by decide) (by decide) (Nat.le_of_ble_eq_true rfl) (Nat.le_of_ble_eq_true rfl) (Nat.le_of_ble_eq_true rfl) dX2_init_7 hP hD hS (fun q7 H hP hD hS => ?_)
  have hP : va_P D vwCl (w ++ [(h0, .inr (2, [.null, .int 0, .int 0])), (q7, .inl (ay 2, 60, .inl z0))]) H := hP
  have hD : va_D A (w ++ [(h0, .inr (2, [.null, .int 0, .int 0])), (q7, .inl (ay 2, 60, .inl z0))]) := hD
  refine va_putF (D := D) (ci := 2) (v := .ref q7) (ty := .array .char) (C := RX2) (T := TX2) (N := 3) X.x X.b X.ts (by decide +kernel) tyX2 tyX2_ok nmX2 X.ow X.k hP hD hS (w.length + 0) ((ap_get w _ 0).trans rfl) rfl 0 (by decide) (X.ts (.fieldLink RX2 9 "LeadTimes$Text" "codes" "[C") (by decide +kernel)) (fun _ h9 => h9) rfl hin rfl (by decide +kernel) rfl rfl (Nat.le_of_ble_eq_true rfl) dX2_init_9 (fun H locs hP hD hS => ?_)
  rw [ap_set] at hP hD
  have hP : va_P D vwCl (w ++ [(h0, .inr (2, [.ref q7, .int 0, .int 0])), (q7, .inl (ay 2, 60, .inl z0))]) H := hP
  have hD : va_D A (w ++ [(h0, .inr (2, [.ref q7, .int 0, .int 0])), (q7, .inl (ay 2, 60, .inl z0))]) := hD
  refine lv_aload_n X.x X.b dX2_init_12 rfl (lv_at hl 0 rfl) ?_
  refine lv_iconst (v := 0) X.x X.b dX2_init_13 (by decide) ?_
  refine va_put (D := D) (ci := 2) (v := .int 0) (ty := .int) (C := RX2) (T := TX2) (N := 3) X.x X.b X.ts (by decide +kernel) tyX2 tyX2_ok nmX2 X.ow X.k hP hD hS (w.length + 0) ((ap_get w _ 0).trans rfl) rfl 1 (by decide) (X.ts (.fieldLink RX2 15 "LeadTimes$Text" "length" "I") (by decide +kernel)) (fun _ h9 => h9) rfl (by decide +kernel) rfl rfl (Nat.le_of_ble_eq_true rfl) dX2_init_14 (fun H locs hP hD hS => ?_)
  rw [ap_set] at hP hD
  have hP : va_P D vwCl (w ++ [(h0, .inr (2, [.ref q7, .int 0, .int 0])), (q7, .inl (ay 2, 60, .inl z0))]) H := hP
  have hD : va_D A (w ++ [(h0, .inr (2, [.ref q7, .int 0, .int 0])), (q7, .inl (ay 2, 60, .inl z0))]) := hD
  refine lv_aload_n X.x X.b dX2_init_17 rfl (lv_at hl 0 rfl) ?_
  refine lv_iconst (v := 0) X.x X.b dX2_init_18 (by decide) ?_
  refine va_put (D := D) (ci := 2) (v := .int 0) (ty := .int) (C := RX2) (T := TX2) (N := 3) X.x X.b X.ts (by decide +kernel) tyX2 tyX2_ok nmX2 X.ow X.k hP hD hS (w.length + 0) ((ap_get w _ 0).trans rfl) rfl 2 (by decide) (X.ts (.fieldLink RX2 19 "LeadTimes$Text" "readTo" "I") (by decide +kernel)) (fun _ h9 => h9) rfl (by decide +kernel) rfl rfl (Nat.le_of_ble_eq_true rfl) dX2_init_19 (fun H locs hP hD hS => ?_)
  rw [ap_set] at hP hD
  have hP : va_P D vwCl (w ++ [(h0, .inr (2, [.ref q7, .int 0, .int 0])), (q7, .inl (ay 2, 60, .inl z0))]) H := hP
  have hD : va_D A (w ++ [(h0, .inr (2, [.ref q7, .int 0, .int 0])), (q7, .inl (ay 2, 60, .inl z0))]) := hD
  refine W.widen (k := 1) (n := 60) (by omega) (by omega) ?_
  exact W.vret X.x X.b X.rtt (fun t ht hW => ⟨⟨(fun k => [q7].getD k 0), rfl, trivial, (by rw [ht]; exact hP), KK.warm hW X.kk, hD⟩, hS.F ht⟩) hS.2.2 dX2_init_22 X.lk
theorem n_lt {a : Int32} {N k : Nat} (ha : a = nI N) (h : k ≤ N) (hN : N < 2 ^ 31) : ¬ a < nI k := by
  subst ha
  exact fun q => absurd ((nI_lt_iff hN (by omega)).mp q) (by omega)
theorem n_le {a : Int32} {N k : Nat} (ha : a = nI N) (h : k < N) (hN : N < 2 ^ 31) : ¬ a ≤ nI k := by
  subst ha
  exact fun q => absurd ((nI_le_iff hN (by omega)).mp q) (by omega)
