/-! throws: what they need beside the words; the start of a method that throws; the throw itself; contracts over a larger world -/
abbrev eIA : String := "java/lang/IllegalArgumentException"
abbrev eIS : String := "java/lang/IllegalStateException"
abbrev eIO : String := "java/lang/IndexOutOfBoundsException"
abbrev exN : List String := ["java/lang/RuntimeException", "java/lang/Exception"]
def exE (k : Nat) : String := if k = 0 then eIA else if k = 1 then eIS else eIO
def dcl : List MethodName := [Bundle.initS "java/lang/RuntimeException", Bundle.initS "java/lang/Exception", Bundle.initS Bundle.tN]
def cst : List (String × String) := [(eIA, eIA), (eIS, eIS), (eIO, eIO)]
def ncT : List (String × String) := [(eIA, eIS), (eIA, eIO), (eIS, eIA), (eIS, eIO), (eIO, eIA), (eIO, eIS)]
def strT : List (Nat × String) := [(61, "value or speed is out of range"), (72, "no slot is free"), (90, "no mover on this slot"), (101, "speed is out of range"), (109, "by is out of range"), (113, "the value would be out of range"), (121, "no such slot"), (132, "the time would be out of range"), (140, "no contest turns any more"), (149, "no such setting"), (151, "value is out of range"), (162, "code is out of range"), (167, "the buffer is full"), (178, "the buffer is not complete movers"), (186, "too few slots are free"), (197, "no state is saved"), (226, "no such property"), (228, "no such contest"), (242, "no such span or property"), (250, "no such number"), (252, "after is out of range")]
def badW : List Cond := dcl.map Cond.declares ++ cst.map (fun q => Cond.castable q.1 q.2)
def TX (A : Nat → Prop) (sd : Nat → Nat) (U : State) : Prop := (∀ x ∈ dcl, va_Nw (.declares x) U) ∧ (∀ q ∈ cst, va_Nw (.castable q.1 q.2) U) ∧ (∀ q ∈ strT, vk_R RX3 q.1 q.2 (sd q.1) U) ∧ vx_Zq Bundle.tN "UNASSIGNED_STACK" Bundle.steD A U U.heap ∧ vx_Zq Bundle.tN "SUPPRESSED_SENTINEL" Bundle.listD A U U.heap ∧ (∀ q ∈ ncT, va_Nc q.1 q.2 U)
theorem TX.bad {A : Nat → Prop} {sd : Nat → Nat} {s : State} {args : Array Value} (hT : TX A sd s) : ∀ w ∈ badW, w.before args s = true := by
  intro w hw
  rcases List.mem_append.mp hw with h | h
  · obtain ⟨x, hx, rfl⟩ := List.mem_map.mp h
    exact va_Nw.use rfl (hT.1 x hx)
  · obtain ⟨x, hx, rfl⟩ := List.mem_map.mp h
    exact va_Nw.use rfl (hT.2.1 x hx)
theorem TX.warm {A : Nat → Prop} {sd : Nat → Nat} {s U : State} (hW : s.WarmedH U.vm) (hk : ∀ q : Nat, q < s.heap.size → ¬ A q → U.heap[q]? = s.heap[q]?) (h : TX A sd s) : TX A sd U :=
  ⟨fun x hx => va_Nw.warmD hW (h.1 x hx), fun q hq => va_Nw.warmC hW (h.2.1 q hq), fun q hq => vk_R.warm hW (h.2.2.1 q hq), vx_Zq.kept (vx_Zq.moved hW.alike h.2.2.2.1) hk, vx_Zq.kept (vx_Zq.moved hW.alike h.2.2.2.2.1) hk, fun q hq => va_Nc.moved hW.alike (h.2.2.2.2.2 q hq)⟩
theorem TX.same {A : Nat → Prop} {sd : Nat → Nat} {u U : State} (hv : u.vm = U.vm) (hh : u.heap = U.heap) (h : TX A sd u) : TX A sd U := by
  have al : u.vm.Alike U.vm := by rw [← hv]; exact Vm.Alike.refl u.vm
  exact ⟨fun x hx => va_Nw.same rfl hv (h.1 x hx), fun q hq => va_Nw.same rfl hv (h.2.1 q hq), fun q hq => vk_R.same hv.symm (h.2.2.1 q hq), by rw [← hh]; exact vx_Zq.moved al h.2.2.2.1, by rw [← hh]; exact vx_Zq.moved al h.2.2.2.2.1, fun q hq => va_Nc.moved al (h.2.2.2.2.2 q hq)⟩
theorem TX.narrow {A B : Nat → Prop} {sd : Nat → Nat} {U : State} (h : TX A sd U) (hAB : ∀ q, B q → A q) : TX B sd U := ⟨h.1, h.2.1, h.2.2.1, vx_Zq.narrow h.2.2.2.1 hAB, vx_Zq.narrow h.2.2.2.2.1 hAB, h.2.2.2.2.2⟩
theorem inl_inj {α : Type} {a k : Nat} (h : (some (Sum.inl a) : Option (Nat ⊕ α)) = some (Sum.inl k)) : a = k := Sum.inl.inj (Option.some.inj h)
theorem PT_blind {D : va_G} {ay : Nat → ClassId} {As : List Value} {w : va_W} {A : Nat → Prop} {sd : Nat → Nat} : FrameBlind (va_Pc As (fun U => PP D ay w U ∧ TX A sd U)) := fun a U g mk q => ⟨q.1, ⟨q.2.1.1, KK.same (U := U.calling g mk a) rfl q.2.1.2⟩, TX.same (U := U.calling g mk a) rfl rfl q.2.2⟩
section GT
variable {D : va_G} {ay : Nat → ClassId} {St : Type} {wd : St → va_W} {A : Nat → Prop} {p : Program} {l : Launch} {e : Env} {R : Room} {s : State} {m : MethodId} {args : Array Value} {below : List Frame} {meth : Method} {c : Code} {Q : State → Prop} {σ : St}
variable {cc : ByteArray} {nL : Nat} {own : String} {rt : Option FieldType} {Ts : List Cond} {pc : Nat} {ls : Array Slot} {st : List Value} {sd : Nat → Nat}
theorem g_startT {y : MethodName} {ws ws' : List Cond} {rm : Room} {As : List Value} {Qc : Array Value → State → Outcome → State → Prop} {XC : String → State → State → Prop} {mL : Nat} {rt : Option FieldType} (hy : plainName y.cls = true) (ho : y.cls = own) (hw : ws = Cond.code y cc mL rt :: ws') (hle : (lg_sl As).length ≤ mL)
    (body : ∀ (p : Program) (e : Env) (s : State) (m : MethodId) (below : List Frame) (meth : Method) (c : Code) (ls : Array Slot), CX D ay p s m As.toArray meth c cc mL own rt ws → (∀ x ∈ c.exceptionTable.toList, False) → TX A sd s → lv_has ls mL (lv_args 0 As) → GW D wd A p l e rm s m As.toArray below meth c (vx_MQ below Qc XC As.toArray s 1 6 A) σ (F0 m 0 ls [])) : vx_Met l y ws rm (va_Pc As (fun U => PP D ay (wd σ) U ∧ TX A sd U)) Qc XC 1 6 A := by
  refine vx_ofW (cc := cc) (maxL := mL) (ret := rt) hy hw ?_
  intro p e s m args below meth c s₁ B hml hno hv
  obtain ⟨rfl, ⟨hP, hK⟩, hT⟩ := hv
  rw [lg_entry_eq]
  exact body p e s m below meth c _ ⟨B.exec, B.bytes, hml, (by rw [← ho]; exact findClass_of_methodNamed B.named), atoms_spec (ws := ws) B.pre, B.returns, B.notSynchronized, hK⟩ hno hT (lv_entry As hle) s.heap [] hP va_S.rf
theorem g_throw (X : CX D ay p s m args meth c cc nL RX3 rt Ts) (hlt : l.stackTraces = false) (hno : ∀ x ∈ c.exceptionTable.toList, False) (hT : TX A sd s) {Qc : Array Value → State → Outcome → State → Prop} {cls text E0 : String} {ik is ic : Nat} (hE : E0 = cls) (hsz : ls.size = nL) (hcls : Bundle.fit cls = true) (hs : (is, text) ∈ strT)
    (hat : ∀ w ∈ (vx_atS RX3 ic cls exN).filter goodWord, w.before args s = true) (hbad : ∀ w ∈ (vx_atS RX3 ic cls exN).filter (fun w => !goodWord w), w ∈ badW) (hgood : ∀ w ∈ Cond.classLink RX3 ik cls :: Cond.initialized cls :: vx_atS RX3 ic cls exN, vx_ot w = true)
    (hk : (Cond.classLink RX3 ik cls).before args s = true) (hini : (Cond.initialized cls).before args s = true)
    (d0 : decode cc pc = .ok (.new ik, 3)) (d3 : decode cc (pc + 3) = .ok (.dup, 1)) (d4 : decode cc (pc + 4) = .ok (.ldc is, 2)) (d6 : decode cc (pc + 6) = .ok (.invokespecial ic, 3)) (d9 : decode cc (pc + 9) = .ok (.athrow, 1))
    (hRf : 5 < R.frames) (hRl : (st.map fun v => v.category).sum + 82 ≤ R.locals) (hRc : 1 ≤ R.cells) (hRs : 6 ≤ R.slots) :
    GW D wd A p l e R s m args below meth c (vx_MQ below Qc (vx_X (fun _ : Unit => True) (fun E _ t => E = E0 ∧ va_P D vwCl (wd σ) t.heap) A) args s 1 6 A) σ (F0 m pc ls st) := fun H locs hP hS => by
  subst hE
  exact vx_throwS (names := exN) (sa := sd is) (text := text) X.x X.b hlt X.ow hcls (by decide +kernel) hk hini (hT.2.2.1 (is, text) hs) (vx_hat hat hbad hT.bad) hgood hT.2.2.2.1 hT.2.2.2.2.1 hS (hsz.trans X.ml.symm) d0 d3 d4 d6 d9 (fun x hx => (hno x hx).elim) hRf hRl (by omega) (by omega) X.lk
    (fun t _ hle hkp => ⟨(), trivial, ⟨rfl, hP.kept (fun k q hq => hkp q.1 ((hP k q hq).lt))⟩, ⟨Nat.le_trans hS.1 hle, fun q h1 h2 => (hkp q (Nat.lt_of_lt_of_le h1 hS.1)).trans (hS.2.1 q h1 h2)⟩⟩) hS.2.2 (Nat.le_refl _) (Nat.le_refl _)
/-- a method with an exception table that returns -/
theorem ofWH {y : MethodName} {ws ws' : List Cond} {rm : Room} {Pc : Array Value → State → Prop} {Qc : Array Value → State → Outcome → State → Prop} {mc ms : Nat} {free : Addr → Prop} {mL : Nat} {rt : Option FieldType} {hh : List (Nat × Nat × Nat × Nat)}
    (hy : plainName y.cls = true) (hw : ws = Cond.codeWith y cc mL rt hh :: ws')
    (body : ∀ p e s m args below meth c s₁, BodyLoose p l y (headSpec ws rm) cc mL rt e s m args below meth c s₁ → c.maxLocals = mL → c.exceptionTable.toList = tableOf hh → Pc args s →
      W p l e (headSpec ws rm).room s m args below meth c s.heap [] 0 0 (MQ below Qc args s mc ms free) (entryFrame m args mL)) : Met l y ws rm Pc Qc mc ms free := by
  refine MetFree.of_bodyS (code := cc) (maxLocals := mL) (ret := rt) hy ?_ ?_
  · intro args s m h hn
    obtain ⟨m9, meth, c, hn9, h1, h2, h3, h4, -, h5, h6, -⟩ := Cond.codeWith_spec (atoms_spec (ws := ws) h _ (by rw [hw]; exact List.mem_cons_self))
    cases hn.symm.trans hn9
    exact ⟨meth, c, h1, h2, h3, h4, h5, h6⟩
  · intro p e s m args below meth c s₁ B hml hP _
    obtain ⟨t, a1, o, b1, b2, b3⟩ := body p e s m args below meth c s₁ B hml (vx_table (x := y) B (atoms_spec (ws := ws) B.pre _ (by rw [hw]; exact List.mem_cons_self))) hP s₁ (by rw [B.state]; rfl) (Stand.of_body B)
    exact ⟨t, o, a1, b1, b2, ⟨b3.1, b3.2⟩⟩
/-- its start: the world, and what a throw needs -/
theorem g_startW {y : MethodName} {ws ws' : List Cond} {rm : Room} {As : List Value} {Qc : Array Value → State → Outcome → State → Prop} {mc ms : Nat} {mL : Nat} {rt : Option FieldType} {hh : List (Nat × Nat × Nat × Nat)} (hy : plainName y.cls = true) (ho : y.cls = own) (hw : ws = Cond.codeWith y cc mL rt hh :: ws') (hle : (lg_sl As).length ≤ mL)
    (body : ∀ (p : Program) (e : Env) (s : State) (m : MethodId) (below : List Frame) (meth : Method) (c : Code) (ls : Array Slot), CX D ay p s m As.toArray meth c cc mL own rt ws → c.exceptionTable.toList = tableOf hh → TX A sd s → lv_has ls mL (lv_args 0 As) → GW D wd A p l e rm s m As.toArray below meth c (MQ below Qc As.toArray s mc ms A) σ (F0 m 0 ls [])) : Met l y ws rm (va_Pc As (fun U => PP D ay (wd σ) U ∧ TX A sd U)) Qc mc ms A := by
  refine ofWH (cc := cc) (mL := mL) (rt := rt) (hh := hh) hy hw ?_
  intro p e s m args below meth c s₁ B hml hno hv
  obtain ⟨rfl, ⟨hP, hK⟩, hT⟩ := hv
  rw [lg_entry_eq]
  exact body p e s m below meth c _ ⟨B.exec, B.bytes, hml, (by rw [← ho]; exact findClass_of_methodNamed B.named), atoms_spec (ws := ws) B.pre, B.returns, B.notSynchronized, hK⟩ hno hT (lv_entry As hle) s.heap [] hP va_S.rf
theorem g_last (X : CX D ay p s m args meth c cc nL own rt Ts) (hD : ∀ τ, va_D A (wd τ)) (σ' : St) {q0 a n : Nat} {f : Nat → Int64} {i : Int32} {x : Int64} (ha : (wd σ)[q0]? = some (a, .inl (ay 5, n, .inr (.inl f)))) (hin : vp_in i n) (hset : (wd σ).set q0 (a, .inl (ay 5, n, .inr (.inl (vp_updL f i.toNatClampNeg x)))) = wd σ') (d : decode cc pc = .ok (.lastore, 1))
    (k : GW D wd A p l e R s m args below meth c Q σ' (F0 m (pc + 1) ls st)) : GW D wd A p l e R s m args below meth c Q σ (F0 m pc ls (.long x :: .int i :: .ref a :: st)) := fun H locs hP hS => va_last X.x X.b X.k hP (hD σ) hS q0 5 ha rfl hin d (fun H1 locs1 hP1 _ hS1 => k H1 locs1 (by rw [← hset]; exact hP1) hS1)
theorem g_dast (X : CX D ay p s m args meth c cc nL own rt Ts) (hD : ∀ τ, va_D A (wd τ)) (σ' : St) {q0 a n : Nat} {f : Nat → UInt64} {i : Int32} {x : UInt64} (ha : (wd σ)[q0]? = some (a, .inl (ay 6, n, .inr (.inr (.inr (.inl f)))))) (hin : vp_in i n) (hset : (wd σ).set q0 (a, .inl (ay 6, n, .inr (.inr (.inr (.inl (vf_upd f i.toNatClampNeg x)))))) = wd σ') (d : decode cc pc = .ok (.dastore, 1))
    (k : GW D wd A p l e R s m args below meth c Q σ' (F0 m (pc + 1) ls st)) : GW D wd A p l e R s m args below meth c Q σ (F0 m pc ls (.double x :: .int i :: .ref a :: st)) := fun H locs hP hS => va_dast X.x X.b X.k hP (hD σ) hS q0 6 ha rfl hin d (fun H1 locs1 hP1 _ hS1 => k H1 locs1 (by rw [← hset]; exact hP1) hS1)
theorem g_rawbits (X : CX D ay p s m args meth c cc nL own rt Ts) (hsz : ls.size = nL) {index : Nat} {b : UInt64} (hlink : (Cond.methodLink own index ⟨"java/lang/Double", "doubleToRawLongBits", "(D)J"⟩).before args s = true) (hnat : (Cond.native ⟨"java/lang/Double", "doubleToRawLongBits", "(D)J"⟩).before args s = true) (hstat : (Cond.static ⟨"java/lang/Double", "doubleToRawLongBits", "(D)J"⟩).before args s = true) (hinit : (Cond.initialized "java/lang/Double").before args s = true)
    (hf : 1 ≤ R.frames) (hlc : (st.map fun v => v.category).sum + 15 ≤ R.locals) (d : decode cc pc = .ok (.invokestatic index, 3)) (k : GW D wd A p l e R s m args below meth c Q σ (F0 m (pc + 3) ls (.long b.toInt64 :: st))) : GW D wd A p l e R s m args below meth c Q σ (F0 m pc ls (.double b :: st)) := fun H locs hP hS => vn_d2l X.x X.b (X.ml.trans hsz.symm) X.ow hlink hnat hstat hinit hf hlc d (k H locs hP hS)
end GT
/-! the wrapper's world: the class's, and the cell of the answer -/
def oL (ay : Nat → ClassId) (oa : Nat) (v : Int64) : va_W := [(oa, .inl (ay 5, 1, .inr (.inl (fun j => if j = 0 then v else 0))))]
def oD (ay : Nat → ClassId) (oa : Nat) (v : UInt64) : va_W := [(oa, .inl (ay 6, 1, .inr (.inr (.inr (.inl (fun j => if j = 0 then v else 0))))))]
def wL (ay : Nat → ClassId) (ad : Nat → Nat) (oa : Nat) (u : Mem × Int64) : va_W := wC ay ad u.1 ++ oL ay oa u.2
def wV (ay : Nat → ClassId) (ad : Nat → Nat) (oa : Nat) (u : Mem × UInt64) : va_W := wC ay ad u.1 ++ oD ay oa u.2
def A2 (ad : Nat → Nat) (oa : Nat) : Nat → Prop := fun q => AC ad q ∨ q = oa
theorem P_left {D : va_G} {cl : List vw_C} {a b : va_W} {H : Heap} (h : va_P D cl (a ++ b) H) : va_P D cl a H := fun k q hk => h k q (by rw [List.getElem?_append_left (List.getElem?_eq_some_iff.mp hk).1]; exact hk)
theorem P_right {D : va_G} {cl : List vw_C} {a b : va_W} {H : Heap} (h : va_P D cl (a ++ b) H) : va_P D cl b H := fun k q hk => h (a.length + k) q (by rw [List.getElem?_append_right (by omega), Nat.add_sub_cancel_left]; exact hk)
theorem wC_len {ay : Nat → ClassId} {ad : Nat → Nat} {σ : Mem} : (wC ay ad σ).length = 108 := by simp [wC]
theorem wL_o {ay : Nat → ClassId} {ad : Nat → Nat} {oa : Nat} {u : Mem × Int64} : (wL ay ad oa u)[108]? = some (oa, .inl (ay 5, 1, .inr (.inl (fun j => if j = 0 then u.2 else 0)))) := by
  unfold wL
  rw [List.getElem?_append_right (by rw [wC_len]; omega), wC_len]; rfl
theorem wV_o {ay : Nat → ClassId} {ad : Nat → Nat} {oa : Nat} {u : Mem × UInt64} : (wV ay ad oa u)[108]? = some (oa, .inl (ay 6, 1, .inr (.inr (.inr (.inl (fun j => if j = 0 then u.2 else 0)))))) := by
  unfold wV
  rw [List.getElem?_append_right (by rw [wC_len]; omega), wC_len]; rfl
theorem wL_obj {ay : Nat → ClassId} {ad : Nat → Nat} {oa : Nat} {u : Mem × Int64} : (wL ay ad oa u)[0]? = some (ad 0, .inr (3, [.ref (ad 6), .ref (ad 1), .int (u.1 0 2), .int (u.1 0 3), .ref (ad 48), .ref (ad 2), .ref (ad 3), .ref (ad 4)])) := by
  unfold wL
  rw [List.getElem?_append_left (by rw [wC_len]; omega)]
  exact lt_obj
theorem wV_obj {ay : Nat → ClassId} {ad : Nat → Nat} {oa : Nat} {u : Mem × UInt64} : (wV ay ad oa u)[0]? = some (ad 0, .inr (3, [.ref (ad 6), .ref (ad 1), .int (u.1 0 2), .int (u.1 0 3), .ref (ad 48), .ref (ad 2), .ref (ad 3), .ref (ad 4)])) := by
  unfold wV
  rw [List.getElem?_append_left (by rw [wC_len]; omega)]
  exact lt_obj
theorem wL_set {ay : Nat → ClassId} {ad : Nat → Nat} {oa : Nat} {u : Mem × Int64} {x : Int64} : (wL ay ad oa u).set 108 (oa, .inl (ay 5, 1, .inr (.inl (vp_updL (fun j => if j = 0 then u.2 else 0) (0 : Int32).toNatClampNeg x)))) = wL ay ad oa (u.1, x) := by
  unfold wL
  rw [List.set_append_right _ _ (by rw [wC_len]; omega), wC_len]
  have e : vp_updL (fun j => if j = 0 then u.2 else 0) (0 : Int32).toNatClampNeg x = fun j => if j = 0 then x else 0 := by
    funext j
    unfold vp_updL
    rw [show (0 : Int32).toNatClampNeg = 0 from by decide]
    by_cases h : j = 0
    · rw [if_pos h, if_pos h]
    · rw [if_neg h, if_neg h]; exact if_neg h
  rw [e]; rfl
theorem wV_set {ay : Nat → ClassId} {ad : Nat → Nat} {oa : Nat} {u : Mem × UInt64} {x : UInt64} : (wV ay ad oa u).set 108 (oa, .inl (ay 6, 1, .inr (.inr (.inr (.inl (vf_upd (fun j => if j = 0 then u.2 else 0) (0 : Int32).toNatClampNeg x)))))) = wV ay ad oa (u.1, x) := by
  unfold wV
  rw [List.set_append_right _ _ (by rw [wC_len]; omega), wC_len]
  have e : vf_upd (fun j => if j = 0 then u.2 else 0) (0 : Int32).toNatClampNeg x = fun j => if j = 0 then x else 0 := by
    funext j
    unfold vf_upd
    rw [show (0 : Int32).toNatClampNeg = 0 from by decide]
    by_cases h : j = 0
    · rw [if_pos h, if_pos h]
    · rw [if_neg h, if_neg h]; exact if_neg h
  rw [e]; rfl
theorem wX_D {ay : Nat → ClassId} {ad : Nat → Nat} {oa : Nat} {σ : Mem} {e : va_E} (h : adOK ad) (ho : ¬ AC ad oa) : va_D (A2 ad oa) (wC ay ad σ ++ [(oa, e)]) := by
  refine va_D.app ((wC_D h σ).weaken (fun _ _ _ q => Or.inl q)) ⟨fun i j p q hi hj _ => ?_, fun k q hk => ?_⟩ (fun i j p q hi hj e9 => ?_)
  · have h1 := (List.getElem?_eq_some_iff.mp hi).1
    have h2 := (List.getElem?_eq_some_iff.mp hj).1
    simp at h1 h2; omega
  · have h1 := (List.getElem?_eq_some_iff.mp hk).1
    have : k = 0 := by simp at h1; omega
    subst this
    cases hk
    exact Or.inr rfl
  · have h1 := (List.getElem?_eq_some_iff.mp hj).1
    have : j = 0 := by simp at h1; omega
    subst this
    cases hj
    have e9 : p.1 = oa := e9
    exact ho (by rw [← e9]; exact (wC_D h σ).2 i p hi)
theorem wL_D {ay : Nat → ClassId} {ad : Nat → Nat} {oa : Nat} (h : adOK ad) (ho : ¬ AC ad oa) (u : Mem × Int64) : va_D (A2 ad oa) (wL ay ad oa u) := wX_D h ho
theorem wV_D {ay : Nat → ClassId} {ad : Nat → Nat} {oa : Nat} (h : adOK ad) (ho : ¬ AC ad oa) (u : Mem × UInt64) : va_D (A2 ad oa) (wV ay ad oa u) := wX_D h ho
section LF
variable {D : va_G} {ay : Nat → ClassId} {ad : Nat → Nat} {oa : Nat} {l : Launch} {y : MethodName} {ws : List Cond} {rm : Room} {As : List Value} {σ : Mem}
/-- a contract over the class's world is one over the wrapper's -/
theorem lift_i {ov : Int64} {post : Int32 → Mem → Prop} {post2 : Int32 → Mem × Int64 → Prop} (ho : ¬ AC ad oa) (hp : ∀ r τ, post r τ → post2 r (τ, ov)) (hM : Met l y ws rm (va_Pc As (PP D ay (wC ay ad σ))) (va_Qi post (fun τ => PP D ay (wC ay ad τ)) (AC ad)) 0 0 (AC ad)) :
    Met l y ws rm (va_Pc As (PP D ay (wL ay ad oa (σ, ov)))) (va_Qi post2 (fun u => PP D ay (wL ay ad oa u)) (A2 ad oa)) 0 0 (A2 ad oa) := by
  intro p e ha hc hk s m args below hf happ hP hK
  obtain ⟨hargs, hP1, hKK⟩ := hP
  obtain ⟨n, o, h1, h2, h3, ⟨⟨r, u, ho1, hpost, hB⟩, hF⟩, L, hL1, hL2⟩ := hM p e ha hc hk s m args below hf happ ⟨hargs, P_left hP1, hKK⟩ trivial
  refine ⟨n, o, h1, h2, h3, ⟨⟨r, (u, ov), ho1, hp r u hpost, ⟨va_P.app hB.1 ((P_right hP1).kept (fun k q hk => ?_)), hB.2⟩⟩, ⟨hF.1, fun q q1 q2 => hF.2 q q1 (fun h => q2 (Or.inl h))⟩⟩, L, hL1, fun q h => Or.inl (hL2 q h)⟩
  have h9 := (List.getElem?_eq_some_iff.mp hk).1
  have : k = 0 := by simp [oL] at h9; omega
  subst this
  have hq : q.1 = oa := by cases hk; rfl
  exact hF.2 q.1 ((P_right hP1) 0 q hk).lt (by rw [hq]; exact ho)
theorem lift_d {ov : UInt64} {post : UInt64 → Mem → Prop} {post2 : UInt64 → Mem × UInt64 → Prop} (ho : ¬ AC ad oa) (hp : ∀ r τ, post r τ → post2 r (τ, ov)) (hM : Met l y ws rm (va_Pc As (PP D ay (wC ay ad σ))) (va_Qd post (fun τ => PP D ay (wC ay ad τ)) (AC ad)) 0 0 (AC ad)) :
    Met l y ws rm (va_Pc As (PP D ay (wV ay ad oa (σ, ov)))) (va_Qd post2 (fun u => PP D ay (wV ay ad oa u)) (A2 ad oa)) 0 0 (A2 ad oa) := by
  intro p e ha hc hk s m args below hf happ hP hK
  obtain ⟨hargs, hP1, hKK⟩ := hP
  obtain ⟨n, o, h1, h2, h3, ⟨⟨r, u, ho1, hpost, hB⟩, hF⟩, L, hL1, hL2⟩ := hM p e ha hc hk s m args below hf happ ⟨hargs, P_left hP1, hKK⟩ trivial
  refine ⟨n, o, h1, h2, h3, ⟨⟨r, (u, ov), ho1, hp r u hpost, ⟨va_P.app hB.1 ((P_right hP1).kept (fun k q hk => ?_)), hB.2⟩⟩, ⟨hF.1, fun q q1 q2 => hF.2 q q1 (fun h => q2 (Or.inl h))⟩⟩, L, hL1, fun q h => Or.inl (hL2 q h)⟩
  have h9 := (List.getElem?_eq_some_iff.mp hk).1
  have : k = 0 := by simp [oD] at h9; omega
  subst this
  have hq : q.1 = oa := by cases hk; rfl
  exact hF.2 q.1 ((P_right hP1) 0 q hk).lt (by rw [hq]; exact ho)
end LF
section CT
variable {D : va_G} {ay : Nat → ClassId} {ad : Nat → Nat} {oa : Nat} {p : Program} {l : Launch} {e : Env} {R : Room} {s : State} {m : MethodId} {args : Array Value} {below : List Frame} {meth : Method} {c : Code} {Q : State → Prop}
variable {cc : ByteArray} {nL : Nat} {own : String} {rt : Option FieldType} {Ts : List Cond} {pc : Nat} {ls : Array Slot} {sd : Nat → Nat}
/-- the call that throws; what follows is the frame with the thrown cell over it -/
theorem gf_throw {St : Type} {fr : va_W} {wd : St → va_W} {u : St} {σ : Mem} (hwd : wd u = wC ay ad σ ++ fr) (hfr : ∀ (k : Nat) (q : Nat × va_E), fr[k]? = some q → ¬ AC ad q.1) (X : CX D ay p s m args meth c cc nL own rt Ts) (hT : TX (A2 ad oa) sd s) {y : MethodName} {bytes : ByteArray} {maxL index n : Nat} {rt9 : Option FieldType} {ws : List Cond} {rm : Room} {As rest st0 : List Value} {E0 : String}
    (hM : vx_Met l y ws rm (va_Pc (.ref (ad 0) :: As) (fun U => PP D ay (wC ay ad σ) U ∧ TX (AC ad) sd U)) (va_Qv (fun _ : Unit => False) (fun _ _ => True) (fun _ => False)) (vx_X (fun _ : Unit => True) (fun E _ t => E = E0 ∧ va_P D vwCl (wC ay ad σ) t.heap) (AC ad)) 1 6 (AC ad)) (cw : CallW R s args own RX3 index y bytes maxL rt9 ws rm 1 6 n)
    (hn : As.length = n) (hl : ls.size = nL) (hst : st0 = As.reverse ++ .ref (ad 0) :: rest) (hcat : (rest.map fun v => v.category).sum ≤ 8) (d : decode cc pc = .ok (.invokevirtual index, 3)) (hRc : 1 ≤ R.cells) (hRs : 6 ≤ R.slots)
    (kx : ∀ (ce : Cell) (q9 : Addr) (H1 : Heap) (locs1 : List Loc), va_P D vwCl (wd u) H1 → va_S (A2 ad oa) s.heap H1 locs1 → H1[q9]? = some ce → ce.vm = .none → s.vm.findClass E0 = some ce.cls → vx_W p l e R s m args below meth c H1 locs1 1 6 Q (F0 m pc ls rest) q9) : GW D wd (A2 ad oa) p l e R s m args below meth c Q u (F0 m pc ls st0) := by
  intro H locs hP hS
  subst hst
  rw [hwd] at hP
  have hP1 := P_left hP
  have hP2 := P_right hP
  refine vx_callv (vx_runV (As := As) (rest := rest) X.fix hM cw ⟨PT_blind, va_recv X.k hP1 (q0 := 0) (ci := 3) rfl lt_obj, fun U hU hW => ⟨rfl, ⟨by rw [hU]; exact hP1, KK.warm hW X.kk⟩, (TX.warm hW (fun q q1 q2 => by rw [hU]; exact hS.2.1 q q1 q2) hT).narrow (fun q h => Or.inl h)⟩⟩ rfl hn hl rfl (lv_room hcat) d ⟨by omega, by omega⟩) hS (fun q _ h => h.elim) (fun q h => Or.inl h) (fun q _ h => Or.inl h) (fun E ce q9 _ t H1 locs1 ht hvm _ hB hz hk hS1 hce hcv hcl => ?_) (fun _ _ _ _ _ _ hw => hw.elim)
  obtain ⟨rfl, hP9⟩ := hB
  rw [ht] at hP9
  refine kx ce q9 H1 locs1 ?_ hS1 hce hcv hcl
  rw [hwd]
  exact hP9.app (hP2.kept (fun k q hk9 => hk q.1 ((hP2 k q hk9).lt) (hfr k q hk9)))
end CT
