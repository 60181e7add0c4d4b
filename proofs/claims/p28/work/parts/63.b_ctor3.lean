/-! the class's own constructor: now, six saved states, fifteen courses, the row of winners, the text -/
def cwd : Nat → Int32 × Int32
  | 0 => (0, 8)
  | n + 1 => if 16 ≤ (cwd n).1 + (cwd n).2 then (0, (cwd n).2 / 2) else ((cwd n).1 + (cwd n).2, (cwd n).2)
def cfw : Nat → Int32 × Int32
  | 0 => (0, 16)
  | n + 1 => cwd n
def sig0 : Mem := fun x k => if x < 6 then 0 else if x < 48 then (if (x - 6) % 6 = 0 ∧ k = 7 then 50 else 0) else if (x - 48) % 4 = 0 ∧ k = 0 then (cfw ((x - 48) / 4)).1 else if (x - 48) % 4 = 0 ∧ k = 1 then (cfw ((x - 48) / 4)).1 + (cfw ((x - 48) / 4)).2 else 0
def stL (ay : Nat → ClassId) (f : Nat → Nat) (n : Nat) : va_W := [(f n, .inr (1, [.ref (f (n + 1)), .ref (f (n + 2)), .ref (f (n + 3)), .ref (f (n + 4)), .ref (f (n + 5)), .int 0, .int 0, .int 50])), (f (n + 1), .inl (ay 1, 16, .inl z0)), (f (n + 2), .inl (ay 0, 16, .inl z0)), (f (n + 3), .inl (ay 0, 16, .inl z0)), (f (n + 4), .inl (ay 0, 16, .inl z0)), (f (n + 5), .inl (ay 0, 16, .inl z0))]
def coL (ay : Nat → ClassId) (f : Nat → Nat) (n : Nat) (q : Int32 × Int32) : va_W := [(f n, .inr (0, [.int q.1, .int (q.1 + q.2), .ref (f (n + 1)), .ref (f (n + 2)), .ref (f (n + 3)), .int 0])), (f (n + 1), .inl (ay 0, 16, .inl z0)), (f (n + 2), .inl (ay 0, 16, .inl z0)), (f (n + 3), .inl (ay 0, 16, .inl z0))]
def SW (ay : Nat → ClassId) (f : Nat → Nat) (i : Nat) : va_W := (List.range i).flatMap (fun k => stL ay f (6 + 6 * k))
def CW (ay : Nat → ClassId) (f : Nat → Nat) (i : Nat) : va_W := (List.range i).flatMap (fun k => coL ay f (48 + 4 * k) (cfw k))
def svE (ay : Nat → ClassId) (f : Nat → Nat) (i : Nat) : va_E := .inl (ay 3, 6, .inr (.inr (.inr (.inr (fun k => if k < i then some (f (12 + 6 * k)) else none)))))
def csE (ay : Nat → ClassId) (f : Nat → Nat) (j : Nat) : va_E := .inl (ay 4, 16, .inr (.inr (.inr (.inr (fun k => if 1 ≤ k ∧ k < j + 1 then some (f (44 + 4 * k)) else none)))))
def B1 (ay : Nat → ClassId) (f : Nat → Nat) (i : Nat) : va_W := [(f 0, .inr (3, [.ref (f 6), .ref (f 1), .int 0, .int 0, .null, .null, .null, .null])), (f 1, svE ay f i)] ++ SW ay f (i + 1)
def B2 (ay : Nat → ClassId) (f : Nat → Nat) (j : Nat) : va_W := [(f 0, .inr (3, [.ref (f 6), .ref (f 1), .int 0, .int 0, .ref (f 48), .ref (f 2), .null, .null])), (f 1, svE ay f 6), (f 2, csE ay f j)] ++ (SW ay f 7 ++ CW ay f j)
def nu (f : Nat → Nat) (a n : Nat) (q : Nat) (r : Nat → Nat) : Nat → Nat := fun x => if a ≤ x ∧ x < a + n then (if x = a then q else r (x - a - 1)) else f x
theorem nu_lt {f : Nat → Nat} {a n q : Nat} {r : Nat → Nat} {x : Nat} (h : x < a) : nu f a n q r x = f x := if_neg (fun w => by omega)
theorem nu_0 {f : Nat → Nat} {a n q : Nat} {r : Nat → Nat} (h : 0 < n) : nu f a n q r a = q := by
  unfold nu
  rw [if_pos ⟨Nat.le_refl _, by omega⟩, if_pos rfl]
theorem nu_s {f : Nat → Nat} {a n q : Nat} {r : Nat → Nat} {j : Nat} (h : j + 1 < n) : nu f a n q r (a + (j + 1)) = r j := by
  unfold nu
  rw [if_pos ⟨by omega, by omega⟩, if_neg (by omega)]
  congr 1
  omega
theorem stL_cong {ay : Nat → ClassId} {f f' : Nat → Nat} {n : Nat} (h : ∀ j, j < 6 → f' (n + j) = f (n + j)) : stL ay f' n = stL ay f n := by
  unfold stL
  rw [show f' n = f n from h 0 (by omega), h 1 (by omega), h 2 (by omega), h 3 (by omega), h 4 (by omega), h 5 (by omega)]
theorem coL_cong {ay : Nat → ClassId} {f f' : Nat → Nat} {n : Nat} {q : Int32 × Int32} (h : ∀ j, j < 4 → f' (n + j) = f (n + j)) : coL ay f' n q = coL ay f n q := by
  unfold coL
  rw [show f' n = f n from h 0 (by omega), h 1 (by omega), h 2 (by omega), h 3 (by omega)]
theorem SW_succ (ay : Nat → ClassId) (f : Nat → Nat) (i : Nat) : SW ay f (i + 1) = SW ay f i ++ stL ay f (6 + 6 * i) := by
  unfold SW
  rw [List.range_succ, List.flatMap_append]
  simp
theorem CW_succ (ay : Nat → ClassId) (f : Nat → Nat) (i : Nat) : CW ay f (i + 1) = CW ay f i ++ coL ay f (48 + 4 * i) (cfw i) := by
  unfold CW
  rw [List.range_succ, List.flatMap_append]
  simp
theorem SW_cong {ay : Nat → ClassId} {f f' : Nat → Nat} : ∀ {i : Nat}, (∀ x, 6 ≤ x → x < 6 + 6 * i → f' x = f x) → SW ay f' i = SW ay f i
  | 0, _ => rfl
  | i + 1, h => by rw [SW_succ, SW_succ, SW_cong (fun x h6 hx => h x h6 (by omega)), stL_cong (fun j hj => h _ (by omega) (by omega))]
theorem CW_cong {ay : Nat → ClassId} {f f' : Nat → Nat} : ∀ {i : Nat}, (∀ x, 48 ≤ x → x < 48 + 4 * i → f' x = f x) → CW ay f' i = CW ay f i
  | 0, _ => rfl
  | i + 1, h => by rw [CW_succ, CW_succ, CW_cong (fun x h6 hx => h x h6 (by omega)), coL_cong (fun j hj => h _ (by omega) (by omega))]
theorem SW_get (ay : Nat → ClassId) (f : Nat → Nat) : ∀ n, (SW ay f n).length = 6 * n ∧ ∀ i j, i < n → j < 6 → (SW ay f n)[6 * i + j]? = (stL ay f (6 + 6 * i))[j]?
  | 0 => ⟨rfl, fun i j h => by omega⟩
  | n + 1 => by
    obtain ⟨h1, h2⟩ := SW_get ay f n
    rw [SW_succ]
    refine ⟨by rw [List.length_append, h1]; show 6 * n + 6 = _; omega, fun i j hi hj => ?_⟩
    by_cases q : i < n
    · rw [List.getElem?_append_left (by rw [h1]; omega)]; exact h2 i j q hj
    · have : i = n := by omega
      subst this
      rw [List.getElem?_append_right (by rw [h1]; omega), h1, Nat.add_sub_cancel_left]
theorem CW_get (ay : Nat → ClassId) (f : Nat → Nat) : ∀ n, (CW ay f n).length = 4 * n ∧ ∀ i j, i < n → j < 4 → (CW ay f n)[4 * i + j]? = (coL ay f (48 + 4 * i) (cfw i))[j]?
  | 0 => ⟨rfl, fun i j h => by omega⟩
  | n + 1 => by
    obtain ⟨h1, h2⟩ := CW_get ay f n
    rw [CW_succ]
    refine ⟨by rw [List.length_append, h1]; show 4 * n + 4 = _; omega, fun i j hi hj => ?_⟩
    by_cases q : i < n
    · rw [List.getElem?_append_left (by rw [h1]; omega)]; exact h2 i j q hj
    · have : i = n := by omega
      subst this
      rw [List.getElem?_append_right (by rw [h1]; omega), h1, Nat.add_sub_cancel_left]
def nSt (q : Nat) : va_W := [(q, .inr (1, [.null, .null, .null, .null, .null, .int 0, .int 0, .int 0]))]
def nCo (q : Nat) : va_W := [(q, .inr (0, [.int 0, .int 0, .null, .null, .null, .int 0]))]
section CI
variable {D : va_G} {ay : Nat → ClassId} {A : Nat → Prop} {p : Program} {l : Launch} {e : Env} {R : Room} {s : State} {m : MethodId} {args : Array Value} {below : List Frame} {meth : Method} {c : Code} {Q : State → Prop}
variable {cc : ByteArray} {nL : Nat} {own : String} {rt : Option FieldType} {Ts : List Cond} {pc : Nat} {ls : Array Slot} {H : Heap} {locs : List Loc} {cells slots : Nat} {w : va_W}
variable {y : MethodName} {bytes : ByteArray} {maxL index n mc ms b : Nat} {ws : List Cond} {rm : Room} {As rest st0 : List Value} {host : String} {S : Type} {px : S → Prop} {Wq : S → va_W} {Px : State → Prop}
theorem n_ctorI (X : CX D ay p s m args meth c cc nL own rt Ts) (hM : Met l y ws rm (va_Pc (.ref b :: As) (fun U => KK D ay U ∧ Px U)) (va_Qv px (fun q U => va_P D vwCl (Wq q) U.heap ∧ KK D ay U ∧ va_D A (Wq q)) A) mc ms A) (cwd : CallB R s args own index y bytes maxL none ws rm mc ms n ∧ y.name = "<init>" ∧ (Cond.instanceMethod y).before args s = true)
    (hbl : ∀ (a : Array Value) (U : State) (g : JFrame) (mk : MethodId), Px U → Px (U.calling g mk a)) (hPx : ∀ U : State, U.heap = H → s.WarmedH U.vm → Px U) (hn : As.length = n) (hl : ls.size = nL) (hst : st0 = As.reverse ++ .ref b :: rest) (hcat : (rest.map fun v => v.category).sum ≤ 8) (d : decode cc pc = .ok (.invokespecial index, 3)) (hmc : cells + mc ≤ R.cells) (hms : slots + ms ≤ R.slots) (hS : va_S A s.heap H locs)
    (kk : ∀ (q : S) (H1 : Heap) (locs1 : List Loc), px q → va_P D vwCl (Wq q) H1 → va_D A (Wq q) → va_S A s.heap H1 locs1 → W p l e R s m args below meth c H1 locs1 (cells + mc) (slots + ms) Q (F0 m (pc + 3) ls rest)) : W p l e R s m args below meth c H locs cells slots Q (F0 m pc ls st0) := by
  subst hst
  refine va_callv (va_runI (As := As) (rest := rest) X.fix hM cwd ⟨fun a U g mk q => ⟨q.1, KK.same (U := U.calling g mk a) rfl q.2.1, hbl a U g mk q.2.2⟩, fun U hU hW => ⟨rfl, KK.warm hW X.kk, hPx U hU hW⟩⟩ rfl hn hl rfl (lv_room hcat) d ⟨hmc, hms⟩) hS (fun q _ h => h) (fun q h => h) (fun u t H1 locs1 ht hvm hw hB hz hk hS1 => ?_)
  obtain ⟨hP1, -, hD1⟩ := hB
  rw [ht] at hP1
  exact kk u H1 locs1 hw hP1 hD1 hS1
theorem n_ctorN (X : CX D ay p s m args meth c cc nL own rt Ts) (hM : Met l y ws rm (va_Pc (.ref b :: As) (fun U => KK D ay U ∧ Px U)) (va_Qv px (fun q U => va_P D vwCl (Wq q) U.heap ∧ KK D ay U ∧ va_D A (Wq q)) A) mc ms A) (cwd : va_CN R s args own index y host bytes maxL none ws rm mc ms n ∧ y.name = "<init>" ∧ (Cond.instanceMethod y).before args s = true)
    (hbl : ∀ (a : Array Value) (U : State) (g : JFrame) (mk : MethodId), Px U → Px (U.calling g mk a)) (hPx : ∀ U : State, U.heap = H → s.WarmedH U.vm → Px U) (hn : As.length = n) (hl : ls.size = nL) (hst : st0 = As.reverse ++ .ref b :: rest) (hcat : (rest.map fun v => v.category).sum ≤ 8) (d : decode cc pc = .ok (.invokespecial index, 3)) (hmc : cells + mc ≤ R.cells) (hms : slots + ms ≤ R.slots) (hS : va_S A s.heap H locs)
    (kk : ∀ (q : S) (H1 : Heap) (locs1 : List Loc), px q → va_P D vwCl (Wq q) H1 → va_D A (Wq q) → va_S A s.heap H1 locs1 → W p l e R s m args below meth c H1 locs1 (cells + mc) (slots + ms) Q (F0 m (pc + 3) ls rest)) : W p l e R s m args below meth c H locs cells slots Q (F0 m pc ls st0) := by
  subst hst
  refine va_callv (va_runIN (As := As) (rest := rest) X.fix hM cwd ⟨fun a U g mk q => ⟨q.1, KK.same (U := U.calling g mk a) rfl q.2.1, hbl a U g mk q.2.2⟩, fun U hU hW => ⟨rfl, KK.warm hW X.kk, hPx U hU hW⟩⟩ rfl hn hl rfl (lv_room hcat) d ⟨hmc, hms⟩) hS (fun q _ h => h) (fun q h => h) (fun u t H1 locs1 ht hvm hw hB hz hk hS1 => ?_)
  obtain ⟨hP1, -, hD1⟩ := hB
  rw [ht] at hP1
  exact kk u H1 locs1 hw hP1 hD1 hS1
end CI
section C3
variable {D : va_G} {ay : Nat → ClassId} {A : Nat → Prop} {p : Program} {l : Launch} {e : Env} {s : State} {m : MethodId} {args : Array Value} {below : List Frame} {meth : Method} {c : Code} {Q : State → Prop}
variable {pc : Nat} {ls : Array Slot} {st : List Value} {H : Heap} {locs : List Loc} {cells slots : Nat} {w : va_W}
abbrev R3 : Room := { frames := 2, cells := 107, slots := 1527, locals := 34 }
set_option maxHeartbeats 4000000 in
set_option maxRecDepth 100000 in
theorem n_state (X : CX D ay p s m args meth c cX3_init 4 RX3 none wsX3_init) (hA : ∀ q, s.heap.size ≤ q → A q) (hN : va_Nw (.methodLinkNest RX3 11 yX1_init RX3) s) (hl : ls.size = 4) (d0 : decode cX3_init pc = .ok (.new 9, 3)) (d3 : decode cX3_init (pc + 3) = .ok (.dup, 1)) (d4 : decode cX3_init (pc + 4) = .ok (.invokespecial 11, 3)) (hcat : (st.map fun v => v.category).sum ≤ 7)
    (hc : cells + 6 ≤ 107) (hs : slots + 88 ≤ 1527) (hP : va_P D vwCl w H) (hD : va_D A w) (hS : va_S A s.heap H locs)
    (kk : ∀ (q : Nat) (r : Nat → Nat) (H : Heap) (locs : List Loc), va_P D vwCl (w ++ [(q, .inr (1, [.ref (r 0), .ref (r 1), .ref (r 2), .ref (r 3), .ref (r 4), .int 0, .int 0, .int 50])), (r 0, .inl (ay 1, 16, .inl z0)), (r 1, .inl (ay 0, 16, .inl z0)), (r 2, .inl (ay 0, 16, .inl z0)), (r 3, .inl (ay 0, 16, .inl z0)), (r 4, .inl (ay 0, 16, .inl z0))]) H →
      va_D A (w ++ [(q, .inr (1, [.ref (r 0), .ref (r 1), .ref (r 2), .ref (r 3), .ref (r 4), .int 0, .int 0, .int 50])), (r 0, .inl (ay 1, 16, .inl z0)), (r 1, .inl (ay 0, 16, .inl z0)), (r 2, .inl (ay 0, 16, .inl z0)), (r 3, .inl (ay 0, 16, .inl z0)), (r 4, .inl (ay 0, 16, .inl z0))]) → va_S A s.heap H locs →
      W p l e R3 s m args below meth c H locs (cells + 6) (slots + 88) Q (F0 m (pc + 7) ls (.ref q :: st))) : W p l e R3 s m args below meth c H locs cells slots Q (F0 m pc ls st) := by
  refine va_new (ci := 1) (fs := [.null, .null, .null, .null, .null, .int 0, .int 0, .int 0]) (C := RX1) (T := TX1) (N := 8) X.x X.b X.ts (by decide +kernel) tyX1 tyX1_ok X.ow (X.ts (.classLink RX3 9 RX1) (by decide +kernel)) (X.ts (.instantiable RX1 8) (by decide +kernel)) (X.ts (.initialized RX1) (by decide +kernel)) X.k hP hD hS hA rfl (fun j hj => by rcases (show j = 0 ∨ j = 1 ∨ j = 2 ∨ j = 3 ∨ j = 4 ∨ j = 5 ∨ j = 6 ∨ j = 7 by omega) with rfl | rfl | rfl | rfl | rfl | rfl | rfl | rfl <;> rfl) (show cells + 1 ≤ 107 by omega) (show slots + 8 ≤ 1527 by omega) d0 (fun q H hP hD hS => ?_)
  refine lv_dup X.x X.b d3 rfl ?_
  refine n_ctorN (As := []) (rest := .ref q :: st) (mc := 5) (ms := 80) (Px := fun U => s.heap.size ≤ U.heap.size ∧ va_P D vwCl (w ++ nSt q) U.heap ∧ va_D A (w ++ nSt q)) X (c_X1_init (w := w) (h0 := q) (sz := s.heap.size) hA) ⟨va_cnB 0 X.ts gX3_init_X1_init_n11 rfl rfl rfl hN (X.ts (.initialized RX1) (by decide +kernel)) (by decide +kernel) ⟨Nat.le_of_ble_eq_true rfl, Nat.le_of_ble_eq_true rfl⟩, rfl, X.ts (.instanceMethod yX1_init) (by decide +kernel)⟩ (fun a U g mk h => h) (fun U hU hW => by rw [hU]; exact ⟨hS.1, hP, hD⟩) rfl hl rfl (by rw [List.map_cons, List.sum_cons]; show 1 + _ ≤ 8; omega) d4 (show cells + 1 + 5 ≤ 107 by omega) (show slots + 8 + 80 ≤ 1527 by omega) hS (fun r H locs _ hP hD hS => ?_)
  exact W.widen (by omega) (by omega) (kk q r H locs hP hD hS)
set_option maxHeartbeats 4000000 in
set_option maxRecDepth 100000 in
theorem n_newC (X : CX D ay p s m args meth c cX3_init 4 RX3 none wsX3_init) (hA : ∀ q, s.heap.size ≤ q → A q) (d0 : decode cX3_init pc = .ok (.new 27, 3)) (hc : cells + 1 ≤ 107) (hs : slots + 6 ≤ 1527) (hP : va_P D vwCl w H) (hD : va_D A w) (hS : va_S A s.heap H locs)
    (kk : ∀ (q : Nat) (H : Heap), va_P D vwCl (w ++ [(q, .inr (0, [.int 0, .int 0, .null, .null, .null, .int 0]))]) H → va_D A (w ++ [(q, .inr (0, [.int 0, .int 0, .null, .null, .null, .int 0]))]) → va_S A s.heap H locs → W p l e R3 s m args below meth c H locs (cells + 1) (slots + 6) Q (F0 m (pc + 3) ls (.ref q :: st))) : W p l e R3 s m args below meth c H locs cells slots Q (F0 m pc ls st) :=
  va_new (ci := 0) (fs := [.int 0, .int 0, .null, .null, .null, .int 0]) (C := RX0) (T := TX0) (N := 6) X.x X.b X.ts (by decide +kernel) tyX0 tyX0_ok X.ow (X.ts (.classLink RX3 27 RX0) (by decide +kernel)) (X.ts (.instantiable RX0 6) (by decide +kernel)) (X.ts (.initialized RX0) (by decide +kernel)) X.k hP hD hS hA rfl (fun j hj => by rcases (show j = 0 ∨ j = 1 ∨ j = 2 ∨ j = 3 ∨ j = 4 ∨ j = 5 by omega) with rfl | rfl | rfl | rfl | rfl | rfl <;> rfl) hc hs d0 kk
set_option maxHeartbeats 4000000 in
set_option maxRecDepth 100000 in
theorem n_callC (X : CX D ay p s m args meth c cX3_init 4 RX3 none wsX3_init) (hA : ∀ q, s.heap.size ≤ q → A q) (hl : ls.size = 4) {q : Nat} {a b : Int32} (d : decode cX3_init pc = .ok (.invokespecial 29, 3)) (hcat : (st.map fun v => v.category).sum ≤ 8) (hc : cells + 3 ≤ 107) (hs : slots + 48 ≤ 1527)
    (hP : va_P D vwCl (w ++ [(q, .inr (0, [.int 0, .int 0, .null, .null, .null, .int 0]))]) H) (hD : va_D A (w ++ [(q, .inr (0, [.int 0, .int 0, .null, .null, .null, .int 0]))])) (hS : va_S A s.heap H locs)
    (kk : ∀ (r : Nat → Nat) (H : Heap) (locs : List Loc), va_P D vwCl (w ++ [(q, .inr (0, [.int a, .int (a + b), .ref (r 0), .ref (r 1), .ref (r 2), .int 0])), (r 0, .inl (ay 0, 16, .inl z0)), (r 1, .inl (ay 0, 16, .inl z0)), (r 2, .inl (ay 0, 16, .inl z0))]) H →
      va_D A (w ++ [(q, .inr (0, [.int a, .int (a + b), .ref (r 0), .ref (r 1), .ref (r 2), .int 0])), (r 0, .inl (ay 0, 16, .inl z0)), (r 1, .inl (ay 0, 16, .inl z0)), (r 2, .inl (ay 0, 16, .inl z0))]) → va_S A s.heap H locs →
      W p l e R3 s m args below meth c H locs (cells + 3) (slots + 48) Q (F0 m (pc + 3) ls st)) : W p l e R3 s m args below meth c H locs cells slots Q (F0 m pc ls (.int b :: .int a :: .ref q :: st)) :=
  n_ctorI (As := [.int a, .int b]) (rest := st) (mc := 3) (ms := 48) (Px := fun U => s.heap.size ≤ U.heap.size ∧ va_P D vwCl (w ++ nCo q) U.heap ∧ va_D A (w ++ nCo q)) X (c_X0_init (w := w) (h0 := q) (sz := s.heap.size) hA) (cwI 2 X.ts gX3_init_X0_init rfl rfl rfl (X.ts (.initialized RX0) (by decide +kernel)) (X.ts (.methodLink RX3 29 yX0_init) (by decide +kernel)) (X.ts (.instanceMethod yX0_init) (by decide +kernel)) rfl (by decide +kernel) ⟨Nat.le_of_ble_eq_true rfl, Nat.le_of_ble_eq_true rfl⟩) (fun a U g mk h => h) (fun U hU hW => by rw [hU]; exact ⟨hS.1, hP, hD⟩) rfl hl rfl hcat d hc hs hS (fun r H locs _ hP hD hS => kk r H locs hP hD hS)
theorem sv_step {ay : Nat → ClassId} {f : Nat → Nat} {i q : Nat} {r : Nat → Nat} (hi : i < 6) : (B1 ay f i ++ ([(q, .inr (1, [.ref (r 0), .ref (r 1), .ref (r 2), .ref (r 3), .ref (r 4), .int 0, .int 0, .int 50])), (r 0, .inl (ay 1, 16, .inl z0)), (r 1, .inl (ay 0, 16, .inl z0)), (r 2, .inl (ay 0, 16, .inl z0)), (r 3, .inl (ay 0, 16, .inl z0)), (r 4, .inl (ay 0, 16, .inl z0))] : va_W)).set 1 (f 1, .inl (ay 3, 6, .inr (.inr (.inr (.inr (va_up (fun k => if k < i then some (f (12 + 6 * k)) else none) (nI i).toNatClampNeg (some q))))))) = B1 ay (nu f (12 + 6 * i) 6 q r) (i + 1) := by
  have e : ∀ x, x < 12 + 6 * i → nu f (12 + 6 * i) 6 q r x = f x := fun x hx => nu_lt hx
  have es : (va_up (fun k => if k < i then some (f (12 + 6 * k)) else none) (nI i).toNatClampNeg (some q)) = fun k => if k < i + 1 then some (nu f (12 + 6 * i) 6 q r (12 + 6 * k)) else none := by
    funext k
    unfold va_up
    rw [nI_clamp (by omega)]
    by_cases h : k = i
    · subst h; rw [if_pos rfl, if_pos (by omega), nu_0 (by omega)]
    · rw [if_neg h]
      dsimp only
      by_cases h2 : k < i
      · rw [if_pos h2, if_pos (by omega), e _ (by omega)]
      · rw [if_neg h2, if_neg (by omega)]
  rw [es]
  unfold B1 svE
  rw [e 0 (by omega), e 1 (by omega), e 6 (by omega), SW_succ ay (nu f (12 + 6 * i) 6 q r) (i + 1), SW_cong (f' := nu f (12 + 6 * i) 6 q r) (f := f) (i := i + 1) (fun x _ hx => e x (by omega)), show 6 + 6 * (i + 1) = 12 + 6 * i by omega]
  unfold stL
  rw [nu_0 (by omega), nu_s (j := 0) (by omega), nu_s (j := 1) (by omega), nu_s (j := 2) (by omega), nu_s (j := 3) (by omega), nu_s (j := 4) (by omega)]
  simp only [List.append_assoc, List.cons_append, List.nil_append, List.set_cons_succ, List.set_cons_zero]
set_option maxHeartbeats 4000000 in
set_option maxRecDepth 100000 in
theorem x3_loop1 (X : CX D ay p s m args meth c cX3_init 4 RX3 none wsX3_init) (hA : ∀ q, s.heap.size ≤ q → A q) (hN : va_Nw (.methodLinkNest RX3 11 yX1_init RX3) s) {c0 s0 : Nat} (hc : c0 + 36 ≤ 107) (hs : s0 + 528 ≤ 1527) {h0 : Nat}
    (K : ∀ (f : Nat → Nat) (H : Heap) (locs : List Loc) (ls : Array Slot), f 0 = h0 → va_P D vwCl (B1 ay f 6) H → va_D A (B1 ay f 6) → va_S A s.heap H locs → lv_has ls 4 [(0, .ref h0)] → W p l e R3 s m args below meth c H locs (c0 + 36) (s0 + 528) Q (F0 m 51 ls [])) :
    ∀ (n i : Nat) (f : Nat → Nat) (H : Heap) (locs : List Loc) (ls : Array Slot), i + n = 6 → f 0 = h0 → va_P D vwCl (B1 ay f i) H → va_D A (B1 ay f i) → va_S A s.heap H locs → lv_has ls 4 [(0, .ref h0), (1, .int (nI i))] → W p l e R3 s m args below meth c H locs (c0 + 6 * i) (s0 + 88 * i) Q (F0 m 26 ls []) := by
  intro n
  induction n with
  | zero =>
    intro i f H locs ls hi hf hP hD hS hl
    have : i = 6 := by omega
    subst this
    refine lv_iload_n X.x X.b dX3_init_26 rfl (lv_at hl 1 rfl) ?_
    refine lv_bipush (v := 6) X.x X.b dX3_init_27 (by decide) ?_
    refine lv_icmp_ge (tgt := 51) X.x X.b dX3_init_29 (by decide) (fun _ => ?_) (fun q => (q (by decide)).elim)
    exact K f H locs ls hf hP hD hS (lv_sub hl [0] rfl)
  | succ n ih =>
    intro i f H locs ls hi hf hP hD hS hl
    refine lv_iload_n X.x X.b dX3_init_26 rfl (lv_at hl 1 rfl) ?_
    refine lv_bipush (v := 6) X.x X.b dX3_init_27 (by decide) ?_
    refine lv_icmp_ge (tgt := 51) X.x X.b dX3_init_29 (by decide) (fun q => (n_le (N := 6) (k := i) rfl (by omega) (by omega) q).elim) (fun _ => ?_)
    refine lv_aload_n X.x X.b dX3_init_32 rfl (lv_at hl 0 rfl) ?_
    refine va_get (D := D) (ci := 3) (a := h0) (v := .ref (f 1)) (C := RX3) (T := TX3) (N := 8) X.x X.b X.ts (by decide +kernel) X.ow X.k hP 0 (by rw [← hf]; rfl) rfl 1 (by decide) (X.ts (.fieldLink RX3 16 "LeadTimes" "saved" "[LLeadTimes$State;") (by decide +kernel)) (fun _ h9 => h9) rfl dX3_init_33 ?_
    refine lv_iload_n X.x X.b dX3_init_36 rfl (lv_at hl 1 rfl) ?_
    refine n_state X hA hN hl.1 dX3_init_37 dX3_init_40 dX3_init_41 (show 1 + (1 + 0) ≤ 7 by omega) (by omega) (by omega) hP hD hS (fun q r H locs hP hD hS => ?_)
    have hlen : (B1 ay f i).length = 8 + 6 * i := by
      unfold B1
      rw [List.length_append, (SW_get ay f (i + 1)).1]; show 2 + _ = _; omega
    refine va_astq (r := (RX1, TX1, 8)) X.x X.b X.k hP hD hS 1 3 (8 + 6 * i) 1 (by rw [List.getElem?_append_left (by rw [hlen]; omega)]; rfl) rfl (by rw [List.getElem?_append_right (by rw [hlen]; omega), hlen, Nat.sub_self]; rfl) rfl (nI_in (by omega) (by omega)) dX3_init_44 (fun H locs hP hD hS => ?_)
    have hP : va_P D vwCl (B1 ay (nu f (12 + 6 * i) 6 q r) (i + 1)) H := by rw [← sv_step (by omega)]; exact hP
    have hD : va_D A (B1 ay (nu f (12 + 6 * i) 6 q r) (i + 1)) := by rw [← sv_step (by omega)]; exact hD
    refine lv_iinc (v := nI (i + 1)) (lv' := [(1, _), (0, _)]) X.x X.b dX3_init_45 hl (k := 1) rfl (by rw [show Int32.ofInt 1 = nI 1 from rfl, nI_add]) (by decide) rfl (fun ls hl => ?_)
    refine lv_goto (tgt := 26) X.x X.b dX3_init_48 (by decide) ?_
    exact W.widen (by omega) (by omega) (ih (i + 1) (nu f (12 + 6 * i) 6 q r) H locs ls (by omega) (by rw [nu_lt (by omega)]; exact hf) hP hD hS (lv_sub hl [1, 0] rfl))
theorem cs_step {ay : Nat → ClassId} {f : Nat → Nat} {j q : Nat} {r : Nat → Nat} {a b : Int32} (hj : 1 ≤ j) (hq : cfw j = (a, b)) (h15 : j < 15) : (B2 ay f j ++ ([(q, .inr (0, [.int a, .int (a + b), .ref (r 0), .ref (r 1), .ref (r 2), .int 0])), (r 0, .inl (ay 0, 16, .inl z0)), (r 1, .inl (ay 0, 16, .inl z0)), (r 2, .inl (ay 0, 16, .inl z0))] : va_W)).set 2 (f 2, .inl (ay 4, 16, .inr (.inr (.inr (.inr (va_up (fun k => if 1 ≤ k ∧ k < j + 1 then some (f (44 + 4 * k)) else none) (nI (j + 1)).toNatClampNeg (some q))))))) = B2 ay (nu f (48 + 4 * j) 4 q r) (j + 1) := by
  have e : ∀ x, x < 48 + 4 * j → nu f (48 + 4 * j) 4 q r x = f x := fun x hx => nu_lt hx
  have es : (va_up (fun k => if 1 ≤ k ∧ k < j + 1 then some (f (44 + 4 * k)) else none) (nI (j + 1)).toNatClampNeg (some q)) = fun k => if 1 ≤ k ∧ k < j + 1 + 1 then some (nu f (48 + 4 * j) 4 q r (44 + 4 * k)) else none := by
    funext k
    unfold va_up
    rw [nI_clamp (by omega)]
    by_cases h : k = j + 1
    · subst h; rw [if_pos rfl, if_pos (by omega), show 44 + 4 * (j + 1) = 48 + 4 * j by omega, nu_0 (by omega)]
    · rw [if_neg h]
      dsimp only
      by_cases h2 : 1 ≤ k ∧ k < j + 1
      · rw [if_pos h2, if_pos (by omega), e _ (by omega)]
      · rw [if_neg h2, if_neg (by omega)]
  have es2 : svE ay (nu f (48 + 4 * j) 4 q r) 6 = svE ay f 6 := by
    unfold svE
    congr 7
    funext k
    by_cases h : k < 6
    · rw [if_pos h, if_pos h, e _ (by omega)]
    · rw [if_neg h, if_neg h]
  rw [es]
  unfold B2
  rw [es2]
  unfold csE
  rw [e 0 (by omega), e 1 (by omega), e 2 (by omega), e 6 (by omega), e 48 (by omega), CW_succ ay (nu f (48 + 4 * j) 4 q r) j, SW_cong (f' := nu f (48 + 4 * j) 4 q r) (f := f) (i := 7) (fun x _ hx => e x (by omega)), CW_cong (f' := nu f (48 + 4 * j) 4 q r) (f := f) (i := j) (fun x _ hx => e x (by omega)), hq]
  unfold coL
  rw [nu_0 (by omega), nu_s (j := 0) (by omega), nu_s (j := 1) (by omega), nu_s (j := 2) (by omega)]
  simp only [List.append_assoc, List.cons_append, List.nil_append, List.set_cons_succ, List.set_cons_zero]
set_option maxHeartbeats 4000000 in
set_option maxRecDepth 100000 in
theorem x3_loop2 (X : CX D ay p s m args meth c cX3_init 4 RX3 none wsX3_init) (hA : ∀ q, s.heap.size ≤ q → A q) {c0 s0 : Nat} (hc : c0 + 60 ≤ 107) (hs : s0 + 810 ≤ 1527) {h0 : Nat}
    (K : ∀ (f : Nat → Nat) (H : Heap) (locs : List Loc) (ls : Array Slot), f 0 = h0 → va_P D vwCl (B2 ay f 15) H → va_D A (B2 ay f 15) → va_S A s.heap H locs → lv_has ls 4 [(0, .ref h0)] → W p l e R3 s m args below meth c H locs (c0 + 60) (s0 + 810) Q (F0 m 144 ls [])) :
    ∀ (n j : Nat) (f : Nat → Nat) (H : Heap) (locs : List Loc) (ls : Array Slot), j + n = 15 → 1 ≤ j → f 0 = h0 → va_P D vwCl (B2 ay f j) H → va_D A (B2 ay f j) → va_S A s.heap H locs → lv_has ls 4 [(0, .ref h0), (1, .int (cfw j).1), (2, .int (cfw j).2), (3, .int (nI (j + 1)))] → W p l e R3 s m args below meth c H locs (c0 + 4 * j) (s0 + 54 * j) Q (F0 m 101 ls []) := by
  intro n
  induction n with
  | zero =>
    intro j f H locs ls hj h1 hf hP hD hS hl
    have : j = 15 := by omega
    subst this
    refine lv_iload_n X.x X.b dX3_init_101 rfl (lv_at hl 3 rfl) ?_
    refine lv_bipush (v := 15) X.x X.b dX3_init_102 (by decide) ?_
    refine lv_icmp_gt (tgt := 144) X.x X.b dX3_init_104 (by decide) (fun _ => ?_) (fun q => (q (by decide)).elim)
    exact K f H locs ls hf hP hD hS (lv_sub hl [0] rfl)
  | succ n ih =>
    intro j f H locs ls hj h1 hf hP hD hS hl
    refine lv_iload_n X.x X.b dX3_init_101 rfl (lv_at hl 3 rfl) ?_
    refine lv_bipush (v := 15) X.x X.b dX3_init_102 (by decide) ?_
    refine lv_icmp_gt (tgt := 144) X.x X.b dX3_init_104 (by decide) (fun q => (n_lt (N := 15) (k := j + 1) rfl (by omega) (by omega) q).elim) (fun _ => ?_)
    refine lv_aload_n X.x X.b dX3_init_107 rfl (lv_at hl 0 rfl) ?_
    refine va_get (D := D) (ci := 3) (a := h0) (v := .ref (f 2)) (C := RX3) (T := TX3) (N := 8) X.x X.b X.ts (by decide +kernel) X.ow X.k hP 0 (by rw [← hf]; rfl) rfl 5 (by decide) (X.ts (.fieldLink RX3 36 "LeadTimes" "courses" "[LLeadTimes$Course;") (by decide +kernel)) (fun _ h9 => h9) rfl dX3_init_108 ?_
    refine lv_iload_n X.x X.b dX3_init_111 rfl (lv_at hl 3 rfl) ?_
    refine n_newC X hA dX3_init_112 (by omega) (by omega) hP hD hS (fun q H hP hD hS => ?_)
    refine lv_dup X.x X.b dX3_init_115 rfl ?_
    refine lv_iload_n X.x X.b dX3_init_116 rfl (lv_at hl 1 rfl) ?_
    refine lv_iload_n X.x X.b dX3_init_117 rfl (lv_at hl 2 rfl) ?_
    refine n_callC X hA hl.1 dX3_init_118 (show 1 + (1 + (1 + 0)) ≤ 8 by omega) (by omega) (by omega) hP hD hS (fun r H locs hP hD hS => ?_)
    have hlen : (B2 ay f j).length = 45 + 4 * j := by
      unfold B2
      rw [List.length_append, List.length_append, (SW_get ay f 7).1, (CW_get ay f j).1]; show 3 + _ = _; omega
    refine va_astq (r := (RX0, TX0, 6)) X.x X.b X.k hP hD hS 2 4 (45 + 4 * j) 0 (by rw [List.getElem?_append_left (by rw [hlen]; omega)]; rfl) rfl (by rw [List.getElem?_append_right (by rw [hlen]; omega), hlen, Nat.sub_self]; rfl) rfl (nI_in (by omega) (by omega)) dX3_init_121 (fun H locs hP hD hS => ?_)
    have hP : va_P D vwCl (B2 ay (nu f (48 + 4 * j) 4 q r) (j + 1)) H := by rw [← cs_step (a := (cfw j).1) (b := (cfw j).2) h1 rfl (by omega)]; exact hP
    have hD : va_D A (B2 ay (nu f (48 + 4 * j) 4 q r) (j + 1)) := by rw [← cs_step (a := (cfw j).1) (b := (cfw j).2) h1 rfl (by omega)]; exact hD
    obtain ⟨i, rfl⟩ : ∃ i, j = i + 1 := ⟨j - 1, by omega⟩
    have hl : lv_has ls 4 [(0, .ref h0), (1, .int (cwd i).1), (2, .int (cwd i).2), (3, .int (nI (i + 1 + 1)))] := hl
    refine lv_iload_n X.x X.b dX3_init_122 rfl (lv_at hl 1 rfl) ?_
    refine lv_iload_n X.x X.b dX3_init_123 rfl (lv_at hl 2 rfl) ?_
    refine lv_iadd X.x X.b dX3_init_124 ?_
    refine lv_istore_n (lv' := [(1, _), (0, _), (2, _), (3, _)]) X.x X.b dX3_init_125 rfl hl (by decide) rfl (fun ls hl => ?_)
    refine lv_iload_n X.x X.b dX3_init_126 rfl (lv_at hl 0 rfl) ?_
    refine lv_bipush (v := 16) X.x X.b dX3_init_127 (by decide) ?_
    refine lv_icmp_lt (tgt := 138) X.x X.b dX3_init_129 (by decide) (fun q1 => ?_) (fun q1 => ?_)
    · have ec : cfw (i + 1 + 1) = ((cwd i).1 + (cwd i).2, (cwd i).2) := if_neg (by rw [Int32.le_iff_toInt_le]; rw [Int32.lt_iff_toInt_lt] at q1; omega)
      refine lv_iinc (v := nI (i + 1 + 1 + 1)) (lv' := [(3, _), (1, _), (0, _), (2, _)]) X.x X.b dX3_init_138 hl (k := 3) rfl (by rw [show Int32.ofInt 1 = nI 1 from rfl, nI_add]) (by decide) rfl (fun ls hl => ?_)
      refine lv_goto (tgt := 101) X.x X.b dX3_init_141 (by decide) ?_
      refine W.widen (by omega) (by omega) (ih (i + 1 + 1) (nu f (48 + 4 * (i + 1)) 4 q r) H locs ls (by omega) (by omega) (by rw [nu_lt (by omega)]; exact hf) hP hD hS ?_)
      rw [ec]
      exact lv_sub hl [2, 1, 3, 0] rfl
    · have ec : cfw (i + 1 + 1) = (0, (cwd i).2 / 2) := if_pos (by rw [Int32.le_iff_toInt_le]; rw [Int32.lt_iff_toInt_lt] at q1; omega)
      refine lv_iconst (v := 0) X.x X.b dX3_init_132 (by decide) ?_
      refine lv_istore_n (lv' := [(1, _), (0, _), (2, _), (3, _)]) X.x X.b dX3_init_133 rfl hl (by decide) rfl (fun ls hl => ?_)
      refine lv_iload_n X.x X.b dX3_init_134 rfl (lv_at hl 2 rfl) ?_
      refine lv_iconst (v := 2) X.x X.b dX3_init_135 (by decide) ?_
      refine lv_idiv X.x X.b dX3_init_136 (by decide) ?_
      refine lv_istore_n (lv' := [(2, _), (1, _), (0, _), (3, _)]) X.x X.b dX3_init_137 rfl hl (by decide) rfl (fun ls hl => ?_)
      refine lv_iinc (v := nI (i + 1 + 1 + 1)) (lv' := [(3, _), (2, _), (1, _), (0, _)]) X.x X.b dX3_init_138 hl (k := 3) rfl (by rw [show Int32.ofInt 1 = nI 1 from rfl, nI_add]) (by decide) rfl (fun ls hl => ?_)
      refine lv_goto (tgt := 101) X.x X.b dX3_init_141 (by decide) ?_
      refine W.widen (by omega) (by omega) (ih (i + 1 + 1) (nu f (48 + 4 * (i + 1)) 4 q r) H locs ls (by omega) (by omega) (by rw [nu_lt (by omega)]; exact hf) hP hD hS ?_)
      rw [ec]
      exact lv_sub hl [3, 2, 1, 0] rfl
end C3
