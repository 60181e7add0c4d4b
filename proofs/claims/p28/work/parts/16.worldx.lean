/-! the law's world: the class's 108 cells, then c, m (ints), f, g (longs) -/
abbrev MemL : Type := Nat → Nat → Int64
abbrev LM : Type := Mem × (Mem × MemL)
def upL (μ : MemL) (x k : Nat) (v : Int64) : MemL := fun a b => if a = x ∧ b = k then v else μ a b
def wA (ay : Nat → ClassId) (ad : Nat → Nat) (ρ : Mem × MemL) : va_W := [(ad 108, .inl (ay 0, 19, .inl (ρ.1 0))), (ad 109, .inl (ay 0, 64, .inl (ρ.1 1))), (ad 110, .inl (ay 5, 64, .inr (.inl (ρ.2 0)))), (ad 111, .inl (ay 5, 4, .inr (.inl (ρ.2 1))))]
def wX (ay : Nat → ClassId) (ad : Nat → Nat) (τ : LM) : va_W := wC ay ad τ.1 ++ wA ay ad τ.2
def AX (ad : Nat → Nat) : Nat → Prop := fun q => ∃ x, x < 112 ∧ q = ad x
def axOK (ad : Nat → Nat) : Prop := ∀ i j, i < 112 → j < 112 → ad i = ad j → i = j
theorem axOK.c {ad : Nat → Nat} (h : axOK ad) : adOK ad := fun i j hi hj e => h i j (by omega) (by omega) e
theorem AC_AX {ad : Nat → Nat} {q : Nat} (h : AC ad q) : AX ad q := by obtain ⟨x, hx, e⟩ := h; exact ⟨x, by omega, e⟩
theorem P_left {D : va_G} {cl : List vw_C} {a b : va_W} {H : Heap} (h : va_P D cl (a ++ b) H) : va_P D cl a H := fun k q hk => h k q (by rw [List.getElem?_append_left (List.getElem?_eq_some_iff.mp hk).1]; exact hk)
theorem P_right {D : va_G} {cl : List vw_C} {a b : va_W} {H : Heap} (h : va_P D cl (a ++ b) H) : va_P D cl b H := fun k q hk => h (a.length + k) q (by rw [List.getElem?_append_right (by omega), Nat.add_sub_cancel_left]; exact hk)
section WXl
variable {ay : Nat → ClassId} {ad : Nat → Nat} {τ : LM} {σ : Mem}
theorem wC_len : (wC ay ad σ).length = 108 := by simp [wC]
theorem wX_lo {x : Nat} (h : x < 108) : (wX ay ad τ)[x]? = (wC ay ad τ.1)[x]? := List.getElem?_append_left (by rw [wC_len]; exact h)
theorem wX_hi (x : Nat) : (wX ay ad τ)[108 + x]? = (wA ay ad τ.2)[x]? := by
  unfold wX
  rw [List.getElem?_append_right (by rw [wC_len]; omega), wC_len, Nat.add_sub_cancel_left]
theorem xo_obj : (wX ay ad τ)[0]? = some (ad 0, .inr (3, [.ref (ad 6), .ref (ad 1), .int (τ.1 0 2), .int (τ.1 0 3), .ref (ad 48), .ref (ad 2), .ref (ad 3), .ref (ad 4)])) := (wX_lo (by omega)).trans lt_obj
theorem xa_c : (wX ay ad τ)[108]? = some (ad 108, .inl (ay 0, 19, .inl (τ.2.1 0))) := wX_hi 0
theorem xa_m : (wX ay ad τ)[109]? = some (ad 109, .inl (ay 0, 64, .inl (τ.2.1 1))) := wX_hi 1
theorem xa_f : (wX ay ad τ)[110]? = some (ad 110, .inl (ay 5, 64, .inr (.inl (τ.2.2 0)))) := wX_hi 2
theorem xa_g : (wX ay ad τ)[111]? = some (ad 111, .inl (ay 5, 4, .inr (.inl (τ.2.2 1)))) := wX_hi 3
theorem up2_row (μ : Mem) (x k : Nat) (v : Int32) : (up2 μ x k v) x = upd (μ x) k v := up2_eq μ
theorem upL_row (μ : MemL) (x k : Nat) (v : Int64) : (upL μ x k v) x = vp_updL (μ x) k v := by
  funext b; simp [upL, vp_updL]
theorem upL_ne (μ : MemL) {x y k : Nat} {v : Int64} (h : y ≠ x) : (upL μ x k v) y = μ y := by
  funext b; simp [upL, h]
theorem wX_set (k : Nat) (e : Nat × va_E) (ρ' : Mem × MemL) (h : (wA ay ad τ.2).set k e = wA ay ad ρ') : (wX ay ad τ).set (108 + k) e = wX ay ad (τ.1, ρ') := by
  unfold wX
  rw [List.set_append_right _ _ (by rw [wC_len]; omega), wC_len, Nat.add_sub_cancel_left, h]
theorem set_xc {k : Nat} {v : Int32} : (wX ay ad τ).set 108 (ad 108, .inl (ay 0, 19, .inl (upd (τ.2.1 0) k v))) = wX ay ad (τ.1, (up2 τ.2.1 0 k v, τ.2.2)) := wX_set 0 _ _ (by
  unfold wA; dsimp only; rw [up2_row, up2_ne _ (by omega : (1 : Nat) ≠ 0)]; rfl)
theorem set_xm {k : Nat} {v : Int32} : (wX ay ad τ).set 109 (ad 109, .inl (ay 0, 64, .inl (upd (τ.2.1 1) k v))) = wX ay ad (τ.1, (up2 τ.2.1 1 k v, τ.2.2)) := wX_set 1 _ _ (by
  unfold wA; dsimp only; rw [up2_row, up2_ne _ (by omega : (0 : Nat) ≠ 1)]; rfl)
theorem set_xf {k : Nat} {v : Int64} : (wX ay ad τ).set 110 (ad 110, .inl (ay 5, 64, .inr (.inl (vp_updL (τ.2.2 0) k v)))) = wX ay ad (τ.1, (τ.2.1, upL τ.2.2 0 k v)) := wX_set 2 _ _ (by
  unfold wA; dsimp only; rw [upL_row, upL_ne _ (by omega : (1 : Nat) ≠ 0)]; rfl)
theorem set_xg {k : Nat} {v : Int64} : (wX ay ad τ).set 111 (ad 111, .inl (ay 5, 4, .inr (.inl (vp_updL (τ.2.2 1) k v)))) = wX ay ad (τ.1, (τ.2.1, upL τ.2.2 1 k v)) := wX_set 3 _ _ (by
  unfold wA; dsimp only; rw [upL_row, upL_ne _ (by omega : (0 : Nat) ≠ 1)]; rfl)
theorem wX_at {k : Nat} {q : Nat × va_E} (h : (wX ay ad τ)[k]? = some q) : k < 112 ∧ q.1 = ad k := by
  have hk : k < 112 := by
    have := (List.getElem?_eq_some_iff.mp h).1
    simpa [wX, wC, wA] using this
  refine ⟨hk, ?_⟩
  by_cases h1 : k < 108
  · rw [wX_lo h1, wC_get h1] at h
    cases h; rfl
  · obtain ⟨j, rfl⟩ : ∃ j, k = 108 + j := ⟨k - 108, by omega⟩
    rw [wX_hi] at h
    match j, h with
    | 0, h => cases h; rfl
    | 1, h => cases h; rfl
    | 2, h => cases h; rfl
    | 3, h => cases h; rfl
    | j + 4, h => omega
theorem wX_D (h : axOK ad) (τ : LM) : va_D (AX ad) (wX ay ad τ) := by
  refine ⟨fun i j p q hi hj e => ?_, fun k q hq => ⟨k, (wX_at hq).1, (wX_at hq).2⟩⟩
  obtain ⟨a1, a2⟩ := wX_at hi
  obtain ⟨b1, b2⟩ := wX_at hj
  exact h i j a1 b1 (by rw [← a2, ← b2]; exact e)
theorem wA_out (σ : Mem) (h : axOK ad) {ρ : Mem × MemL} {k : Nat} {q : Nat × va_E} (hq : (wA ay ad ρ)[k]? = some q) : ¬ AC ad q.1 := by
  have h1 : (wX ay ad (σ, ρ))[108 + k]? = some q := (wX_hi k).trans hq
  obtain ⟨a1, a2⟩ := wX_at h1
  rintro ⟨x, hx, e⟩
  have := h (108 + k) x a1 (by omega) (a2.symm.trans e)
  omega
end WXl
section GX
variable {D : va_G} {ay : Nat → ClassId} {ad : Nat → Nat} {p : Program} {l : Launch} {e : Env} {R : Room} {s : State} {m : MethodId} {args : Array Value} {below : List Frame} {meth : Method} {c : Code} {Q : State → Prop} {σ : Mem} {ρ : Mem × MemL}
variable {cc : ByteArray} {nL : Nat} {own : String} {rt : Option FieldType} {Ts : List Cond} {pc : Nat} {ls : Array Slot}
variable {y : MethodName} {bytes : ByteArray} {maxL index n : Nat} {rt9 : Option FieldType} {ws : List Cond} {rm : Room} {As rest st0 : List Value}
/-- a call of the class out of the law's world -/
theorem x_callV (X : CX D ay p s m args meth c cc nL own rt Ts) (hI : axOK ad) {post : Int32 → Mem → Prop} (hM : Met l y ws rm (va_Pc (.ref (ad 0) :: As) (PP D ay (wC ay ad σ))) (va_Qi post (fun τ => PP D ay (wC ay ad τ)) (AC ad)) 0 0 (AC ad)) (cw : CallW R s args own RX3 index y bytes maxL rt9 ws rm 0 0 n) (hn : As.length = n) (hl : ls.size = nL) (hst : st0 = As.reverse ++ .ref (ad 0) :: rest) (hcat : (rest.map fun v => v.category).sum ≤ 8) (d : decode cc pc = .ok (.invokevirtual index, 3)) (kk : ∀ (r : Int32) (τ : Mem), post r τ → GW D (wX ay ad) (AX ad) p l e R s m args below meth c Q (τ, ρ) (F0 m (pc + 3) ls (.int r :: rest))) : GW D (wX ay ad) (AX ad) p l e R s m args below meth c Q (σ, ρ) (F0 m pc ls st0) := by
  intro H locs hP hS
  subst hst
  have hPl : va_P D vwCl (wC ay ad σ) H := P_left hP
  have hPr : va_P D vwCl (wA ay ad ρ) H := P_right hP
  refine va_calli (va_runV (As := As) (rest := rest) X.fix hM cw ⟨PP_blind, va_recv (q := (RX3, TX3, 8)) X.k hPl rfl lt_obj, fun U hU hW => ⟨rfl, by rw [hU]; exact hPl, KK.warm hW X.kk⟩⟩ rfl hn hl rfl (lv_room hcat) d ⟨Nat.zero_le _, Nat.zero_le _⟩) hS (fun q _ h => AC_AX h) (fun q h => AC_AX h) (fun r u t H1 locs1 ht hvm hw hB hz hk hS1 => ?_)
  have hP1 := hB.1
  rw [ht] at hP1
  refine kk r u hw H1 locs1 (show va_P D vwCl (wC ay ad u ++ wA ay ad ρ) H1 from hP1.app (hPr.kept (fun k q hq => hk q.1 ((hPr k q hq).lt) (wA_out σ hI hq)))) hS1
theorem kx_Vi (X : CX D ay p s m args meth c cc nL own rt Ts) (hI : axOK ad) {res : Int32} (hM : Met l y ws rm (va_Pc (.ref (ad 0) :: As) (PP D ay (wC ay ad σ))) (va_Qi (pP res σ) (fun τ => PP D ay (wC ay ad τ)) (AC ad)) 0 0 (AC ad)) (cw : CallW R s args own RX3 index y bytes maxL rt9 ws rm 0 0 n) (hn : As.length = n) (hl : ls.size = nL) (hst : st0 = As.reverse ++ .ref (ad 0) :: rest) (hcat : (rest.map fun v => v.category).sum ≤ 8) (d : decode cc pc = .ok (.invokevirtual index, 3)) (kk : GW D (wX ay ad) (AX ad) p l e R s m args below meth c Q (σ, ρ) (F0 m (pc + 3) ls (.int res :: rest))) : GW D (wX ay ad) (AX ad) p l e R s m args below meth c Q (σ, ρ) (F0 m pc ls st0) :=
  x_callV X hI hM cw hn hl hst hcat d (fun r τ hp => by rw [hp.1, hp.2]; exact kk)
theorem kx_Vie (X : CX D ay p s m args meth c cc nL own rt Ts) (hI : axOK ad) {res : Int32 × Mem} (hM : Met l y ws rm (va_Pc (.ref (ad 0) :: As) (PP D ay (wC ay ad σ))) (va_Qi (pE res) (fun τ => PP D ay (wC ay ad τ)) (AC ad)) 0 0 (AC ad)) (cw : CallW R s args own RX3 index y bytes maxL rt9 ws rm 0 0 n) (hn : As.length = n) (hl : ls.size = nL) (hst : st0 = As.reverse ++ .ref (ad 0) :: rest) (hcat : (rest.map fun v => v.category).sum ≤ 8) (d : decode cc pc = .ok (.invokevirtual index, 3)) (kk : GW D (wX ay ad) (AX ad) p l e R s m args below meth c Q (res.2, ρ) (F0 m (pc + 3) ls (.int res.1 :: rest))) : GW D (wX ay ad) (AX ad) p l e R s m args below meth c Q (σ, ρ) (F0 m pc ls st0) :=
  x_callV X hI hM cw hn hl hst hcat d (fun r τ hp => by have e : (r, τ) = res := hp; subst e; exact kk)
end GX
