/-! the reference's world: 9 cells, out of its int memory and its one long -/
def kM (ay : Nat → ClassId) (ad : Nat → Nat) (τ : Mem × Int64) (x : Nat) : va_E := match x with
  | 0 => .inr (4, [.ref (ad 1), .ref (ad 2), .int (τ.1 0 2), .ref (ad 3), .int (τ.1 0 4), .int (τ.1 0 5), .int (τ.1 0 6), .int (τ.1 0 7), .int (τ.1 0 8), .ref (ad 4), .int (τ.1 0 10), .int (τ.1 0 11), .int (τ.1 0 12), .int (τ.1 0 13), .int (τ.1 0 14), .int (τ.1 0 15), .ref (ad 5), .ref (ad 6), .ref (ad 7), .ref (ad 8), .int (τ.1 0 20), .long τ.2])
  | 1 => .inl (ay 0, 84, .inl (τ.1 1))
  | 2 => .inl (ay 0, 504, .inl (τ.1 2))
  | 3 => .inl (ay 0, 60, .inl (τ.1 3))
  | 4 => .inl (ay 0, 16, .inl (τ.1 4))
  | 5 => .inl (ay 0, 44, .inl (τ.1 5))
  | 6 => .inl (ay 0, 16, .inl (τ.1 6))
  | 7 => .inl (ay 0, 16, .inl (τ.1 7))
  | _ => .inl (ay 0, 16, .inl (τ.1 8))
def wM (ay : Nat → ClassId) (ad : Nat → Nat) (τ : Mem × Int64) : va_W := (List.range 9).map (fun x => (ad x, kM ay ad τ x))
def AM (ad : Nat → Nat) : Nat → Prop := fun q => ∃ x, x < 9 ∧ q = ad x
def amOK (ad : Nat → Nat) : Prop := ∀ i j, i < 9 → j < 9 → ad i = ad j → i = j
section WMl
variable {ay : Nat → ClassId} {ad : Nat → Nat} {τ : Mem × Int64}
theorem wM_get {x : Nat} (h : x < 9) : (wM ay ad τ)[x]? = some (ad x, kM ay ad τ x) := wl_get 9 (fun x => (ad x, kM ay ad τ x)) h
theorem mo_obj : (wM ay ad τ)[0]? = some (ad 0, .inr (4, [.ref (ad 1), .ref (ad 2), .int (τ.1 0 2), .ref (ad 3), .int (τ.1 0 4), .int (τ.1 0 5), .int (τ.1 0 6), .int (τ.1 0 7), .int (τ.1 0 8), .ref (ad 4), .int (τ.1 0 10), .int (τ.1 0 11), .int (τ.1 0 12), .int (τ.1 0 13), .int (τ.1 0 14), .int (τ.1 0 15), .ref (ad 5), .ref (ad 6), .ref (ad 7), .ref (ad 8), .int (τ.1 0 20), .long τ.2])) := wM_get (by omega)
theorem mo_arr1 : (wM ay ad τ)[1]? = some (ad 1, .inl (ay 0, 84, .inl (τ.1 1))) := wM_get (by omega)
theorem mo_arr2 : (wM ay ad τ)[2]? = some (ad 2, .inl (ay 0, 504, .inl (τ.1 2))) := wM_get (by omega)
theorem mo_arr3 : (wM ay ad τ)[3]? = some (ad 3, .inl (ay 0, 60, .inl (τ.1 3))) := wM_get (by omega)
theorem mo_arr4 : (wM ay ad τ)[4]? = some (ad 4, .inl (ay 0, 16, .inl (τ.1 4))) := wM_get (by omega)
theorem mo_arr5 : (wM ay ad τ)[5]? = some (ad 5, .inl (ay 0, 44, .inl (τ.1 5))) := wM_get (by omega)
theorem mo_arr6 : (wM ay ad τ)[6]? = some (ad 6, .inl (ay 0, 16, .inl (τ.1 6))) := wM_get (by omega)
theorem mo_arr7 : (wM ay ad τ)[7]? = some (ad 7, .inl (ay 0, 16, .inl (τ.1 7))) := wM_get (by omega)
theorem mo_arr8 : (wM ay ad τ)[8]? = some (ad 8, .inl (ay 0, 16, .inl (τ.1 8))) := wM_get (by omega)
theorem kM_cong {τ' : Mem × Int64} {y : Nat} (hy : y < 9) (h : τ'.1 y = τ.1 y) (h0 : y ≠ 0) : kM ay ad τ' y = kM ay ad τ y := by
  match y, hy, h0 with
  | 1, _, _ => simp only [kM, h]
  | 2, _, _ => simp only [kM, h]
  | 3, _, _ => simp only [kM, h]
  | 4, _, _ => simp only [kM, h]
  | 5, _, _ => simp only [kM, h]
  | 6, _, _ => simp only [kM, h]
  | 7, _, _ => simp only [kM, h]
  | 8, _, _ => simp only [kM, h]
theorem kM_cong0 {τ' : Mem × Int64} (h : τ'.1 0 = τ.1 0) (h2 : τ'.2 = τ.2) : kM ay ad τ' 0 = kM ay ad τ 0 := by
  simp only [kM, h, h2]
theorem wM_set {x k : Nat} {v : Int32} (h : x < 9) (e : va_E) (he : kM ay ad (up2 τ.1 x k v, τ.2) x = e) : (wM ay ad τ).set x (ad x, e) = wM ay ad (up2 τ.1 x k v, τ.2) :=
  wl_set 9 _ _ h _ (by rw [he]) (fun y hy9 hy => by
    by_cases h0 : y = 0
    · subst h0; rw [kM_cong0 (τ' := (up2 τ.1 x k v, τ.2)) (up2_ne τ.1 hy) rfl]
    · rw [kM_cong (τ' := (up2 τ.1 x k v, τ.2)) hy9 (up2_ne τ.1 hy) h0])
theorem set_arrM {x k : Nat} {v : Int32} {a n : Nat} (h : ∀ τ : Mem × Int64, (wM ay ad τ)[x]? = some (ad x, .inl (ay a, n, .inl (τ.1 x)))) : (wM ay ad τ).set x (ad x, .inl (ay a, n, .inl (upd (τ.1 x) k v))) = wM ay ad (up2 τ.1 x k v, τ.2) := by
  have hx : x < 9 := by
    have := (List.getElem?_eq_some_iff.mp (h τ)).1
    simpa [wM] using this
  refine wM_set hx _ ?_
  have h1 := h (up2 τ.1 x k v, τ.2)
  rw [wM_get hx] at h1
  have h2 := (Prod.mk.inj (Option.some.inj h1)).2
  rw [h2]
  show Sum.inl (ay a, n, Sum.inl ((up2 τ.1 x k v) x)) = _
  rw [up2_eq]
theorem wM_D (h : amOK ad) (τ : Mem × Int64) : va_D (AM ad) (wM ay ad τ) := by
  have key : ∀ (k : Nat) (q : Nat × va_E), (wM ay ad τ)[k]? = some q → k < 9 ∧ q.1 = ad k := by
    intro k q hq
    have hk : k < 9 := by
      have := (List.getElem?_eq_some_iff.mp hq).1
      simpa [wM] using this
    rw [wM_get hk] at hq
    cases hq
    exact ⟨hk, rfl⟩
  refine ⟨fun i j p q hi hj e => ?_, fun k q hq => ⟨k, (key k q hq).1, (key k q hq).2⟩⟩
  obtain ⟨a1, a2⟩ := key i p hi
  obtain ⟨b1, b2⟩ := key j q hj
  exact h i j a1 b1 (by rw [← a2, ← b2]; exact e)
theorem set_mo2 {v : Int32} : (wM ay ad τ).set 0 (ad 0, .inr (4, ([.ref (ad 1), .ref (ad 2), .int (τ.1 0 2), .ref (ad 3), .int (τ.1 0 4), .int (τ.1 0 5), .int (τ.1 0 6), .int (τ.1 0 7), .int (τ.1 0 8), .ref (ad 4), .int (τ.1 0 10), .int (τ.1 0 11), .int (τ.1 0 12), .int (τ.1 0 13), .int (τ.1 0 14), .int (τ.1 0 15), .ref (ad 5), .ref (ad 6), .ref (ad 7), .ref (ad 8), .int (τ.1 0 20), .long τ.2] : List Value).set 2 (.int v))) = wM ay ad (up2 τ.1 0 2 v, τ.2) := wM_set (by omega) _ (by simp [kM, up2])
theorem set_mo4 {v : Int32} : (wM ay ad τ).set 0 (ad 0, .inr (4, ([.ref (ad 1), .ref (ad 2), .int (τ.1 0 2), .ref (ad 3), .int (τ.1 0 4), .int (τ.1 0 5), .int (τ.1 0 6), .int (τ.1 0 7), .int (τ.1 0 8), .ref (ad 4), .int (τ.1 0 10), .int (τ.1 0 11), .int (τ.1 0 12), .int (τ.1 0 13), .int (τ.1 0 14), .int (τ.1 0 15), .ref (ad 5), .ref (ad 6), .ref (ad 7), .ref (ad 8), .int (τ.1 0 20), .long τ.2] : List Value).set 4 (.int v))) = wM ay ad (up2 τ.1 0 4 v, τ.2) := wM_set (by omega) _ (by simp [kM, up2])
theorem set_mo5 {v : Int32} : (wM ay ad τ).set 0 (ad 0, .inr (4, ([.ref (ad 1), .ref (ad 2), .int (τ.1 0 2), .ref (ad 3), .int (τ.1 0 4), .int (τ.1 0 5), .int (τ.1 0 6), .int (τ.1 0 7), .int (τ.1 0 8), .ref (ad 4), .int (τ.1 0 10), .int (τ.1 0 11), .int (τ.1 0 12), .int (τ.1 0 13), .int (τ.1 0 14), .int (τ.1 0 15), .ref (ad 5), .ref (ad 6), .ref (ad 7), .ref (ad 8), .int (τ.1 0 20), .long τ.2] : List Value).set 5 (.int v))) = wM ay ad (up2 τ.1 0 5 v, τ.2) := wM_set (by omega) _ (by simp [kM, up2])
theorem set_mo6 {v : Int32} : (wM ay ad τ).set 0 (ad 0, .inr (4, ([.ref (ad 1), .ref (ad 2), .int (τ.1 0 2), .ref (ad 3), .int (τ.1 0 4), .int (τ.1 0 5), .int (τ.1 0 6), .int (τ.1 0 7), .int (τ.1 0 8), .ref (ad 4), .int (τ.1 0 10), .int (τ.1 0 11), .int (τ.1 0 12), .int (τ.1 0 13), .int (τ.1 0 14), .int (τ.1 0 15), .ref (ad 5), .ref (ad 6), .ref (ad 7), .ref (ad 8), .int (τ.1 0 20), .long τ.2] : List Value).set 6 (.int v))) = wM ay ad (up2 τ.1 0 6 v, τ.2) := wM_set (by omega) _ (by simp [kM, up2])
theorem set_mo7 {v : Int32} : (wM ay ad τ).set 0 (ad 0, .inr (4, ([.ref (ad 1), .ref (ad 2), .int (τ.1 0 2), .ref (ad 3), .int (τ.1 0 4), .int (τ.1 0 5), .int (τ.1 0 6), .int (τ.1 0 7), .int (τ.1 0 8), .ref (ad 4), .int (τ.1 0 10), .int (τ.1 0 11), .int (τ.1 0 12), .int (τ.1 0 13), .int (τ.1 0 14), .int (τ.1 0 15), .ref (ad 5), .ref (ad 6), .ref (ad 7), .ref (ad 8), .int (τ.1 0 20), .long τ.2] : List Value).set 7 (.int v))) = wM ay ad (up2 τ.1 0 7 v, τ.2) := wM_set (by omega) _ (by simp [kM, up2])
theorem set_mo8 {v : Int32} : (wM ay ad τ).set 0 (ad 0, .inr (4, ([.ref (ad 1), .ref (ad 2), .int (τ.1 0 2), .ref (ad 3), .int (τ.1 0 4), .int (τ.1 0 5), .int (τ.1 0 6), .int (τ.1 0 7), .int (τ.1 0 8), .ref (ad 4), .int (τ.1 0 10), .int (τ.1 0 11), .int (τ.1 0 12), .int (τ.1 0 13), .int (τ.1 0 14), .int (τ.1 0 15), .ref (ad 5), .ref (ad 6), .ref (ad 7), .ref (ad 8), .int (τ.1 0 20), .long τ.2] : List Value).set 8 (.int v))) = wM ay ad (up2 τ.1 0 8 v, τ.2) := wM_set (by omega) _ (by simp [kM, up2])
theorem set_mo10 {v : Int32} : (wM ay ad τ).set 0 (ad 0, .inr (4, ([.ref (ad 1), .ref (ad 2), .int (τ.1 0 2), .ref (ad 3), .int (τ.1 0 4), .int (τ.1 0 5), .int (τ.1 0 6), .int (τ.1 0 7), .int (τ.1 0 8), .ref (ad 4), .int (τ.1 0 10), .int (τ.1 0 11), .int (τ.1 0 12), .int (τ.1 0 13), .int (τ.1 0 14), .int (τ.1 0 15), .ref (ad 5), .ref (ad 6), .ref (ad 7), .ref (ad 8), .int (τ.1 0 20), .long τ.2] : List Value).set 10 (.int v))) = wM ay ad (up2 τ.1 0 10 v, τ.2) := wM_set (by omega) _ (by simp [kM, up2])
theorem set_mo11 {v : Int32} : (wM ay ad τ).set 0 (ad 0, .inr (4, ([.ref (ad 1), .ref (ad 2), .int (τ.1 0 2), .ref (ad 3), .int (τ.1 0 4), .int (τ.1 0 5), .int (τ.1 0 6), .int (τ.1 0 7), .int (τ.1 0 8), .ref (ad 4), .int (τ.1 0 10), .int (τ.1 0 11), .int (τ.1 0 12), .int (τ.1 0 13), .int (τ.1 0 14), .int (τ.1 0 15), .ref (ad 5), .ref (ad 6), .ref (ad 7), .ref (ad 8), .int (τ.1 0 20), .long τ.2] : List Value).set 11 (.int v))) = wM ay ad (up2 τ.1 0 11 v, τ.2) := wM_set (by omega) _ (by simp [kM, up2])
theorem set_mo12 {v : Int32} : (wM ay ad τ).set 0 (ad 0, .inr (4, ([.ref (ad 1), .ref (ad 2), .int (τ.1 0 2), .ref (ad 3), .int (τ.1 0 4), .int (τ.1 0 5), .int (τ.1 0 6), .int (τ.1 0 7), .int (τ.1 0 8), .ref (ad 4), .int (τ.1 0 10), .int (τ.1 0 11), .int (τ.1 0 12), .int (τ.1 0 13), .int (τ.1 0 14), .int (τ.1 0 15), .ref (ad 5), .ref (ad 6), .ref (ad 7), .ref (ad 8), .int (τ.1 0 20), .long τ.2] : List Value).set 12 (.int v))) = wM ay ad (up2 τ.1 0 12 v, τ.2) := wM_set (by omega) _ (by simp [kM, up2])
theorem set_mo13 {v : Int32} : (wM ay ad τ).set 0 (ad 0, .inr (4, ([.ref (ad 1), .ref (ad 2), .int (τ.1 0 2), .ref (ad 3), .int (τ.1 0 4), .int (τ.1 0 5), .int (τ.1 0 6), .int (τ.1 0 7), .int (τ.1 0 8), .ref (ad 4), .int (τ.1 0 10), .int (τ.1 0 11), .int (τ.1 0 12), .int (τ.1 0 13), .int (τ.1 0 14), .int (τ.1 0 15), .ref (ad 5), .ref (ad 6), .ref (ad 7), .ref (ad 8), .int (τ.1 0 20), .long τ.2] : List Value).set 13 (.int v))) = wM ay ad (up2 τ.1 0 13 v, τ.2) := wM_set (by omega) _ (by simp [kM, up2])
theorem set_mo14 {v : Int32} : (wM ay ad τ).set 0 (ad 0, .inr (4, ([.ref (ad 1), .ref (ad 2), .int (τ.1 0 2), .ref (ad 3), .int (τ.1 0 4), .int (τ.1 0 5), .int (τ.1 0 6), .int (τ.1 0 7), .int (τ.1 0 8), .ref (ad 4), .int (τ.1 0 10), .int (τ.1 0 11), .int (τ.1 0 12), .int (τ.1 0 13), .int (τ.1 0 14), .int (τ.1 0 15), .ref (ad 5), .ref (ad 6), .ref (ad 7), .ref (ad 8), .int (τ.1 0 20), .long τ.2] : List Value).set 14 (.int v))) = wM ay ad (up2 τ.1 0 14 v, τ.2) := wM_set (by omega) _ (by simp [kM, up2])
theorem set_mo15 {v : Int32} : (wM ay ad τ).set 0 (ad 0, .inr (4, ([.ref (ad 1), .ref (ad 2), .int (τ.1 0 2), .ref (ad 3), .int (τ.1 0 4), .int (τ.1 0 5), .int (τ.1 0 6), .int (τ.1 0 7), .int (τ.1 0 8), .ref (ad 4), .int (τ.1 0 10), .int (τ.1 0 11), .int (τ.1 0 12), .int (τ.1 0 13), .int (τ.1 0 14), .int (τ.1 0 15), .ref (ad 5), .ref (ad 6), .ref (ad 7), .ref (ad 8), .int (τ.1 0 20), .long τ.2] : List Value).set 15 (.int v))) = wM ay ad (up2 τ.1 0 15 v, τ.2) := wM_set (by omega) _ (by simp [kM, up2])
theorem set_mo20 {v : Int32} : (wM ay ad τ).set 0 (ad 0, .inr (4, ([.ref (ad 1), .ref (ad 2), .int (τ.1 0 2), .ref (ad 3), .int (τ.1 0 4), .int (τ.1 0 5), .int (τ.1 0 6), .int (τ.1 0 7), .int (τ.1 0 8), .ref (ad 4), .int (τ.1 0 10), .int (τ.1 0 11), .int (τ.1 0 12), .int (τ.1 0 13), .int (τ.1 0 14), .int (τ.1 0 15), .ref (ad 5), .ref (ad 6), .ref (ad 7), .ref (ad 8), .int (τ.1 0 20), .long τ.2] : List Value).set 20 (.int v))) = wM ay ad (up2 τ.1 0 20 v, τ.2) := wM_set (by omega) _ (by simp [kM, up2])
theorem set_moJ {v : Int64} : (wM ay ad τ).set 0 (ad 0, .inr (4, ([.ref (ad 1), .ref (ad 2), .int (τ.1 0 2), .ref (ad 3), .int (τ.1 0 4), .int (τ.1 0 5), .int (τ.1 0 6), .int (τ.1 0 7), .int (τ.1 0 8), .ref (ad 4), .int (τ.1 0 10), .int (τ.1 0 11), .int (τ.1 0 12), .int (τ.1 0 13), .int (τ.1 0 14), .int (τ.1 0 15), .ref (ad 5), .ref (ad 6), .ref (ad 7), .ref (ad 8), .int (τ.1 0 20), .long τ.2] : List Value).set 21 (.long v))) = wM ay ad (τ.1, v) :=
  wl_set 9 _ _ (by omega) _ (by simp [kM]) (fun y hy9 hy => by rw [kM_cong (τ' := (τ.1, v)) (τ := τ) hy9 rfl hy])
end WMl
