/-! the class's world: 108 cells at the addresses ad, and what each holds, out of the int memory -/
def kS (ay : Nat → ClassId) (ad : Nat → Nat) (σ : Mem) (n j : Nat) : va_E := match j with
  | 0 => .inr (1, [.ref (ad (n + 1)), .ref (ad (n + 2)), .ref (ad (n + 3)), .ref (ad (n + 4)), .ref (ad (n + 5)), .int (σ n 5), .int (σ n 6), .int (σ n 7)])
  | 1 => .inl (ay 1, 16, .inl (σ (n + 1)))
  | j => .inl (ay 0, 16, .inl (σ (n + j)))
def kK (ay : Nat → ClassId) (ad : Nat → Nat) (σ : Mem) (n j : Nat) : va_E := match j with
  | 0 => .inr (0, [.int (σ n 0), .int (σ n 1), .ref (ad (n + 1)), .ref (ad (n + 2)), .ref (ad (n + 3)), .int (σ n 5)])
  | j => .inl (ay 0, 16, .inl (σ (n + j)))
def kC (ay : Nat → ClassId) (ad : Nat → Nat) (σ : Mem) (x : Nat) : va_E :=
  if x = 0 then .inr (3, [.ref (ad 6), .ref (ad 1), .int (σ 0 2), .int (σ 0 3), .ref (ad 48), .ref (ad 2), .ref (ad 3), .ref (ad 4)])
  else if x = 1 then .inl (ay 3, 6, .inr (.inr (.inr (.inr (fun k => some (ad (12 + 6 * k)))))))
  else if x = 2 then .inl (ay 4, 16, .inr (.inr (.inr (.inr (fun k => if k = 0 then none else some (ad (44 + 4 * k)))))))
  else if x = 3 then .inl (ay 0, 16, .inl (σ 3))
  else if x = 4 then .inr (2, [.ref (ad 5), .int (σ 4 1), .int (σ 4 2)])
  else if x = 5 then .inl (ay 2, 60, .inl (σ 5))
  else if x < 48 then kS ay ad σ (6 + 6 * ((x - 6) / 6)) ((x - 6) % 6)
  else kK ay ad σ (48 + 4 * ((x - 48) / 4)) ((x - 48) % 4)
def wC (ay : Nat → ClassId) (ad : Nat → Nat) (σ : Mem) : va_W := (List.range 108).map (fun x => (ad x, kC ay ad σ x))
def AC (ad : Nat → Nat) : Nat → Prop := fun q => ∃ x, x < 108 ∧ q = ad x
def adOK (ad : Nat → Nat) : Prop := ∀ i j, i < 108 → j < 108 → ad i = ad j → i = j
def IsSt (n : Nat) : Prop := ∃ i, i < 7 ∧ n = 6 + 6 * i
def IsCo (n : Nat) : Prop := ∃ i, i < 15 ∧ n = 48 + 4 * i
def IsIA (x : Nat) : Prop := ∃ n j, IsSt n ∧ 2 ≤ j ∧ j ≤ 5 ∧ x = n + j
theorem isSt6 : IsSt 6 := ⟨0, by omega, rfl⟩
theorem isCo48 : IsCo 48 := ⟨0, by omega, rfl⟩
theorem up2_ne (σ : Mem) {x y k : Nat} {v : Int32} (h : y ≠ x) : (up2 σ x k v) y = σ y := by
  funext b; simp [up2, h]
theorem up2_eq (σ : Mem) {x k : Nat} {v : Int32} : (up2 σ x k v) x = upd (σ x) k v := by
  funext b; simp [up2, upd]
theorem up2_at (σ : Mem) {x k : Nat} {v : Int32} : (up2 σ x k v) x k = v := by simp [up2]
theorem up2_nk (σ : Mem) {x k j : Nat} {v : Int32} (h : j ≠ k) : (up2 σ x k v) x j = σ x j := by simp [up2, h]
section WCl
variable {ay : Nat → ClassId} {ad : Nat → Nat} {σ : Mem} {n : Nat}
theorem wl_get {α : Type} (N : Nat) (f : Nat → α) {x : Nat} (h : x < N) : ((List.range N).map f)[x]? = some (f x) := by simp [h]
theorem wl_set {α : Type} (N : Nat) (f f' : Nat → α) {x : Nat} (h : x < N) (e : α) (he : f' x = e) (hne : ∀ k, k < N → k ≠ x → f' k = f k) : ((List.range N).map f).set x e = (List.range N).map f' := by
  apply List.ext_getElem?
  intro k
  by_cases hk : k < N
  · rw [wl_get N f' hk]
    by_cases hx : k = x
    · subst hx; rw [List.getElem?_set_self (by simpa using hk), he]
    · rw [List.getElem?_set_ne (fun q => hx q.symm), wl_get N f hk, hne k hk hx]
  · rw [List.getElem?_eq_none (by simpa using Nat.le_of_not_lt hk), List.getElem?_eq_none (by simpa using Nat.le_of_not_lt hk)]
theorem wC_get {x : Nat} (h : x < 108) : (wC ay ad σ)[x]? = some (ad x, kC ay ad σ x) := wl_get 108 (fun x => (ad x, kC ay ad σ x)) h
theorem IsSt.lt (h : IsSt n) : n + 5 < 108 := by obtain ⟨i, h1, h2⟩ := h; omega
theorem IsCo.lt (h : IsCo n) : n + 3 < 108 := by obtain ⟨i, h1, h2⟩ := h; omega
theorem kC_S (hn : IsSt n) {j : Nat} (hj : j < 6) : kC ay ad σ (n + j) = kS ay ad σ n j := by
  obtain ⟨i, hi, rfl⟩ := hn
  have e1 : (6 + 6 * i + j - 6) / 6 = i := by omega
  have e2 : (6 + 6 * i + j - 6) % 6 = j := by omega
  unfold kC
  rw [if_neg (by omega), if_neg (by omega), if_neg (by omega), if_neg (by omega), if_neg (by omega), if_neg (by omega), if_pos (by omega), e1, e2]
theorem kC_K (hn : IsCo n) {j : Nat} (hj : j < 4) : kC ay ad σ (n + j) = kK ay ad σ n j := by
  obtain ⟨i, hi, rfl⟩ := hn
  have e1 : (48 + 4 * i + j - 48) / 4 = i := by omega
  have e2 : (48 + 4 * i + j - 48) % 4 = j := by omega
  unfold kC
  rw [if_neg (by omega), if_neg (by omega), if_neg (by omega), if_neg (by omega), if_neg (by omega), if_neg (by omega), if_neg (by omega), e1, e2]
theorem kC_cong {σ' : Mem} {y : Nat} (h : σ' y = σ y) : kC ay ad σ' y = kC ay ad σ y := by
  unfold kC
  by_cases h0 : y = 0
  · subst h0; simp only [h, if_true]
  rw [if_neg h0, if_neg h0]
  by_cases h1 : y = 1
  · subst h1; rfl
  rw [if_neg h1, if_neg h1]
  by_cases h2 : y = 2
  · subst h2; rfl
  rw [if_neg h2, if_neg h2]
  by_cases h3 : y = 3
  · subst h3; simp only [h, if_true]
  rw [if_neg h3, if_neg h3]
  by_cases h4 : y = 4
  · subst h4; simp only [h, if_true]
  rw [if_neg h4, if_neg h4]
  by_cases h5 : y = 5
  · subst h5; simp only [h, if_true]
  rw [if_neg h5, if_neg h5]
  by_cases h6 : y < 48
  · rw [if_pos h6, if_pos h6]
    have e : 6 + 6 * ((y - 6) / 6) + (y - 6) % 6 = y := by omega
    generalize 6 + 6 * ((y - 6) / 6) = n at e
    generalize (y - 6) % 6 = j at e
    subst e
    match j with
    | 0 => simp only [kS]; rw [show σ' n = σ n from h]
    | 1 => simp only [kS]; rw [h]
    | j + 2 => simp only [kS]; rw [h]
  · rw [if_neg h6, if_neg h6]
    have e : 48 + 4 * ((y - 48) / 4) + (y - 48) % 4 = y := by omega
    generalize 48 + 4 * ((y - 48) / 4) = n at e
    generalize (y - 48) % 4 = j at e
    subst e
    match j with
    | 0 => simp only [kK]; rw [show σ' n = σ n from h]
    | j + 1 => simp only [kK]; rw [h]
theorem wC_set {x k : Nat} {v : Int32} (h : x < 108) (e : va_E) (he : kC ay ad (up2 σ x k v) x = e) : (wC ay ad σ).set x (ad x, e) = wC ay ad (up2 σ x k v) :=
  wl_set 108 _ _ h _ (by rw [he]) (fun y _ hy => by rw [kC_cong (up2_ne σ hy)])
theorem lt_obj : (wC ay ad σ)[0]? = some (ad 0, .inr (3, [.ref (ad 6), .ref (ad 1), .int (σ 0 2), .int (σ 0 3), .ref (ad 48), .ref (ad 2), .ref (ad 3), .ref (ad 4)])) := wC_get (by omega)
theorem tx_obj : (wC ay ad σ)[4]? = some (ad 4, .inr (2, [.ref (ad 5), .int (σ 4 1), .int (σ 4 2)])) := wC_get (by omega)
theorem sv_arr : (wC ay ad σ)[1]? = some (ad 1, .inl (ay 3, 6, .inr (.inr (.inr (.inr (fun k => some (ad (12 + 6 * k)))))))) := wC_get (by omega)
theorem cs_arr : (wC ay ad σ)[2]? = some (ad 2, .inl (ay 4, 16, .inr (.inr (.inr (.inr (fun k => if k = 0 then none else some (ad (44 + 4 * k)))))))) := wC_get (by omega)
theorem wb_arr : (wC ay ad σ)[3]? = some (ad 3, .inl (ay 0, 16, .inl (σ 3))) := wC_get (by omega)
theorem cd_arr : (wC ay ad σ)[5]? = some (ad 5, .inl (ay 2, 60, .inl (σ 5))) := wC_get (by omega)
theorem st_obj (hn : IsSt n) : (wC ay ad σ)[n]? = some (ad n, .inr (1, [.ref (ad (n + 1)), .ref (ad (n + 2)), .ref (ad (n + 3)), .ref (ad (n + 4)), .ref (ad (n + 5)), .int (σ n 5), .int (σ n 6), .int (σ n 7)])) := by
  rw [wC_get (by have := hn.lt; omega), show kC ay ad σ n = kS ay ad σ n 0 from kC_S (j := 0) hn (by omega)]; rfl
theorem st_arr1 (hn : IsSt n) : (wC ay ad σ)[n + 1]? = some (ad (n + 1), .inl (ay 1, 16, .inl (σ (n + 1)))) := by
  rw [wC_get (by have := hn.lt; omega), kC_S hn (by omega)]; rfl
theorem st_arr (hn : IsSt n) {j : Nat} (h2 : 2 ≤ j) (h5 : j ≤ 5) : (wC ay ad σ)[n + j]? = some (ad (n + j), .inl (ay 0, 16, .inl (σ (n + j)))) := by
  rw [wC_get (by have := hn.lt; omega), kC_S hn (by omega)]
  match j, h2 with
  | j + 2, _ => rfl
theorem co_obj (hn : IsCo n) : (wC ay ad σ)[n]? = some (ad n, .inr (0, [.int (σ n 0), .int (σ n 1), .ref (ad (n + 1)), .ref (ad (n + 2)), .ref (ad (n + 3)), .int (σ n 5)])) := by
  rw [wC_get (by have := hn.lt; omega), show kC ay ad σ n = kK ay ad σ n 0 from kC_K (j := 0) hn (by omega)]; rfl
theorem co_arr (hn : IsCo n) {j : Nat} (h1 : 1 ≤ j) (h3 : j ≤ 3) : (wC ay ad σ)[n + j]? = some (ad (n + j), .inl (ay 0, 16, .inl (σ (n + j)))) := by
  rw [wC_get (by have := hn.lt; omega), kC_K hn (by omega)]
  match j, h1 with
  | j + 1, _ => rfl
theorem ia_arr {x : Nat} (hx : IsIA x) : (wC ay ad σ)[x]? = some (ad x, .inl (ay 0, 16, .inl (σ x))) := by
  obtain ⟨n, j, hn, h2, h5, rfl⟩ := hx
  exact st_arr hn h2 h5
/-- a written element of an int array: any cell that is one -/
theorem set_arr {x k : Nat} {v : Int32} {a n : Nat} (h : ∀ σ : Mem, (wC ay ad σ)[x]? = some (ad x, .inl (ay a, n, .inl (σ x)))) : (wC ay ad σ).set x (ad x, .inl (ay a, n, .inl (upd (σ x) k v))) = wC ay ad (up2 σ x k v) := by
  have hx : x < 108 := by
    have := (List.getElem?_eq_some_iff.mp (h σ)).1
    simpa [wC] using this
  refine wC_set hx _ ?_
  have h1 := h (up2 σ x k v)
  rw [wC_get hx] at h1
  have h2 := (Prod.mk.inj (Option.some.inj h1)).2
  rw [h2, up2_eq]
theorem set_st (hn : IsSt n) {k : Nat} {v : Int32} (hk : 5 ≤ k) (hk7 : k ≤ 7) : (wC ay ad σ).set n (ad n, .inr (1, ([.ref (ad (n + 1)), .ref (ad (n + 2)), .ref (ad (n + 3)), .ref (ad (n + 4)), .ref (ad (n + 5)), .int (σ n 5), .int (σ n 6), .int (σ n 7)] : List Value).set k (.int v))) = wC ay ad (up2 σ n k v) := by
  refine wC_set (by have := hn.lt; omega) _ ?_
  rw [show kC ay ad (up2 σ n k v) n = kS ay ad (up2 σ n k v) n 0 from kC_S (j := 0) hn (by omega)]
  rcases (show k = 5 ∨ k = 6 ∨ k = 7 by omega) with rfl | rfl | rfl <;> simp [kS, up2]
theorem set_co (hn : IsCo n) {v : Int32} : (wC ay ad σ).set n (ad n, .inr (0, ([.int (σ n 0), .int (σ n 1), .ref (ad (n + 1)), .ref (ad (n + 2)), .ref (ad (n + 3)), .int (σ n 5)] : List Value).set 5 (.int v))) = wC ay ad (up2 σ n 5 v) := by
  refine wC_set (by have := hn.lt; omega) _ ?_
  rw [show kC ay ad (up2 σ n 5 v) n = kK ay ad (up2 σ n 5 v) n 0 from kC_K (j := 0) hn (by omega)]
  simp [kK, up2]
theorem set_tx {k : Nat} {v : Int32} (hk : 1 ≤ k) (hk2 : k ≤ 2) : (wC ay ad σ).set 4 (ad 4, .inr (2, ([.ref (ad 5), .int (σ 4 1), .int (σ 4 2)] : List Value).set k (.int v))) = wC ay ad (up2 σ 4 k v) := by
  refine wC_set (by omega) _ ?_
  rcases (show k = 1 ∨ k = 2 by omega) with rfl | rfl <;> simp [kC, up2]
theorem set_lt {k : Nat} {v : Int32} (hk : 2 ≤ k) (hk2 : k ≤ 3) : (wC ay ad σ).set 0 (ad 0, .inr (3, ([.ref (ad 6), .ref (ad 1), .int (σ 0 2), .int (σ 0 3), .ref (ad 48), .ref (ad 2), .ref (ad 3), .ref (ad 4)] : List Value).set k (.int v))) = wC ay ad (up2 σ 0 k v) := by
  refine wC_set (by omega) _ ?_
  rcases (show k = 2 ∨ k = 3 by omega) with rfl | rfl <;> simp [kC, up2]
theorem wC_D (h : adOK ad) (τ : Mem) : va_D (AC ad) (wC ay ad τ) := by
  have key : ∀ (k : Nat) (q : Nat × va_E), (wC ay ad τ)[k]? = some q → k < 108 ∧ q.1 = ad k := by
    intro k q hq
    have hk : k < 108 := by
      have := (List.getElem?_eq_some_iff.mp hq).1
      simpa [wC] using this
    rw [wC_get hk] at hq
    cases hq
    exact ⟨hk, rfl⟩
  refine ⟨fun i j p q hi hj e => ?_, fun k q hq => ⟨k, (key k q hq).1, (key k q hq).2⟩⟩
  obtain ⟨a1, a2⟩ := key i p hi
  obtain ⟨b1, b2⟩ := key j q hj
  exact h i j a1 b1 (by rw [← a2, ← b2]; exact e)
end WCl
theorem isSt_sv {j : Int32} (h : inb j 6 = true) : IsSt (12 + 6 * j.toNatClampNeg) := by
  have := inb_lt h
  exact ⟨j.toNatClampNeg + 1, by omega, by omega⟩
theorem isCo_cs {j : Int32} (h : inb1 j 16 = true) : IsCo (44 + 4 * j.toNatClampNeg) := by
  have h1 : inb j 16 = true := by simp only [inb1, Bool.and_eq_true] at h; exact h.1
  have := inb_lt h1
  have := inb1_ne h
  exact ⟨j.toNatClampNeg - 1, by omega, by omega⟩
