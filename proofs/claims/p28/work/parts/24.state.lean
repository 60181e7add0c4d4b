/-! what the class's State answers, in numbers -/
def zOK (z : Zf) : Prop := (∀ k, k < 16 → (z (20 + 4 * k) = 0 ∨ z (20 + 4 * k) = 1)) ∧ (∀ k, k < 16 → -(1000000 + 99 * (z 0).toInt) ≤ vv z k ∧ vv z k ≤ 1000000 + 99 * (z 0).toInt) ∧ (∀ k, k < 16 → -99 ≤ sp z k ∧ sp z k ≤ 99) ∧ (z 1 = 0 ∨ z 1 = 1) ∧ (0 ≤ (z 0).toInt ∧ (z 0).toInt ≤ 9999) ∧ (1 ≤ (z 2).toInt ∧ (z 2).toInt ≤ 999)
theorem zOK.v {z : Zf} (h : zOK z) {k : Nat} (hk : k < 16) : -2000000 ≤ vv z k ∧ vv z k ≤ 2000000 := by
  have h1 := h.2.1 k hk
  have h2 := h.2.2.2.2.1
  omega
theorem zOK.s {z : Zf} (h : zOK z) {k : Nat} (hk : k < 16) : -99 ≤ sp z k ∧ sp z k ≤ 99 := h.2.2.1 k hk
theorem zOK.t {z : Zf} (h : zOK z) {k : Nat} (hk : k < 16) : z (20 + 4 * k) = b2i (tk z k) := by
  rcases h.1 k hk with e | e
  · rw [e]; unfold tk; rw [e]; decide
  · rw [e]; unfold tk; rw [e]; decide
theorem zv_tk (σ : Mem) (n : Nat) {k : Nat} (h : k < 16) : zv σ n (20 + 4 * k) = σ (n + 1) k := zv_s σ n (j := 0) h (by omega)
theorem zv_vv (σ : Mem) (n : Nat) {k : Nat} (h : k < 16) : vv (zv σ n) k = (σ (n + 2) k).toInt := by
  unfold vv; rw [zv_s σ n h (by omega)]
theorem zv_sp (σ : Mem) (n : Nat) {k : Nat} (h : k < 16) : sp (zv σ n) k = (σ (n + 3) k).toInt := by
  unfold sp; rw [zv_s σ n h (by omega)]
theorem lt16 {i : Nat} (h : i < 16) : ¬ nI i < 0 ∧ ¬ (16 : Int32) ≤ nI i ∧ inb (nI i) 16 = true ∧ (nI i).toNatClampNeg = i :=
  ⟨nI_pos (by omega), fun q => absurd ((nI_le_iff (a := 16) (by decide) (by omega)).mp q) (by omega), inb_nI h (by decide), nI_clamp (by omega)⟩
section SS
variable {σ : Mem} {n : Nat}
theorem s_has {i : Nat} (hz : zOK (zv σ n)) (h : i < 16) : F_X1_has n (nI i) σ = some (b2i (tk (zv σ n) i)) := by
  obtain ⟨h1, h2, h3, h4⟩ := lt16 h
  have h5 := hz.t h
  rw [zv_tk σ n h] at h5
  unfold F_X1_has
  rw [if_neg h1, if_neg h2, if_pos h3, h4, h5]
  cases tk (zv σ n) i <;> decide
def hasA (z : Zf) (a : Int32) : Bool := decide (0 ≤ a.toInt ∧ a.toInt < 16) && tk z a.toNatClampNeg
theorem a_cases (a : Int32) : (a < 0 ∧ ¬ (0 ≤ a.toInt ∧ a.toInt < 16)) ∨ (¬ a < 0 ∧ (16 : Int32) ≤ a ∧ ¬ (0 ≤ a.toInt ∧ a.toInt < 16)) ∨ ∃ i, i < 16 ∧ a = nI i ∧ (0 ≤ a.toInt ∧ a.toInt < 16) := by
  rcases pk_ix a (n := 16) (by decide) with h | h | ⟨j, h1, h2⟩
  · left
    refine ⟨h, ?_⟩
    rw [i32_lt] at h
    have : (0 : Int32).toInt = 0 := by decide
    omega
  · have h' : (16 : Int32) ≤ a := h
    rw [i32_le] at h
    have e : (nI 16).toInt = 16 := by decide
    right; left
    refine ⟨?_, h', by omega⟩
    rw [i32_lt]
    have : (0 : Int32).toInt = 0 := by decide
    omega
  · right; right
    refine ⟨j, h1, h2, ?_⟩
    rw [h2, nI_toInt (by omega)]; omega
theorem hasA_nI {z : Zf} {i : Nat} (h : i < 16) : hasA z (nI i) = tk z i := by
  unfold hasA
  rw [nI_clamp (by omega), nI_toInt (by omega)]
  have : (0 : Int) ≤ i ∧ (i : Int) < 16 := by omega
  simp [this]
theorem s_hasX (hz : zOK (zv σ n)) (a : Int32) : F_X1_has n a σ = some (b2i (hasA (zv σ n) a)) := by
  rcases a_cases a with ⟨h1, h2⟩ | ⟨h1, h2, h3⟩ | ⟨i, h1, h2, h3⟩
  · unfold F_X1_has hasA
    rw [if_pos h1, decide_eq_false h2]; rfl
  · unfold F_X1_has hasA
    rw [if_neg h1, if_pos h2, decide_eq_false h3]; rfl
  · rw [h2, s_has hz h1, hasA_nI h1]
theorem hasA_some {z : Zf} {a : Int32} (h : hasA z a = true) : ∃ i, i < 16 ∧ a = nI i ∧ tk z i = true := by
  rcases a_cases a with ⟨h1, h2⟩ | ⟨h1, h2, h3⟩ | ⟨i, h1, h2, h3⟩
  · unfold hasA at h; rw [decide_eq_false h2] at h; cases h
  · unfold hasA at h; rw [decide_eq_false h3] at h; cases h
  · rw [h2, hasA_nI h1] at h; exact ⟨i, h1, h2, h⟩
theorem s_value {i : Nat} (h : i < 16) : F_X1_valueOf n (nI i) σ = some (σ (n + 2) i) := by
  obtain ⟨h1, h2, h3, h4⟩ := lt16 h
  unfold F_X1_valueOf
  rw [if_neg h1, if_neg h2, if_pos h3, h4]
theorem s_speed {i : Nat} (h : i < 16) : F_X1_speedOf n (nI i) σ = some (σ (n + 3) i) := by
  obtain ⟨h1, h2, h3, h4⟩ := lt16 h
  unfold F_X1_speedOf
  rw [if_neg h1, if_neg h2, if_pos h3, h4]
theorem s_added {i : Nat} (h : i < 16) : F_X1_addedAtOf n (nI i) σ = some (σ (n + 4) i) := by
  obtain ⟨h1, h2, h3, h4⟩ := lt16 h
  unfold F_X1_addedAtOf
  rw [if_neg h1, if_neg h2, if_pos h3, h4]
def ord (z : Zf) (i j : Nat) : Bool := if up z = true then decide (i < j) else decide (j < i)
theorem s_bfr {i j : Nat} (hz : zOK (zv σ n)) (hi : i < 16) (hj : j < 16) : F_X1_isBeforeAsEqual n (nI i) (nI j) σ = some (b2i (ord (zv σ n) i j)) := by
  unfold F_X1_isBeforeAsEqual
  have e := hz.2.2.2.1
  have e1 : zv σ n 1 = σ n 6 := rfl
  unfold ord up
  rw [← e1]
  simp only [nI_le_iff (show i < 2 ^ 31 by omega) (show j < 2 ^ 31 by omega), nI_le_iff (show j < 2 ^ 31 by omega) (show i < 2 ^ 31 by omega)]
  rcases e with e | e
  · rw [e]
    by_cases h : j ≤ i
    · have : ¬ i < j := by omega
      simp [h, this, b2i]
    · have : i < j := by omega
      simp [h, this, b2i]
  · rw [e]
    by_cases h : i ≤ j
    · have : ¬ j < i := by omega
      simp [h, this, b2i]
    · have : j < i := by omega
      simp [h, this, b2i]
/-- i, had it the speed t, ahead of j, x later -/
def wb (z : Zf) (t x : Int) (i j : Nat) : Bool := if vv z i - vv z j + (t - sp z j) * x = 0 then (if t - sp z j = 0 then ord z i j else decide (0 < t - sp z j)) else decide (0 < vv z i - vv z j + (t - sp z j) * x)
theorem b2i_le (y : Int) (c : Prop) [Decidable c] (h : c ↔ y ≤ 0) : (if c then (some 0 : Option Int32) else some 1) = some (b2i (decide (0 < y))) := by
  by_cases q : y ≤ 0
  · rw [if_pos (h.mpr q), decide_eq_false (by omega)]; rfl
  · rw [if_neg (fun w => q (h.mp w)), decide_eq_true (by omega)]; rfl
theorem some_ite {α : Type} (c : Prop) [Decidable c] (a b : α) : (if c then some a else some b) = some (if c then a else b) := by split <;> rfl
theorem b2i_ite (c : Prop) [Decidable c] (a b : Bool) : (if c then b2i a else b2i b) = b2i (if c then a else b) := by split <;> rfl
theorem s_would {i j : Nat} {t x : Int32} (hz : zOK (zv σ n)) (hi : i < 16) (hj : j < 16) (ht : -99 ≤ t.toInt ∧ t.toInt ≤ 99) (hx : -9999 ≤ x.toInt ∧ x.toInt ≤ 9999) : F_X1_wouldBeAhead n (nI i) t (nI j) x σ = some (b2i (wb (zv σ n) t.toInt x.toInt i j)) := by
  have v1 := hz.v hi
  have v2 := hz.v hj
  have v3 := hz.s hj
  rw [zv_vv σ n hi] at v1
  rw [zv_vv σ n hj] at v2
  rw [zv_sp σ n hj] at v3
  unfold F_X1_wouldBeAhead
  rw [s_speed hj, s_value hi, s_value hj]
  simp only [Option.bind_some, s_bfr hz hi hj]
  have e1 : (t.toInt64 - (σ (n + 3) j).toInt64).toInt = t.toInt - (σ (n + 3) j).toInt := by
    rw [subL (B := 99) (C := 99) (by rw [toL]; omega) (by rw [toL]; omega) (by decide), toL, toL]
  have e2 : ((σ (n + 2) i).toInt64 - (σ (n + 2) j).toInt64).toInt = (σ (n + 2) i).toInt - (σ (n + 2) j).toInt := by
    rw [subL (B := 2000000) (C := 2000000) (by rw [toL]; omega) (by rw [toL]; omega) (by decide), toL, toL]
  obtain ⟨e3, e4⟩ := mulL (x := t.toInt64 - (σ (n + 3) j).toInt64) (y := x.toInt64) (B := 198) (C := 9999) (by rw [e1]; omega) (by rw [toL]; omega) (by decide)
  have e5 := addL (x := (σ (n + 2) i).toInt64 - (σ (n + 2) j).toInt64) (y := (t.toInt64 - (σ (n + 3) j).toInt64) * x.toInt64) (B := 4000000) (C := 198 * 9999) (by rw [e2]; omega) e4 (by decide)
  rw [e3, e1, e2, toL] at e5
  have z0 : (0 : Int64).toInt = 0 := by decide
  simp only [lgc_eq, lgc_le, e5, e1, z0, wb, zv_vv σ n hi, zv_vv σ n hj, zv_sp σ n hj]
  rw [b2i_le _ _ (Iff.rfl), b2i_le _ _ (Iff.rfl), some_ite, b2i_ite, some_ite, b2i_ite]
theorem wb_ah (z : Zf) (x : Int) (i j : Nat) : wb z (sp z i) x i j = ah z x 1 i j := by
  unfold wb ah lx ord
  have e := pos_sub z x 1 i j
  rw [Int.mul_one] at e
  rw [← e]
  by_cases h : pos z x 1 i = pos z x 1 j
  · by_cases h2 : sp z i = sp z j
    · simp [h, h2]
    · have : sp z i - sp z j ≠ 0 := by omega
      simp [h, h2, this]
  · have : pos z x 1 i - pos z x 1 j ≠ 0 := by omega
    simp [h, this]
theorem s_sooner {k q w : Nat} (hz : zOK (zv σ n)) (hk : k < 16) (hq : q < 16) (hw : w < 16) : F_X1_isSoonerAhead n (nI k) (nI q) (nI w) σ = some (b2i (snr (zv σ n) w k q)) := by
  have v1 := hz.v hk
  have v2 := hz.v hq
  have v3 := hz.v hw
  have u1 := hz.s hk
  have u2 := hz.s hq
  have u3 := hz.s hw
  rw [zv_vv σ n hk] at v1
  rw [zv_vv σ n hq] at v2
  rw [zv_vv σ n hw] at v3
  rw [zv_sp σ n hk] at u1
  rw [zv_sp σ n hq] at u2
  rw [zv_sp σ n hw] at u3
  unfold F_X1_isSoonerAhead
  simp only [s_speed hk, s_speed hq, s_speed hw, s_value hk, s_value hq, s_value hw, Option.bind_some, s_bfr hz hk hq]
  have d1 : ∀ a b : Int32, (-99 ≤ a.toInt ∧ a.toInt ≤ 99) → (-99 ≤ b.toInt ∧ b.toInt ≤ 99) → (a.toInt64 - b.toInt64).toInt = a.toInt - b.toInt := fun a b ha hb => by
    rw [subL (B := 99) (C := 99) (by rw [toL]; omega) (by rw [toL]; omega) (by decide), toL, toL]
  have d2 : ∀ a b : Int32, (-2000000 ≤ a.toInt ∧ a.toInt ≤ 2000000) → (-2000000 ≤ b.toInt ∧ b.toInt ≤ 2000000) → (a.toInt64 - b.toInt64).toInt = a.toInt - b.toInt := fun a b ha hb => by
    rw [subL (B := 2000000) (C := 2000000) (by rw [toL]; omega) (by rw [toL]; omega) (by decide), toL, toL]
  obtain ⟨e1, f1⟩ := mulL (x := (σ (n + 2) w).toInt64 - (σ (n + 2) k).toInt64) (y := (σ (n + 3) q).toInt64 - (σ (n + 3) w).toInt64) (B := 4000000) (C := 198) (by rw [d2 _ _ v3 v1]; omega) (by rw [d1 _ _ u2 u3]; omega) (by decide)
  obtain ⟨e2, f2⟩ := mulL (x := (σ (n + 2) w).toInt64 - (σ (n + 2) q).toInt64) (y := (σ (n + 3) k).toInt64 - (σ (n + 3) w).toInt64) (B := 4000000) (C := 198) (by rw [d2 _ _ v3 v2]; omega) (by rw [d1 _ _ u1 u3]; omega) (by decide)
  have e3 := subL f1 f2 (by decide)
  rw [e1, e2, d2 _ _ v3 v1, d2 _ _ v3 v2, d1 _ _ u2 u3, d1 _ _ u1 u3] at e3
  have z0 : (0 : Int64).toInt = 0 := by decide
  simp only [lgc_eq, lgc_le, lgc_ge, e3, d1 _ _ u2 u3, d1 _ _ u1 u3, z0, snr, zv_vv σ n hk, zv_vv σ n hq, zv_vv σ n hw, zv_sp σ n hk, zv_sp σ n hq, zv_sp σ n hw, ord]
  generalize ((σ (n + 2) w).toInt - (σ (n + 2) k).toInt) * ((σ (n + 3) q).toInt - (σ (n + 3) w).toInt) - ((σ (n + 2) w).toInt - (σ (n + 2) q).toInt) * ((σ (n + 3) k).toInt - (σ (n + 3) w).toInt) = L
  by_cases h : L = 0
  · by_cases h2 : (σ (n + 3) k).toInt = (σ (n + 3) q).toInt
    · simp [h, h2]
    · have h3 : ¬ (σ (n + 3) k).toInt - (σ (n + 3) w).toInt = (σ (n + 3) q).toInt - (σ (n + 3) w).toInt := by omega
      simp only [h, if_true, h3, if_false, ne_eq, not_true_eq_false, h2, not_false_eq_true]
      by_cases h4 : (σ (n + 3) q).toInt < (σ (n + 3) k).toInt
      · have : ¬ (σ (n + 3) k).toInt - (σ (n + 3) w).toInt ≤ (σ (n + 3) q).toInt - (σ (n + 3) w).toInt := by omega
        simp [this, h4, b2i]
      · have : (σ (n + 3) k).toInt - (σ (n + 3) w).toInt ≤ (σ (n + 3) q).toInt - (σ (n + 3) w).toInt := by omega
        simp [this, h4, b2i]
  · by_cases h4 : L < 0
    · have : ¬ 0 ≤ L := by omega
      simp [h, h4, this, b2i]
    · have : 0 ≤ L := by omega
      simp [h, h4, this, b2i]
/-- the foremost of some slots -/
theorem s_foremost_loop (hz : zOK (zv σ n)) {ex x : Int32} {hi : Nat} (hhi : hi ≤ 16) (hx : -9999 ≤ x.toInt ∧ x.toInt ≤ 9999) : ∀ (m k fu : Nat) (w : Option Nat), k + m = hi → m < fu → (∀ j, w = some j → j < 16) →
    L_X1_foremost_6 n (nI hi) ex x σ fu (enc w) (nI k) = some (enc (fo (fun k => tk (zv σ n) k && !decide (nI k = ex)) (ah (zv σ n) x.toInt 1) m k w)) := by
  intro m
  induction m with
  | zero =>
    intro k fu w hk hf hw
    obtain ⟨f, rfl⟩ : ∃ f, fu = f + 1 := ⟨fu - 1, by omega⟩
    rw [L_X1_foremost_6, if_pos ((nI_le_iff (by omega) (by omega)).mpr (by omega))]
    rfl
  | succ m ih =>
    intro k fu w hk hf hw
    obtain ⟨f, rfl⟩ : ∃ f, fu = f + 1 := ⟨fu - 1, by omega⟩
    have hk16 : k < 16 := by omega
    rw [L_X1_foremost_6, if_neg (fun q => absurd ((nI_le_iff (by omega) (by omega)).mp q) (by omega)), fo]
    have key : (if nI k = ex then some (enc w) else (F_X1_has n (nI k) σ).bind fun r21 => if r21 = 0 then some (enc w) else if enc w = -1 then some (nI k) else (F_X1_speedOf n (nI k) σ).bind fun r39 => (F_X1_wouldBeAhead n (nI k) r39 (enc w) x σ).bind fun r46 => if r46 = 0 then some (enc w) else some (nI k)) = some (enc (if (tk (zv σ n) k && !decide (nI k = ex)) && bet (ah (zv σ n) x.toInt 1) w k then some k else w)) := by
      by_cases he : nI k = ex
      · rw [if_pos he]; simp [he]
      · rw [if_neg he, s_has hz hk16, Option.bind_some]
        cases ht : tk (zv σ n) k with
        | false => simp [b2i]
        | true =>
          rw [if_neg (by decide)]
          cases w with
          | none => simp [enc, he, bet]
          | some j =>
            have hj := hw j rfl
            have hs := hz.s hk16
            rw [zv_sp σ n hk16] at hs
            rw [if_neg (show ¬ enc (some j) = -1 from nI_ne_m1 (by omega)), s_speed hk16, Option.bind_some, show enc (some j) = nI j from rfl, s_would hz hk16 hj hs hx, Option.bind_some]
            have e : wb (zv σ n) (σ (n + 3) k).toInt x.toInt k j = ah (zv σ n) x.toInt 1 k j := by
              rw [← wb_ah, zv_sp σ n hk16]
            rw [e]
            cases hA : ah (zv σ n) x.toInt 1 k j <;> simp [he, bet, b2i, enc, hA]
    rw [key, Option.bind_some]
    show L_X1_foremost_6 n (nI hi) ex x σ f _ (nI k + 1) = _
    rw [nI_1]
    exact ih (k + 1) f _ (by omega) (by omega) (fun j hj => by
      split at hj
      · cases hj; exact hk16
      · exact hw j hj)
theorem s_foremost (hz : zOK (zv σ n)) {ex x : Int32} {a hi : Nat} (ha : a ≤ hi) (hhi : hi ≤ 16) (hx : -9999 ≤ x.toInt ∧ x.toInt ≤ 9999) :
    F_X1_foremost n (nI a) (nI hi) ex x σ = some (enc (fo (fun k => tk (zv σ n) k && !decide (nI k = ex)) (ah (zv σ n) x.toInt 1) (hi - a) a none)) := by
  unfold F_X1_foremost
  rw [show (-1 : Int32) = enc none from rfl, s_foremost_loop hz hhi hx (hi - a) a FU none (by omega) (by show hi - a < 1000; omega) (fun j h => by cases h)]
  rfl
theorem fo_noex {z : Zf} {g : Nat → Nat → Bool} : ∀ (m k : Nat) (w : Option Nat), k + m ≤ 16 → fo (fun k => tk z k && !decide (nI k = -1)) g m k w = fo (tk z) g m k w := by
  intro m
  induction m with
  | zero => intro k w _; rfl
  | succ m ih =>
    intro k w h
    rw [fo, fo, ih _ _ (by omega)]
    have : ¬ nI k = -1 := nI_ne_m1 (by omega)
    simp [this]
theorem s_winner (hz : zOK (zv σ n)) {x : Int32} {c : Nat} (h1 : 1 ≤ c) (h2 : c ≤ 15) (hx : -9999 ≤ x.toInt ∧ x.toInt ≤ 9999) : F_X1_foremost n (nI (lo c)) (nI (lo c + sz c)) (-1) x σ = some (enc (win (zv σ n) x.toInt 1 c)) := by
  have := sz_lo h1 h2
  rw [s_foremost hz (by omega) (by omega) hx, show lo c + sz c - lo c = sz c by omega, fo_noex _ _ _ (by omega)]
  rfl
end SS
