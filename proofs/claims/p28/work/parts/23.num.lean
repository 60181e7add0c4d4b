/-! small numbers as ints; the divisor; the memory of a State as one row of 84 -/
def b2i (b : Bool) : Int32 := if b then 1 else 0
theorem b2i_0 {b : Bool} : b2i b = 0 ↔ b = false := by cases b <;> simp [b2i]
theorem b2i_n0 {b : Bool} : ¬ b2i b = 0 ↔ b = true := by cases b <;> simp [b2i]
theorem inb_nI {i N : Nat} (h : i < N) (hN : N < 2 ^ 31) : inb (nI i) N = true := by
  have h1 : ¬ (nI i < 0) := nI_pos (by omega)
  have h2 : ¬ N ≤ (nI i).toNatClampNeg := by rw [nI_clamp (by omega)]; omega
  simp [inb, h1]; omega
theorem nI_lt_iff {a b : Nat} (ha : a < 2 ^ 31) (hb : b < 2 ^ 31) : nI a < nI b ↔ a < b := nI_ltI ha hb
theorem nI_le_iff {a b : Nat} (ha : a < 2 ^ 31) (hb : b < 2 ^ 31) : nI a ≤ nI b ↔ a ≤ b := nI_leI ha hb
theorem nI_eq_iff {a b : Nat} (ha : a < 2 ^ 31) (hb : b < 2 ^ 31) : nI a = nI b ↔ a = b := nI_eq ha hb
theorem nI_ne_m1 {a : Nat} (ha : a < 2 ^ 31) : ¬ nI a = -1 := by
  intro h
  have h1 : (nI a).toInt = (-1 : Int32).toInt := by rw [h]
  rw [nI_toInt ha] at h1
  have : ((-1 : Int32)).toInt = -1 := by decide
  omega
theorem enc_m1 {w : Option Nat} (h : ∀ k, w = some k → k < 2 ^ 31) : enc w = -1 ↔ w = none := by
  cases w with
  | none => simp [enc]
  | some k => simp only [enc, reduceCtorEq, iff_false]; exact nI_ne_m1 (h k rfl)
theorem i32_lt {a b : Int32} : a < b ↔ a.toInt < b.toInt := Int32.lt_iff_toInt_lt
theorem i32_le {a b : Int32} : a ≤ b ↔ a.toInt ≤ b.toInt := Int32.le_iff_toInt_le
theorem i32_eq {a b : Int32} : a = b ↔ a.toInt = b.toInt := Int32.toInt_inj.symm
theorem i64_lt {a b : Int64} : a < b ↔ a.toInt < b.toInt := Int64.lt_iff_toInt_lt
theorem i64_eq {a b : Int64} : a = b ↔ a.toInt = b.toInt := Int64.toInt_inj.symm
theorem lgc_eq {x y : Int64} : lg_cmp x y = 0 ↔ x.toInt = y.toInt := by
  unfold lg_cmp
  simp only [gt_iff_lt, i64_lt, i64_eq (a := x) (b := y)]
  by_cases h1 : y.toInt < x.toInt
  · rw [if_pos h1]; constructor
    · intro h; exact absurd h (by decide)
    · intro h; omega
  · rw [if_neg h1]
    by_cases h2 : x.toInt = y.toInt
    · rw [if_pos h2]; simp [h2]
    · rw [if_neg h2]; constructor
      · intro h; exact absurd h (by decide)
      · intro h; exact absurd h h2
theorem lgc_le {x y : Int64} : lg_cmp x y ≤ 0 ↔ x.toInt ≤ y.toInt := by
  unfold lg_cmp
  simp only [gt_iff_lt, i64_lt, i64_eq (a := x) (b := y)]
  by_cases h1 : y.toInt < x.toInt
  · rw [if_pos h1]; constructor
    · intro h; exact absurd h (by decide)
    · intro h; omega
  · rw [if_neg h1]
    by_cases h2 : x.toInt = y.toInt
    · rw [if_pos h2]; simp [h2]
    · rw [if_neg h2]; constructor
      · intro h; omega
      · intro h; decide
theorem lgc_lt {x y : Int64} : lg_cmp x y < 0 ↔ x.toInt < y.toInt := by
  have h : lg_cmp x y < 0 ↔ (lg_cmp x y ≤ 0 ∧ ¬ lg_cmp x y = 0) := by
    rw [i32_lt, i32_le, i32_eq]
    have : (0 : Int32).toInt = 0 := by decide
    omega
  rw [h, lgc_le, lgc_eq]; omega
theorem lgc_ge {x y : Int64} : 0 ≤ lg_cmp x y ↔ y.toInt ≤ x.toInt := lg_cmp_ge' where
  lg_cmp_ge' {x y : Int64} : 0 ≤ lg_cmp x y ↔ y.toInt ≤ x.toInt := by
    have h : 0 ≤ lg_cmp x y ↔ ¬ lg_cmp x y < 0 := by
      rw [i32_lt, i32_le]
      have : (0 : Int32).toInt = 0 := by decide
      omega
    rw [h, lgc_lt]; omega
theorem lgc_gt {x y : Int64} : 0 < lg_cmp x y ↔ y.toInt < x.toInt := by
  have h : 0 < lg_cmp x y ↔ ¬ lg_cmp x y ≤ 0 := by
    rw [i32_lt, i32_le]
    have : (0 : Int32).toInt = 0 := by decide
    omega
  rw [h, lgc_le]; omega
theorem toL (x : Int32) : x.toInt64.toInt = x.toInt := Int32.toInt_toInt64 x
/-- longs that stay small -/
theorem subL {x y : Int64} {B C : Int} (hx : -B ≤ x.toInt ∧ x.toInt ≤ B) (hy : -C ≤ y.toInt ∧ y.toInt ≤ C) (h : B + C < 9223372036854775808) : (x - y).toInt = x.toInt - y.toInt := fb_subL (by omega) (by omega)
theorem addL {x y : Int64} {B C : Int} (hx : -B ≤ x.toInt ∧ x.toInt ≤ B) (hy : -C ≤ y.toInt ∧ y.toInt ≤ C) (h : B + C < 9223372036854775808) : (x + y).toInt = x.toInt + y.toInt := fb_addL (by omega) (by omega)
theorem mul_bd {x y B C : Int} (hx : -B ≤ x ∧ x ≤ B) (hy : -C ≤ y ∧ y ≤ C) : -(B * C) ≤ x * y ∧ x * y ≤ B * C := by
  have hB : 0 ≤ B := by omega
  have hC : 0 ≤ C := by omega
  have h1 : x.natAbs ≤ B.natAbs := by omega
  have h2 : y.natAbs ≤ C.natAbs := by omega
  have h3 : (x * y).natAbs ≤ (B * C).natAbs := by
    rw [Int.natAbs_mul, Int.natAbs_mul]; exact Nat.mul_le_mul h1 h2
  have h4 : 0 ≤ B * C := Int.mul_nonneg hB hC
  omega
theorem mulL {x y : Int64} {B C : Int} (hx : -B ≤ x.toInt ∧ x.toInt ≤ B) (hy : -C ≤ y.toInt ∧ y.toInt ≤ C) (h : B * C < 9223372036854775808) : (x * y).toInt = x.toInt * y.toInt ∧ -(B * C) ≤ (x * y).toInt ∧ (x * y).toInt ≤ B * C := by
  have h1 := mul_bd hx hy
  have h2 : (x * y).toInt = x.toInt * y.toInt := fb_mulL (by omega) (by omega)
  rw [h2]; exact ⟨rfl, h1⟩
/-- euclid's steps, as the class counts them -/
theorem red_loop (a0 : Int32) : ∀ (k x y s fu : Nat), x < 2 ^ 31 → y < 2 ^ 31 → y < 2 ^ k → s + 2 * k ≤ 64 → 2 * k + 1 < fu → L_X3_reduced_7 a0 fu (nI x) (nI y) (nI s) = some (nI (Nat.gcd x y)) := by
  intro k
  induction k with
  | zero =>
    intro x y s fu hx hy hk hs hf
    obtain ⟨f, rfl⟩ : ∃ f, fu = f + 1 := ⟨fu - 1, by omega⟩
    have : y = 0 := by simpa using hk
    subst this
    rw [L_X3_reduced_7, Nat.gcd_zero_right]
    by_cases h : (64 : Int32) ≤ nI s
    · rw [if_pos h]
    · rw [if_neg h, if_pos (by decide)]
  | succ k ih =>
    intro x y s fu hx hy hk hs hf
    obtain ⟨f, rfl⟩ : ∃ f, fu = f + 1 + 1 := ⟨fu - 2, by omega⟩
    rw [L_X3_reduced_7, if_neg (by exact fun q => absurd ((nI_le_iff (a := 64) (by decide) (by omega)).mp q) (by omega))]
    by_cases h0 : y = 0
    · subst h0; rw [if_pos (by decide), Nat.gcd_zero_right]
    · rw [if_neg (by exact fun q => absurd ((nI_le_iff (b := 0) (by omega) (by decide)).mp q) (by omega)), if_pos (nI_ne0 (by omega) (by omega)), pk_rem hx (by omega) hy]
      show L_X3_reduced_7 a0 (f + 1) (nI y) (nI (x % y)) (nI s + 1) = _
      rw [nI_1, Nat.gcd_comm x y, Nat.gcd_rec y x, Nat.gcd_comm (x % y) y]
      have hr := Nat.mod_lt x (show 0 < y by omega)
      rw [L_X3_reduced_7, if_neg (by exact fun q => absurd ((nI_le_iff (a := 64) (by decide) (by omega)).mp q) (by omega))]
      by_cases h1 : x % y = 0
      · rw [h1, if_pos (by decide), Nat.gcd_zero_right]
      · rw [if_neg (by exact fun q => absurd ((nI_le_iff (b := 0) (by omega) (by decide)).mp q) (by omega)), if_pos (nI_ne0 (by omega) (by omega)), pk_rem hy (by omega) (by omega)]
        show L_X3_reduced_7 a0 f (nI (x % y)) (nI (y % (x % y))) (nI (s + 1) + 1) = _
        rw [nI_1, ih (x % y) (y % (x % y)) (s + 1 + 1) f (by omega) ?_ ?_ (by omega) (by omega), Nat.gcd_comm y (x % y), Nat.gcd_rec (x % y) y, Nat.gcd_comm]
        · have := Nat.mod_lt y (show 0 < x % y by omega); omega
        · have h2 := Nat.mod_lt y (show 0 < x % y by omega)
          have h3 := Nat.div_add_mod y (x % y)
          have h4 : 1 ≤ y / (x % y) := (Nat.one_le_div_iff (by omega)).mpr (by omega)
          have h5 : (x % y) * 1 ≤ (x % y) * (y / (x % y)) := Nat.mul_le_mul_left _ h4
          have h6 : y < 2 * 2 ^ k := by rw [Nat.pow_succ] at hk; omega
          omega
theorem s_reduced {p q : Nat} (hp : 0 < p) (hq : 0 < q) (hp2 : p < 2 ^ 31) (hq2 : q < 2 ^ 31) : F_X3_reduced (nI p) (nI q) = some (nI (p / Nat.gcd p q)) := by
  unfold F_X3_reduced
  rw [show (0 : Int32) = nI 0 from rfl, red_loop (nI p) 31 p q 0 FU hp2 hq2 hq2 (by omega) (by decide)]
  have hg : 0 < Nat.gcd p q := Nat.gcd_pos_of_pos_left q hp
  have hg2 : Nat.gcd p q ≤ p := Nat.gcd_le_left q hp
  simp only [Option.bind_some]
  by_cases h1 : Nat.gcd p q ≤ 1
  · rw [if_pos (show nI (Nat.gcd p q) ≤ (1 : Int32) from (nI_le_iff (b := 1) (by omega) (by decide)).mpr h1), show Nat.gcd p q = 1 by omega, Nat.div_one]
  · rw [if_neg (fun z : nI (Nat.gcd p q) ≤ (1 : Int32) => h1 ((nI_le_iff (b := 1) (by omega) (by decide)).mp z)), if_pos (show ¬ nI (Nat.gcd p q) = nI 0 from nI_ne0 hg (by omega)), pk_div hp2 hg (by omega)]
theorem gcd_time (t a b : Nat) : Nat.gcd (t * b + a) b = Nat.gcd a b := by
  rw [Nat.gcd_comm, Nat.gcd_rec, Nat.gcd_comm a b, Nat.gcd_rec b a]
  congr 1
  rw [Nat.mul_comm, Nat.mul_add_mod]
theorem div_time {t a b g : Nat} (hg : g = Nat.gcd a b) (h0 : 0 < g) : (t * b + a) / g = t * (b / g) + a / g := by
  have h1 : g ∣ b := by rw [hg]; exact Nat.gcd_dvd_right a b
  have h2 : g ∣ a := by rw [hg]; exact Nat.gcd_dvd_left a b
  obtain ⟨b', rfl⟩ := h1
  obtain ⟨a', rfl⟩ := h2
  have e : t * (g * b') + g * a' = g * (t * b' + a') := by
    rw [Nat.mul_add, ← Nat.mul_assoc, Nat.mul_comm t g, Nat.mul_assoc]
  rw [e, Nat.mul_div_cancel_left _ h0, Nat.mul_div_cancel_left _ h0, Nat.mul_div_cancel_left _ h0]
def up1 (z : Zf) (x : Nat) (v : Int32) : Zf := fun y => if y = x then v else z y
/-- a State's memory as one row -/
def zv (σ : Mem) (n : Nat) : Zf := fun x =>
  if x = 0 then σ n 5 else if x = 1 then σ n 6 else if x = 2 then σ n 7 else if x < 4 then 0 else if x < 19 then σ (n + 5) (x - 3) else if x < 20 then 0 else if x < 84 then σ (n + 1 + (x - 20) % 4) ((x - 20) / 4) else 0
theorem zv_0 (σ : Mem) (n : Nat) : zv σ n 0 = σ n 5 := rfl
theorem zv_1 (σ : Mem) (n : Nat) : zv σ n 1 = σ n 6 := rfl
theorem zv_2 (σ : Mem) (n : Nat) : zv σ n 2 = σ n 7 := rfl
theorem zv_t (σ : Mem) (n : Nat) {c : Nat} (h1 : 1 ≤ c) (h2 : c ≤ 15) : zv σ n (3 + c) = σ (n + 5) c := by
  unfold zv
  rw [if_neg (by omega), if_neg (by omega), if_neg (by omega), if_neg (by omega), if_pos (by omega), show 3 + c - 3 = c by omega]
theorem zv_s (σ : Mem) (n : Nat) {k j : Nat} (h1 : k < 16) (h2 : j < 4) : zv σ n (20 + 4 * k + j) = σ (n + 1 + j) k := by
  unfold zv
  rw [if_neg (by omega), if_neg (by omega), if_neg (by omega), if_neg (by omega), if_neg (by omega), if_neg (by omega), if_pos (by omega), show (20 + 4 * k + j - 20) % 4 = j by omega, show (20 + 4 * k + j - 20) / 4 = k by omega]
theorem zv_cong {σ σ' : Mem} {n n' : Nat} (h : ∀ j k, j ≤ 5 → σ' (n' + j) k = σ (n + j) k) : zv σ' n' = zv σ n := by
  funext x
  unfold zv
  have h0 : ∀ k, σ' n' k = σ n k := fun k => h 0 k (by omega)
  rw [h0, h0, h0, h 5 _ (by omega)]
  have e : ∀ a : Nat, n' + 1 + a = n' + (1 + a) := fun a => by omega
  have e2 : ∀ a : Nat, n + 1 + a = n + (1 + a) := fun a => by omega
  rw [e, e2]
  by_cases hx : x < 84
  · rw [h (1 + (x - 20) % 4) _ (by omega)]
  · simp only [hx, if_false]
/-- one cell written -/
theorem zv_up_s (σ : Mem) (n : Nat) {k j x : Nat} {v : Int32} (h1 : k < 16) (h2 : j < 4) (hx : x = n + 1 + j) : zv (up2 σ x k v) n = up1 (zv σ n) (20 + 4 * k + j) v := by
  subst hx
  funext x
  unfold zv up1 up2
  by_cases hx : x = 20 + 4 * k + j
  · subst hx
    rw [if_pos rfl, if_neg (by omega), if_neg (by omega), if_neg (by omega), if_neg (by omega), if_neg (by omega), if_neg (by omega), if_pos (by omega), if_pos ⟨by omega, by omega⟩]
  · rw [if_neg hx]
    have a0 : ¬ (n = n + 1 + j) := by omega
    have a1 : ¬ (n + 5 = n + 1 + j) := by omega
    simp only [a0, a1, false_and, if_false]
    by_cases hl : x < 20
    · simp only [hl, if_true]
    · by_cases hh : x < 84
      · have : ¬ (n + 1 + (x - 20) % 4 = n + 1 + j ∧ (x - 20) / 4 = k) := by omega
        rw [if_neg this]
      · simp only [hh, if_false]
theorem zv_up_t (σ : Mem) (n : Nat) {c x : Nat} {v : Int32} (h1 : 1 ≤ c) (h2 : c ≤ 15) (hx : x = n + 5) : zv (up2 σ x c v) n = up1 (zv σ n) (3 + c) v := by
  subst hx
  funext x
  unfold zv up1 up2
  by_cases hx : x = 3 + c
  · subst hx
    rw [if_pos rfl, if_neg (by omega), if_neg (by omega), if_neg (by omega), if_neg (by omega), if_pos (by omega), if_pos ⟨rfl, by omega⟩]
  · rw [if_neg hx]
    have a0 : ¬ (n = n + 5) := by omega
    simp only [a0, false_and, if_false]
    by_cases h4 : x < 4
    · simp only [h4, if_true]
    · by_cases hl : x < 19
      · have : ¬ (True ∧ x - 3 = c) := fun q => by have := q.2; omega
        simp only [hl, if_true, this, if_false]
      · have : ¬ (n + 1 + (x - 20) % 4 = n + 5 ∧ (x - 20) / 4 = c) := by omega
        simp only [hl, if_false, this]
theorem zv_up_f (σ : Mem) (n : Nat) {k : Nat} {v : Int32} (h : k < 3) : zv (up2 σ n (5 + k) v) n = up1 (zv σ n) k v := by
  funext x
  unfold zv up1 up2
  have a1 : ¬ (n + 5 = n) := by omega
  have a2 : ∀ y : Nat, ¬ (n + 1 + y = n) := fun y => by omega
  simp only [a1, a2, false_and, if_false, true_and]
  rcases (show k = 0 ∨ k = 1 ∨ k = 2 by omega) with rfl | rfl | rfl
  · by_cases h0 : x = 0
    · simp [h0]
    · simp [h0]
  · by_cases h0 : x = 0
    · simp [h0]
    · by_cases h1 : x = 1
      · simp [h1]
      · simp [h0, h1]
  · by_cases h0 : x = 0
    · simp [h0]
    · by_cases h1 : x = 1
      · simp [h1]
      · by_cases h2 : x = 2
        · simp [h2]
        · simp [h0, h1, h2]
theorem zv_else (σ : Mem) (n : Nat) {x k : Nat} {v : Int32} (h : ∀ j, j ≤ 5 → x ≠ n + j) : zv (up2 σ x k v) n = zv σ n := by
  refine zv_cong (fun j i hj => ?_)
  unfold up2
  rw [if_neg (fun q => h j hj q.1.symm)]
