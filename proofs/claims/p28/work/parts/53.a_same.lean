/-! same: a moment in lowest terms, so much later than now -/
theorem l_gcd (τ : LM) : ∀ (y x fu : Nat), x < 2 ^ 31 → y < 2 ^ 31 → y < fu → L_L_same_60 τ fu (nI x) (nI y) = some (nI (Nat.gcd x y)) := by
  intro y
  induction y using Nat.strongRecOn with
  | _ y ih =>
    intro x fu hx hy hf
    obtain ⟨f, rfl⟩ : ∃ f, fu = f + 1 := ⟨fu - 1, by omega⟩
    rw [L_L_same_60]
    by_cases h0 : y = 0
    · subst h0; rw [if_pos (show nI 0 = 0 from rfl), Nat.gcd_zero_right]
    · have hr := Nat.mod_lt x (show 0 < y by omega)
      rw [if_neg (nI_ne0 (by omega) hy), if_pos (nI_ne0 (by omega) hy), pk_rem hx (by omega) hy, ih (x % y) hr y f hy (by omega) (by omega), Nat.gcd_comm x y, Nat.gcd_rec y x, Nat.gcd_comm]
theorem l_same0 {τ : LM} {a b : Int64} (hb : b.toInt = 0) : F_L_same a b 0 0 τ = some 1 := by
  unfold F_L_same
  rw [if_neg (fun q : ¬ lg_cmp b 0 = 0 => q (lgc_eq.mpr (by rw [hb, L0])))]
  rw [if_neg (fun q : ¬ (0 : Int32) = 0 => q rfl), if_neg (fun q : ¬ (0 : Int32) = 0 => q rfl)]
theorem q_cop {z : Zf} {c r k : Nat} (hz : zOK z) (h1 : 1 ≤ c) (h2 : c ≤ 15) (h : ch z c r = some k) : Nat.gcd (qA z c r) (qB z c r) = 1 := by
  obtain ⟨b1, b2, b3, b4⟩ := row_bd hz h1 h2 h
  have hg : 0 < Nat.gcd (mA z c r).toNat (mB z c r).toNat := Nat.gcd_pos_of_pos_right _ (by omega)
  unfold qA qB
  rw [Nat.gcd_div (Nat.gcd_dvd_left _ _) (Nat.gcd_dvd_right _ _)]
  exact Nat.div_self hg
theorem w_num {z : Zf} {c r k : Nat} (hz : zOK z) (h1 : 1 ≤ c) (h2 : c ≤ 15) (h : ch z c r = some k) : wnum z c r (z 0) = nI ((z 0).toInt.toNat * qB z c r + qA z c r) ∧ wden z c r = nI (qB z c r) := by
  have ht := hz.2.2.2.2.1
  obtain ⟨t, htt, e⟩ := sm_nI (a := z 0) (N := 9999) (by omega)
  have e2 : (z 0).toInt.toNat = t := by rw [e, nI_toInt (by omega)]; omega
  unfold wnum wden
  rw [h, e2]
  refine ⟨?_, rfl⟩
  show z 0 * nI (qB z c r) + nI (qA z c r) = _
  rw [e, pk_mul, nI_add]
theorem l_same1 {τ : LM} {a b : Int64} {z : Zf} {c r k : Nat} (hz : zOK z) (hτ : τ.2.1 0 0 = z 0) (h1 : 1 ≤ c) (h2 : c ≤ 15) (h : ch z c r = some k) (ha : 0 ≤ a.toInt ∧ a.toInt ≤ 4000000) (hb : 1 ≤ b.toInt ∧ b.toInt ≤ 198) (e : a.toInt * mB z c r = mA z c r * b.toInt) : F_L_same a b (wnum z c r (z 0)) (wden z c r) τ = some 1 := by
  obtain ⟨g, g0, -, gA, gB, q0, qa, qb⟩ := q_mul hz h1 h2 h
  have ht := hz.2.2.2.2.1
  obtain ⟨wn, wd⟩ := w_num hz h1 h2 h
  rw [wn, wd]
  obtain ⟨t, hT⟩ : ∃ t, t = (z 0).toInt.toNat := ⟨_, rfl⟩
  rw [← hT]
  have htt : t ≤ 9999 := by omega
  have hz0 : (z 0).toInt = (t : Int) := by omega
  have hco := q_cop hz h1 h2 h
  generalize qA z c r = A at *
  generalize qB z c r = B at *
  have htB : t * B ≤ 9999 * 198 := Nat.mul_le_mul htt qb
  have eAB : a.toInt * (B : Int) = (A : Int) * b.toInt := by
    rw [gA, gB] at e
    rw [Int.natCast_mul, Int.natCast_mul] at e
    have e2 : (a.toInt * (B : Int)) * (g : Int) = ((A : Int) * b.toInt) * (g : Int) := by
      rw [Int.mul_assoc, Int.mul_comm (B : Int) (g : Int), e, Int.mul_assoc (g : Int), Int.mul_comm (g : Int)]
    exact Int.eq_of_mul_eq_mul_right (by omega) e2
  unfold F_L_same
  rw [if_pos (show ¬ lg_cmp b 0 = 0 from fun q => by have := lgc_eq.mp q; rw [L0] at this; omega), if_neg (show ¬ nI B < (1 : Int32) from fun q => by
    have := (nI_lt_iff (b := 1) (show B < 2 ^ 31 by omega) (by decide)).mp q; omega)]
  have p1 := mulL (x := (τ.2.1 0 0).toInt64) (y := b) (B := 9999) (C := 198) (by rw [toL, hτ]; omega) (by omega) (by decide)
  rw [toL, hτ, hz0] at p1
  have p2 := addL (x := (τ.2.1 0 0).toInt64 * b) (y := a) (B := 9999 * 198) (C := 4000000) (by rw [hτ]; exact p1.2) (by omega) (by decide)
  have p3 := (mulL (x := (τ.2.1 0 0).toInt64 * b + a) (y := (nI B).toInt64) (B := 9999 * 198 + 4000000) (C := 198) (by rw [p2, hτ]; have := p1.2; omega) (by rw [nI_L (by omega)]; omega) (by decide)).1
  have p4 := (mulL (x := (nI (t * B + A)).toInt64) (y := b) (B := 9999 * 198 + 4000000) (C := 198) (by rw [nI_L (by omega)]; omega) (by omega) (by decide)).1
  rw [nI_L (show B < 2 ^ 31 by omega), p2, hτ, p1.1] at p3
  rw [nI_L (show t * B + A < 2 ^ 31 by omega)] at p4
  have key : ((t : Int) * b.toInt + a.toInt) * (B : Int) = ((t * B + A : Nat) : Int) * b.toInt := by
    rw [Int.add_mul, eAB, Int.natCast_add, Int.natCast_mul, Int.add_mul, Int.mul_assoc, Int.mul_comm b.toInt, ← Int.mul_assoc]
  rw [if_pos (lgc_eq.mpr (by rw [hτ, p3, p4, key])), l_gcd τ B (t * B + A) FU (by omega) (by omega) (by show B < 1000; omega), Option.bind_some, gcd_time, hco]
  rfl
