/-! passToTurn, swap -/
theorem ceil_red {g a b : Nat} (hg : 0 < g) (hb : 0 < b) : (g * a + g * b - 1) / (g * b) = (a + b - 1) / b := by
  have h1 := Nat.div_mul_le_self (a + b - 1) b
  have h2 : a + b - 1 < ((a + b - 1) / b + 1) * b := by
    have := Nat.lt_div_mul_add hb (a := a + b - 1)
    rw [Nat.add_mul, Nat.one_mul]; exact this
  generalize (a + b - 1) / b = q at h1 h2 ⊢
  have e1 : q * (g * b) = g * (q * b) := by rw [Nat.mul_left_comm]
  have e2 : (q + 1) * (g * b) = g * ((q + 1) * b) := by rw [Nat.mul_left_comm]
  have e3 : g * a + g * b = g * (a + b) := (Nat.mul_add g a b).symm
  refine Nat.div_eq_of_lt_le ?_ ?_
  · rw [e1, e3]
    have : g * (q * b) ≤ g * (a + b - 1) := Nat.mul_le_mul_left g h1
    have e4 : g * (a + b - 1) = g * (a + b) - g := by rw [Nat.mul_sub, Nat.mul_one]
    omega
  · rw [e2, e3]
    have : g * (a + b) ≤ g * ((q + 1) * b) := Nat.mul_le_mul_left g (by omega)
    have : 0 < g * (a + b) := Nat.mul_pos hg (by omega)
    omega
theorem o_passToTurn {σ : Mem} {τ : Mem × Int64} (R : Rel σ τ) : ∃ res v τ', F_X3_passToTurn σ = some res ∧ F_X4_passToTurn τ = some (v, τ') ∧ AgM [(1, 1)] res σ τ v τ' := by
  have hz := R.zm
  have hzz : mz (t0 τ) = zv σ 6 := by rw [t0_mz, ← R.1]
  have ht0 := R.2.1.1.2.2.2.2.1
  obtain ⟨τ1, n, e, ⟨K, h13, h12, hAB⟩, -⟩ := m_layFirst hz
  obtain ⟨K5, h5⟩ := t0_Keep K
  have hef : efF (mz (t0 τ)) 15 1 none = ef (zv σ 6) := by rw [hzz]; rfl
  rw [hef] at h13 hAB
  rw [hzz] at hAB
  have hfail : ∃ τ', F_X4_fails 1 τ1 = some (0, τ') ∧ Keep5 τ τ' ∧ τ'.1 0 5 = 1 := by
    obtain ⟨k1, k2, k3, k4, k5⟩ := K5
    refine ⟨(up2 τ1.1 0 5 1, τ1.2), rfl, ⟨?_, ?_, ?_, ?_, ?_⟩, by unfold up2; simp⟩
    · exact (up2_ne τ1.1 (x := 0) (y := 1) (k := 5) (v := 1) (by omega)).trans k1
    · exact (up2_ne τ1.1 (x := 0) (y := 2) (k := 5) (v := 1) (by omega)).trans k2
    · exact (up2_ne τ1.1 (x := 0) (y := 3) (k := 5) (v := 1) (by omega)).trans k3
    · show (up2 τ1.1 0 5 1) 0 2 = _
      unfold up2; rw [if_neg (by omega)]; exact k4
    · show (up2 τ1.1 0 5 1) 0 4 = _
      unfold up2; rw [if_neg (by omega)]; exact k5
  unfold F_X4_passToTurn F_X3_passToTurn
  rw [show (up2 τ.1 0 5 (0 : Int32), τ.2) = t0 τ from rfl, e, Option.bind_some, s_first R.2.1, Option.bind_some, h13]
  cases he : ef (zv σ 6) with
  | none =>
    obtain ⟨τ', f1, f2, f3⟩ := hfail
    refine ⟨.inl 1, 0, τ', by rw [if_neg (fun q : ¬ enc none = -1 => q rfl)], by rw [if_pos (show enc none = -1 from rfl), f1]; rfl, ?_, f2.rel R⟩
    rw [f3]; exact List.mem_cons_self ..
  | some g =>
    obtain ⟨g1, g2, k, g3⟩ := ef_ok he
    rw [he] at hAB
    have hAB : τ1.1 0 10 = nI (mA (zv σ 6) g 1).toNat ∧ τ1.1 0 11 = nI (mB (zv σ 6) g 1).toNat := hAB
    obtain ⟨hA, hB⟩ := hAB
    obtain ⟨b1, b2, b3, b4⟩ := turn_bd (r := 0) R.2.1.1 g1 g2 g3
    rw [Nat.zero_add] at b1 b2 b3 b4
    obtain ⟨x, x0, -, xa, xb, x1, x2, x3⟩ := q_mul R.2.1.1 g1 g2 g3
    have hne : ¬ enc (some g) = -1 := nI_ne_m1 (by omega)
    have hq : ((mA (zv σ 6) g 1).toNat + (mB (zv σ 6) g 1).toNat - 1) / (mB (zv σ 6) g 1).toNat = (qA (zv σ 6) g 1 + qB (zv σ 6) g 1 - 1) / qB (zv σ 6) g 1 := by
      rw [xa, xb, Int.toNat_natCast, Int.toNat_natCast]
      exact ceil_red x0 x1
    have hle : ((mA (zv σ 6) g 1).toNat + (mB (zv σ 6) g 1).toNat - 1) / (mB (zv σ 6) g 1).toNat ≤ 4000198 := Nat.le_trans (Nat.div_le_self _ _) (by omega)
    have hdv : ∀ A B : Nat, 0 < B → A ≤ 4000000 → B ≤ 198 → ((nI A + nI B) - (1 : Int32)) / nI B = nI ((A + B - 1) / B) := fun A B h0 hA hB => by
      rw [nI_add, show nI (A + B) - (1 : Int32) = nI (A + B - 1) from pk_sub (b := 1) (by omega), pk_div (by omega) h0 (by omega)]
    have hc : F_X0_wholeUnitsTo (44 + 4 * g) (1 : Int32) σ = some (nI ((qA (zv σ 6) g 1 + qB (zv σ 6) g 1 - 1) / qB (zv σ 6) g 1)) := by
      unfold F_X0_wholeUnitsTo
      have hC := R.2.1.2 g g1 g2
      have w1 : wden (zv σ 6) g 1 = nI (qB (zv σ 6) g 1) := by unfold wden; rw [g3]
      have w2 : wnum (zv σ 6) g 1 0 = nI (qA (zv σ 6) g 1) := by unfold wnum; rw [g3]; simp
      rw [show (1 : Int32) = nI 1 from rfl, s_den hC (by omega), Option.bind_some, w1, if_pos ((nI_le_iff (by omega) (by omega)).mpr (by omega)), s_num hC (by omega), Option.bind_some, w2, if_pos (show ¬ nI (qB (zv σ 6) g 1) = 0 from fun q => absurd ((nI_eq_iff (a := qB (zv σ 6) g 1) (b := 0) (by omega) (by omega)).mp q) (by omega)), show nI 1 = (1 : Int32) from rfl, hdv _ _ x1 x2 x3]
    rw [if_pos hne, if_neg hne, show enc (some g) = nI g from rfl, s_courseOf g1 g2, Option.bind_some, hc, Option.bind_some, ← hq, hA, hB]
    have hBn : ¬ nI (mB (zv σ 6) g 1).toNat = 0 := fun q => absurd ((nI_eq_iff (a := (mB (zv σ 6) g 1).toNat) (b := 0) (by omega) (by omega)).mp q) (by omega)
    rw [if_pos hBn, hdv _ _ (by omega) (by omega) (by omega)]
    generalize hqq : ((mA (zv σ 6) g 1).toNat + (mB (zv σ 6) g 1).toNat - 1) / (mB (zv σ 6) g 1).toNat = Q at hle
    have tq : (nI Q).toInt = (Q : Int) := nI_toInt (by omega)
    have e10 : τ1.1 1 0 = zv σ 6 0 := by rw [← hzz, ← mz_lo (t0 τ) (k := 0) (by omega) |>.symm, K.1]
    have s1 : (zv σ 6 0 + nI Q).toInt = (zv σ 6 0).toInt + Q := by rw [fb_addI, tq] <;> rw [tq] <;> omega
    have s2 : ((9999 : Int32) - σ 6 5).toInt = 9999 - (zv σ 6 0).toInt := by
      have e99 : (9999 : Int32).toInt = 9999 := by decide
      rw [fb_subI (by rw [e99]; show _ ≤ 9999 - (zv σ 6 0).toInt; omega) (by rw [e99]; show 9999 - (zv σ 6 0).toInt < _; omega), e99]; rfl
    have e99 : (9999 : Int32).toInt = 9999 := by decide
    rw [e10]
    by_cases hl : (zv σ 6 0).toInt + Q ≤ 9999
    · obtain ⟨v, σ', τ2, τ', p1, p2, p3, p4, p5, p6⟩ := pass_ok R.2.1 (R.rs.k5 K5) (b := nI Q) (by rw [tq]; omega) (by rw [tq]; exact hl)
      rw [if_pos (by rw [i32_le, tq, s2]; omega), if_pos (by rw [i32_le, s1, e99]; exact hl)]
      refine ⟨.inr (v, σ'), v, τ', by rw [p1]; rfl, ?_, ?_, rfl, p5⟩
      · rw [p2, Option.bind_some, p3.2.1 11 (by omega), p3.2.1 10 (by omega), hA, hB, if_pos hBn, hdv _ _ (by omega) (by omega) (by omega), hqq, p4]; rfl
      · rw [p6]; exact h5
    · obtain ⟨τ', f1, f2, f3⟩ := hfail
      refine ⟨.inl 1, 0, τ', by rw [if_neg (fun q => hl (by rw [i32_le, tq, s2] at q; omega))], by rw [if_neg (fun q => hl (by rw [i32_le, s1, e99] at q; exact q)), f1]; rfl, ?_, f2.rel R⟩
      rw [f3]; exact List.mem_cons_self ..
/-! swap -/
def sx (z : Zf) (i j o : Nat) : Zf := up1 (up1 z (20 + 4 * i + o) (z (20 + 4 * j + o))) (20 + 4 * j + o) (z (20 + 4 * i + o))
def pi (i j k : Nat) : Nat := if k = j then i else if k = i then j else k
theorem sx_ne {z : Zf} {i j o k o' : Nat} (h : o' ≠ o) (ho : o < 4) (ho' : o' < 4) : sx z i j o (20 + 4 * k + o') = z (20 + 4 * k + o') := by
  unfold sx up1; rw [if_neg (by omega), if_neg (by omega)]
theorem sx_lo {z : Zf} {i j o x : Nat} (h : x < 20) : sx z i j o x = z x := by
  unfold sx up1; rw [if_neg (by omega), if_neg (by omega)]
theorem sx_eq {z : Zf} {i j o k : Nat} : sx z i j o (20 + 4 * k + o) = z (20 + 4 * (pi i j k) + o) := by
  unfold sx up1 pi
  by_cases h1 : k = j
  · rw [if_pos (by omega), if_pos h1]
  · rw [if_neg (by omega), if_neg h1]
    by_cases h2 : k = i
    · rw [if_pos (by omega), if_pos h2]
    · rw [if_neg (by omega), if_neg h2]
theorem sx_comm {z : Zf} {i j o : Nat} : up1 (up1 z (20 + 4 * j + o) (z (20 + 4 * i + o))) (20 + 4 * i + o) (z (20 + 4 * j + o)) = sx z i j o := by
  funext x
  unfold sx up1
  by_cases h1 : x = 20 + 4 * i + o
  · by_cases h2 : x = 20 + 4 * j + o
    · have : i = j := by omega
      subst this
      simp [h1]
    · rw [if_pos h1, if_neg h2, if_pos h1]
  · rw [if_neg h1]
    by_cases h2 : x = 20 + 4 * j + o
    · rw [if_pos h2, if_pos h2]
    · rw [if_neg h2, if_neg h2, if_neg h1]
def sxA (z : Zf) (i j : Nat) : Zf := sx (sx (sx (sx z i j 0) i j 1) i j 2) i j 3
theorem sxA_at {z : Zf} {i j k o : Nat} (ho : o < 4) : sxA z i j (20 + 4 * k + o) = z (20 + 4 * (pi i j k) + o) := by
  unfold sxA
  rcases (show o = 0 ∨ o = 1 ∨ o = 2 ∨ o = 3 by omega) with rfl | rfl | rfl | rfl
  · rw [sx_ne (by omega) (by omega) (by omega), sx_ne (by omega) (by omega) (by omega), sx_ne (by omega) (by omega) (by omega), sx_eq]
  · rw [sx_ne (by omega) (by omega) (by omega), sx_ne (by omega) (by omega) (by omega), sx_eq, sx_ne (by omega) (by omega) (by omega)]
  · rw [sx_ne (by omega) (by omega) (by omega), sx_eq, sx_ne (by omega) (by omega) (by omega), sx_ne (by omega) (by omega) (by omega)]
  · rw [sx_eq, sx_ne (by omega) (by omega) (by omega), sx_ne (by omega) (by omega) (by omega), sx_ne (by omega) (by omega) (by omega)]
theorem sxA_ok {z : Zf} {i j : Nat} (hz : zOK z) (hi : i < 16) (hj : j < 16) : zOK (sxA z i j) := by
  have hl : ∀ x, x < 20 → sxA z i j x = z x := fun x hx => by unfold sxA; rw [sx_lo hx, sx_lo hx, sx_lo hx, sx_lo hx]
  have hp : ∀ k, k < 16 → pi i j k < 16 := fun k hk => by unfold pi; split <;> (try split) <;> omega
  refine ⟨fun k hk => ?_, fun k hk => ?_, fun k hk => ?_, ?_, ?_, ?_⟩
  · have := sxA_at (z := z) (i := i) (j := j) (k := k) (o := 0) (by omega)
    rw [Nat.add_zero, Nat.add_zero] at this
    rw [this]; exact hz.1 _ (hp k hk)
  · unfold vv; rw [hl 0 (by omega), sxA_at (by omega)]; exact hz.2.1 _ (hp k hk)
  · unfold sp; rw [sxA_at (by omega)]; exact hz.2.2.1 _ (hp k hk)
  · rw [hl 1 (by omega)]; exact hz.2.2.2.1
  · rw [hl 0 (by omega)]; exact hz.2.2.2.2.1
  · rw [hl 2 (by omega)]; exact hz.2.2.2.2.2
theorem s_exIn {σ : Mem} {i j o : Nat} (hi : i < 16) (hj : j < 16) (h1 : 1 ≤ o) (h4 : o < 4) : ∃ σ', F_X1_exchangeIn (6 + 1 + o) (nI i) (nI j) σ = some σ' ∧ zv σ' 6 = sx (zv σ 6) i j o ∧ ∀ x, x < 6 ∨ 12 ≤ x → σ' x = σ x := by
  have w : ∀ k, k < 16 → F_X3_isWithin (nI k) (0 : Int32) ((16 : Int32) - (1 : Int32)) = some 1 := fun k hk => by
    rw [s_within, decide_eq_true]
    · rfl
    · rw [nI_toInt (by omega), show (0 : Int32).toInt = 0 from by decide, show ((16 : Int32) - (1 : Int32)).toInt = 15 from by decide]; omega
  have ii : inb (nI i) 16 = true := inb_nI hi (by decide)
  have ij : inb (nI j) 16 = true := inb_nI hj (by decide)
  refine ⟨up2 (up2 σ (6 + 1 + o) j (σ (6 + 1 + o) i)) (6 + 1 + o) i (σ (6 + 1 + o) j), ?_, ?_, fun x hx => ?_⟩
  · unfold F_X1_exchangeIn
    rw [w i hi, Option.bind_some, if_neg (by decide), w j hj, Option.bind_some, if_neg (by decide), if_pos ij, if_pos ii, if_pos ij, if_pos ii, nI_clamp (by omega), nI_clamp (by omega)]
  · rw [zv_up_s _ 6 (k := i) (j := o) hi h4 rfl, zv_up_s _ 6 (k := j) (j := o) hj h4 rfl, ← zv_s σ 6 hi h4, ← zv_s σ 6 hj h4]
    exact sx_comm
  · rw [up2_ne _ (x := 6 + 1 + o) (y := x) (by omega), up2_ne _ (x := 6 + 1 + o) (y := x) (by omega)]
theorem s_exchange {σ : Mem} {i j : Nat} (hz : zOK (zv σ 6)) (hi : i < 16) (hj : j < 16) : ∃ σ', F_X1_exchange 6 (nI i) (nI j) σ = some σ' ∧ zv σ' 6 = sxA (zv σ 6) i j ∧ ∀ x, x < 6 ∨ 12 ≤ x → σ' x = σ x := by
  have ii : inb (nI i) 16 = true := inb_nI hi (by decide)
  have ij : inb (nI j) 16 = true := inb_nI hj (by decide)
  have t1 : vp_nar .boolean (σ (6 + 1) i) = σ 7 i := by rw [tk_n0 hz hi, nar_b]
  have t2 : vp_nar .boolean (σ (6 + 1) j) = σ 7 j := by rw [tk_n0 hz hj, nar_b]
  obtain ⟨σ0, h0⟩ : ∃ m : Mem, m = up2 (up2 σ 7 j (σ 7 i)) 7 i (σ 7 j) := ⟨_, rfl⟩
  have z0 : zv σ0 6 = sx (zv σ 6) i j 0 := by
    have q1 := zv_s σ 6 hi (j := 0) (by omega)
    have q2 := zv_s σ 6 hj (j := 0) (by omega)
    rw [h0, zv_up_s _ 6 (k := i) (j := 0) hi (by omega) rfl, zv_up_s _ 6 (k := j) (j := 0) hj (by omega) rfl]
    rw [show σ 7 i = zv σ 6 (20 + 4 * i + 0) from q1.symm, show σ 7 j = zv σ 6 (20 + 4 * j + 0) from q2.symm]
    exact sx_comm
  have f0 : ∀ x, x < 6 ∨ 12 ≤ x → σ0 x = σ x := fun x hx => by
    rw [h0, up2_ne _ (x := 7) (y := x) (by omega), up2_ne _ (x := 7) (y := x) (by omega)]
  obtain ⟨σ1, a1, z1, f1⟩ := s_exIn (σ := σ0) (o := 1) hi hj (by omega) (by omega)
  obtain ⟨σ2, a2, z2, f2⟩ := s_exIn (σ := σ1) (o := 2) hi hj (by omega) (by omega)
  obtain ⟨σ3, a3, z3, f3⟩ := s_exIn (σ := σ2) (o := 3) hi hj (by omega) (by omega)
  refine ⟨σ3, ?_, by rw [z3, z2, z1, z0]; rfl, fun x hx => by rw [f3 x hx, f2 x hx, f1 x hx, f0 x hx]⟩
  unfold F_X1_exchange
  rw [s_isSlotN hi, Option.bind_some, if_neg (by decide), s_isSlotN hj, Option.bind_some, if_pos (by decide), if_pos ij, if_pos ii, if_pos ij, if_pos ii, nI_clamp (by omega), nI_clamp (by omega), t1, t2]
  show Option.bind (F_X1_exchangeIn (6 + 1 + 1) (nI i) (nI j) (up2 (up2 σ 7 j (σ 7 i)) 7 i (σ 7 j))) _ = _
  rw [← h0, a1, Option.bind_some]
  show Option.bind (F_X1_exchangeIn (6 + 1 + 2) (nI i) (nI j) σ1) _ = _
  rw [a2, Option.bind_some]
  show Option.bind (F_X1_exchangeIn (6 + 1 + 3) (nI i) (nI j) σ2) _ = _
  rw [a3]; rfl
theorem m_sx (τ : Mem × Int64) {i j o : Nat} (hi : i < 16) (hj : j < 16) (ho : o < 4) : mz (up2 (up2 τ.1 1 (20 + 4 * i + o) (τ.1 1 (20 + 4 * j + o))) 1 (20 + 4 * j + o) (τ.1 1 (20 + 4 * i + o)), τ.2) = sx (mz τ) i j o := by
  have h1 := mz_up (up2 τ.1 1 (20 + 4 * i + o) (τ.1 1 (20 + 4 * j + o)), τ.2) (k := j) (j := o) (v := τ.1 1 (20 + 4 * i + o)) hj ho
  have h0 := mz_up τ (k := i) (j := o) (v := τ.1 1 (20 + 4 * j + o)) hi ho
  refine h1.trans ?_
  rw [h0, ← mz_s τ hi ho, ← mz_s τ hj ho]; rfl
theorem m_exchange {τ : Mem × Int64} {i j : Nat} (hi : i < 16) (hj : j < 16) (fu : Nat) : ∃ τ', L_X4_swap_62 (nI i) (nI j) (fu + 5) 0 τ = some τ' ∧ mz τ' = sxA (mz τ) i j ∧ Off1 τ τ' ∧ τ'.2 = τ.2 := by
  have step : ∀ (o fu : Nat) (τ : Mem × Int64), o < 4 → ∃ τ', L_X4_swap_62 (nI i) (nI j) (fu + 1) (nI o) τ = L_X4_swap_62 (nI i) (nI j) fu (nI (o + 1)) τ' ∧ mz τ' = sx (mz τ) i j o ∧ Off1 τ τ' ∧ τ'.2 = τ.2 := by
    intro o fu τ ho
    have xi := m_idx hi ho
    have xj := m_idx hj ho
    refine ⟨(up2 (up2 τ.1 1 (20 + 4 * i + o) (τ.1 1 (20 + 4 * j + o))) 1 (20 + 4 * j + o) (τ.1 1 (20 + 4 * i + o)), τ.2), ?_, m_sx τ hi hj ho, fun x hx => ?_, rfl⟩
    · rw [L_X4_swap_62, if_neg (fun q : (4 : Int32) ≤ nI o => absurd ((nI_le_iff (a := 4) (by omega) (by omega)).mp q) (by omega))]
      simp only [m_at, Option.bind_some, xi.1, xi.2, xj.1, xj.2, if_true]
      rw [show nI o + (1 : Int32) = nI (o + 1) from nI_1 o]
    · show (up2 (up2 τ.1 1 _ _) 1 _ _) x = _
      rw [up2_ne _ (x := 1) (y := x) hx, up2_ne _ (x := 1) (y := x) hx]
  obtain ⟨τ1, e1, z1, o1, p1⟩ := step 0 (fu + 4) τ (by omega)
  obtain ⟨τ2, e2, z2, o2, p2⟩ := step 1 (fu + 3) τ1 (by omega)
  obtain ⟨τ3, e3, z3, o3, p3⟩ := step 2 (fu + 2) τ2 (by omega)
  obtain ⟨τ4, e4, z4, o4, p4⟩ := step 3 (fu + 1) τ3 (by omega)
  refine ⟨τ4, ?_, by rw [z4, z3, z2, z1]; rfl, fun x hx => by rw [o4 x hx, o3 x hx, o2 x hx, o1 x hx], by rw [p4, p3, p2, p1]⟩
  show L_X4_swap_62 (nI i) (nI j) (fu + 4 + 1) (nI 0) τ = _
  rw [e1, e2, e3, e4, L_X4_swap_62, if_pos (by decide)]
theorem CA.fr {σ σ' : Mem} (h : CA σ) (e : ∀ x, x ≠ 3 → σ' x = σ x) : CA σ' := by
  have hz : zv σ' 6 = zv σ 6 := zv_cong (fun j k hj => by rw [e _ (by omega)])
  exact ⟨by rw [hz]; exact h.1, fun c c1 c2 => by rw [hz]; exact (h.2 c c1 c2).fr (fun j hj => e _ (by omega))⟩
theorem s_won {σ : Mem} {a b : Int32} (C : CA σ) : ∃ σ', L_X3_swap_30 a b FU 1 σ = some σ' ∧ (∀ x, x ≠ 3 → σ' x = σ x) ∧ ∀ c, 1 ≤ c → c ≤ 15 → σ' 3 c = enc (ch (zv σ 6) c 0) := by
  have key : ∀ (m k fu : Nat) (σ1 : Mem), k + m = 16 → 1 ≤ k → m < fu → (∀ x, x ≠ 3 → σ1 x = σ x) → (∀ c, 1 ≤ c → c < k → σ1 3 c = enc (ch (zv σ 6) c 0)) → ∃ σ', L_X3_swap_30 a b fu (nI k) σ1 = some σ' ∧ (∀ x, x ≠ 3 → σ' x = σ x) ∧ ∀ c, 1 ≤ c → c ≤ 15 → σ' 3 c = enc (ch (zv σ 6) c 0) := by
    intro m
    induction m with
    | zero =>
      intro k fu σ1 hk h1 hf ho hc
      obtain ⟨f, rfl⟩ : ∃ f, fu = f + 1 := ⟨fu - 1, by omega⟩
      have : k = 16 := by omega
      subst this
      exact ⟨σ1, by rw [L_X3_swap_30, if_pos c16], ho, fun c c1 c2 => hc c c1 (by omega)⟩
    | succ m ih =>
      intro k fu σ1 hk h1 hf ho hc
      obtain ⟨f, rfl⟩ : ∃ f, fu = f + 1 := ⟨fu - 1, by omega⟩
      have C1 := C.fr ho
      have z1 : zv σ1 6 = zv σ 6 := zv_cong (fun j k hj => by rw [ho _ (by omega)])
      rw [L_X3_swap_30, if_neg (c15 (by omega)), s_winnerOf C1 h1 (by omega), Option.bind_some, if_pos (inb_nI (by omega) (by decide)), nI_clamp (by omega), show nI k + (1 : Int32) = nI (k + 1) from nI_1 k, z1]
      refine ih (k + 1) f _ (by omega) (by omega) (by omega) (fun x hx => by rw [up2_ne σ1 (x := 3) (y := x) hx]; exact ho x hx) (fun c c1 c2 => ?_)
      unfold up2
      by_cases q : c = k
      · rw [if_pos ⟨rfl, q⟩, q]
      · rw [if_neg (fun w => q w.2)]; exact hc c c1 (by omega)
  exact key 15 1 FU σ rfl (by omega) (by decide) (fun _ _ => rfl) (fun c c1 c2 => by omega)
theorem m_won {τ : Mem × Int64} {a b : Int32} (hz : zOK (mz τ)) : ∃ τ', L_X4_swap_37 a b FU 1 τ = some τ' ∧ (∀ x, x ≠ 4 → τ'.1 x = τ.1 x) ∧ τ'.2 = τ.2 ∧ ∀ c, 1 ≤ c → c ≤ 15 → τ'.1 4 c = enc (ch (mz τ) c 0) := by
  have key : ∀ (m k fu : Nat) (τ1 : Mem × Int64), k + m = 16 → 1 ≤ k → m < fu → (∀ x, x ≠ 4 → τ1.1 x = τ.1 x) → τ1.2 = τ.2 → (∀ c, 1 ≤ c → c < k → τ1.1 4 c = enc (ch (mz τ) c 0)) → ∃ τ', L_X4_swap_37 a b fu (nI k) τ1 = some τ' ∧ (∀ x, x ≠ 4 → τ'.1 x = τ.1 x) ∧ τ'.2 = τ.2 ∧ ∀ c, 1 ≤ c → c ≤ 15 → τ'.1 4 c = enc (ch (mz τ) c 0) := by
    intro m
    induction m with
    | zero =>
      intro k fu τ1 hk h1 hf ho h2 hc
      obtain ⟨f, rfl⟩ : ∃ f, fu = f + 1 := ⟨fu - 1, by omega⟩
      have : k = 16 := by omega
      subst this
      exact ⟨τ1, by rw [L_X4_swap_37, if_pos c16], ho, h2, fun c c1 c2 => hc c c1 (by omega)⟩
    | succ m ih =>
      intro k fu τ1 hk h1 hf ho h2 hc
      obtain ⟨f, rfl⟩ : ∃ f, fu = f + 1 := ⟨fu - 1, by omega⟩
      have z1 : mz τ1 = mz τ := mz_cong (ho 1 (by omega))
      rw [L_X4_swap_37, if_neg (c15 (by omega)), m_winnerOf (by rw [z1]; exact hz) h1 (by omega), Option.bind_some, if_pos (inb_nI (by omega) (by decide)), nI_clamp (by omega), show nI k + (1 : Int32) = nI (k + 1) from nI_1 k, z1]
      refine ih (k + 1) f (up2 τ1.1 4 k (enc (ch (mz τ) k 0)), τ1.2) (by omega) (by omega) (by omega) (fun x hx => by
        show (up2 τ1.1 4 k _) x = _
        rw [up2_ne τ1.1 (x := 4) (y := x) hx]; exact ho x hx) h2 (fun c c1 c2 => ?_)
      show (up2 τ1.1 4 k _) 4 c = _
      unfold up2
      by_cases q : c = k
      · rw [if_pos ⟨rfl, q⟩, q]
      · rw [if_neg (fun w => q w.2)]; exact hc c c1 (by omega)
  exact key 15 1 FU τ rfl (by omega) (by decide) (fun _ _ => rfl) rfl (fun c c1 c2 => by omega)
def mp (a b x : Int32) : Int32 := if ¬ x = a then (if ¬ x = b then x else a) else b
theorem mp_inv (a b x : Int32) : mp a b (mp a b x) = x := by
  unfold mp
  by_cases h1 : x = a
  · by_cases h3 : b = a
    · simp [h1, h3]
    · simp [h1, h3]
  · by_cases h2 : x = b
    · simp [h1, h2]
    · simp [h1, h2]
theorem mp_sym (a b x y : Int32) : x = mp a b y ↔ mp a b x = y := by
  constructor
  · intro h; rw [h, mp_inv]
  · intro h; rw [← h, mp_inv]
def swP (z z' : Zf) (a b : Int32) (c : Nat) : Bool := decide (1 ≤ c) && !decide (enc (ch z' c 0) = mp a b (enc (ch z c 0)))
theorem s_changed {σ : Mem} {z : Zf} {a b : Int32} (C : CA σ) (h3 : ∀ c, 1 ≤ c → c ≤ 15 → σ 3 c = enc (ch z c 0)) : L_X3_swap_71 a b σ FU 0 1 = some (nI (fb_ct (swP z (zv σ 6) a b) 16)) := by
  obtain ⟨r, e, rfl⟩ := lp_inv (L := L_X3_swap_71 a b σ) 16 (fun k v => 1 ≤ k ∧ v = nI (fb_ct (swP z (zv σ 6) a b) k)) (fun v => v = nI (fb_ct (swP z (zv σ 6) a b) 16))
    (fun fu k v hk hv => by
      obtain ⟨h1, rfl⟩ := hv
      refine ⟨_, ?_, by omega, rfl⟩
      rw [L_X3_swap_71, if_neg (c15 (by omega)), if_pos (inb_nI (by omega) (by decide)), nI_clamp (by omega), h3 k h1 (by omega), s_winnerOf C h1 (by omega), show nI k + (1 : Int32) = nI (k + 1) from nI_1 k, ← ct_up (swP z (zv σ 6) a b) k]
      have hm : (if ¬ enc (ch z k 0) = a then (if ¬ enc (ch z k 0) = b then some (enc (ch z k 0)) else some a) else some b) = some (mp a b (enc (ch z k 0))) := by
        unfold mp; split
        · split <;> rfl
        · rfl
      rw [hm, Option.bind_some, Option.bind_some]
      unfold swP
      by_cases q : enc (ch (zv σ 6) k 0) = mp a b (enc (ch z k 0))
      · rw [if_pos q, Option.bind_some]; simp [q, ad0]
      · rw [if_neg q, Option.bind_some]; simp [q, h1]; rfl)
    (fun fu v hv => ⟨v, by rw [L_X3_swap_71, if_pos c16], hv.2⟩) 15 1 FU 0 rfl (by decide) ⟨by omega, by simp [fb_ct, swP]; rfl⟩
  exact e
theorem m_changed {τ : Mem × Int64} {z : Zf} {a b : Int32} (hz : zOK (mz τ)) (h4 : ∀ c, 1 ≤ c → c ≤ 15 → τ.1 4 c = enc (ch z c 0)) : L_X4_swap_126 a b τ FU 0 1 = some (nI (fb_ct (swP z (mz τ) a b) 16)) := by
  obtain ⟨r, e, rfl⟩ := lp_inv (L := L_X4_swap_126 a b τ) 16 (fun k v => 1 ≤ k ∧ v = nI (fb_ct (swP z (mz τ) a b) k)) (fun v => v = nI (fb_ct (swP z (mz τ) a b) 16))
    (fun fu k v hk hv => by
      obtain ⟨h1, rfl⟩ := hv
      refine ⟨_, ?_, by omega, rfl⟩
      rw [L_X4_swap_126, if_neg (c15 (by omega)), m_winnerOf hz h1 (by omega), Option.bind_some, show nI k + (1 : Int32) = nI (k + 1) from nI_1 k, ← ct_up (swP z (mz τ) a b) k]
      have hm : (if ¬ enc (ch (mz τ) k 0) = a then (if ¬ enc (ch (mz τ) k 0) = b then some (enc (ch (mz τ) k 0)) else some a) else some b) = some (mp a b (enc (ch (mz τ) k 0))) := by
        unfold mp; split
        · split <;> rfl
        · rfl
      rw [hm, Option.bind_some, if_pos (inb_nI (by omega) (by decide)), nI_clamp (by omega), h4 k h1 (by omega)]
      have hs := mp_sym a b (enc (ch (mz τ) k 0)) (enc (ch z k 0))
      by_cases q : mp a b (enc (ch (mz τ) k 0)) = enc (ch z k 0)
      · have e : swP z (mz τ) a b k = false := by unfold swP; rw [decide_eq_true (hs.mpr q)]; simp
        rw [if_pos q, Option.bind_some, e, ad0, ad00]
      · have q' : ¬ enc (ch (mz τ) k 0) = mp a b (enc (ch z k 0)) := fun w => q (hs.mp w)
        have e : swP z (mz τ) a b k = true := by unfold swP; rw [decide_eq_true h1, decide_eq_false q']; rfl
        rw [if_neg q, Option.bind_some, e]; rfl)
    (fun fu v hv => ⟨v, by rw [L_X4_swap_126, if_pos c16], hv.2⟩) 15 1 FU 0 rfl (by decide) ⟨by omega, by simp [fb_ct, swP]; rfl⟩
  exact e
theorem o_swap {σ : Mem} {τ : Mem × Int64} (R : Rel σ τ) (a b : Int32) : ∃ res v τ', F_X3_swap a b σ = some res ∧ F_X4_swap a b τ = some (v, τ') ∧ AgM [(2, 1)] res σ τ v τ' := by
  have hzz : mz (t0 τ) = zv σ 6 := by rw [t0_mz, ← R.1]
  have RS0 : RS σ (t0 τ) := R.rs.k5 (t0_k5 τ)
  have hfail : ∀ σ' : Mem, ∃ res v τ', some (Sum.inl 2) = some res ∧ Option.bind (F_X4_fails (1 : Int32) (t0 τ)) (fun r27 => some (r27.1, r27.2)) = some (v, τ') ∧ AgM [(2, 1)] res σ τ v τ' := fun _ => by
    obtain ⟨τ', e, K, h5⟩ := m_fails τ 1
    refine ⟨.inl 2, 0, τ', rfl, by rw [e]; rfl, ?_, K.rel R⟩
    rw [h5]; exact List.mem_cons_self ..
  unfold F_X4_swap F_X3_swap
  rw [show (up2 τ.1 0 5 (0 : Int32), τ.2) = t0 τ from rfl, m_in, m_in, s_isSlot, s_isSlot]
  simp only [Option.bind_some]
  by_cases ha : (0 : Int32).toInt ≤ a.toInt ∧ a.toInt ≤ (15 : Int32).toInt
  · rw [decide_eq_true ha, if_b1, if_b1]
    by_cases hb : (0 : Int32).toInt ≤ b.toInt ∧ b.toInt ≤ (15 : Int32).toInt
    · rw [decide_eq_true hb, if_c1, if_c1]
      obtain ⟨i, hi, rfl⟩ := sm_nI (a := a) (N := 15) ha
      obtain ⟨j, hj, rfl⟩ := sm_nI (a := b) (N := 15) hb
      obtain ⟨σ1, τ1, s1, s2, RS1, f1, K1⟩ := save_ok RS0
      have z1 : zv σ1 6 = zv σ 6 := RS1.1.trans (K1.mz.trans hzz)
      have C1 : CA σ1 := ⟨RS1.2.1, fun c c1 c2 => by rw [z1]; exact (R.2.1.2 c c1 c2).fr (fun j hj => f1 _ (by omega) (by omega))⟩
      obtain ⟨σ2, w1, w2, w3⟩ := s_won (a := nI i) (b := nI j) C1
      obtain ⟨τ2, v1, v2, v3, v4⟩ := m_won (a := nI i) (b := nI j) (τ := τ1) (by rw [← RS1.1]; exact RS1.2.1)
      have z2 : zv σ2 6 = zv σ1 6 := zv_cong (fun j k hj => by rw [w2 _ (by omega)])
      have m2 : mz τ2 = mz τ1 := mz_cong (v2 1 (by omega))
      obtain ⟨σ3, x1, x2, x3⟩ := s_exchange (σ := σ2) (i := i) (j := j) (by rw [z2]; exact RS1.2.1) (by omega) (by omega)
      obtain ⟨τ3, y1, y2, y3, y4⟩ := m_exchange (τ := τ2) (i := i) (j := j) (by omega) (by omega) 995
      have hz3 : zv σ3 6 = mz τ3 := by rw [x2, y2, z2, m2, RS1.1]
      have hok : zOK (mz τ3) := by rw [y2, m2, ← RS1.1]; exact sxA_ok RS1.2.1 (by omega) (by omega)
      have RS3 : RS σ3 τ3 := by
        obtain ⟨q1, q2, q3, ⟨o, s, o1, s1, r1, r2, r3, r4⟩, ⟨L, l1, l2, l3, l4⟩⟩ := RS1
        have fx : ∀ x, x ≠ 3 → x < 6 ∨ 12 ≤ x → σ3 x = σ1 x := fun x h3 hx => (x3 x hx).trans (w2 x h3)
        have ft : ∀ x, x ≠ 1 → x ≠ 4 → τ3.1 x = τ1.1 x := fun x h1 h4 => (y3 x h1).trans (v2 x h4)
        have em : ∀ k, mrow τ3 k = mrow τ1 k := fun k => by funext x; unfold mrow; rw [ft 2 (by omega) (by omega)]
        refine ⟨hz3, by rw [hz3]; exact hok, fun c' c1 c2 => by rw [fx _ (by omega) (by omega)]; exact q3 c' c1 c2, ⟨o, s, o1, s1, by rw [fx 0 (by omega) (by omega)]; exact r1, by rw [fx 0 (by omega) (by omega)]; exact r2, by rw [ft 0 (by omega) (by omega)]; exact r3, fun k hk => ?_⟩, ⟨L, l1, by rw [fx 4 (by omega) (by omega)]; exact l2, by rw [ft 0 (by omega) (by omega)]; exact l3, fun i hi => ?_⟩⟩
        · rw [em, zv_cong (σ := σ1) (n := 12 + 6 * ((o + k) % 6)) (fun j i hj => by rw [fx _ (by omega) (by omega)])]; exact r4 k hk
        · rw [fx 5 (by omega) (by omega), ft 3 (by omega) (by omega)]; exact l4 i hi
      obtain ⟨σ4, e4, R4, f4⟩ := RS3.fin
      have g1 := s_changed (z := zv σ1 6) (a := nI i) (b := nI j) R4.2.1 (fun c c1 c2 => by rw [f4 3 (by omega), x3 3 (by omega)]; exact w3 c c1 c2)
      have g2 := m_changed (z := zv σ1 6) (τ := τ3) (a := nI i) (b := nI j) hok (fun c c1 c2 => by rw [y3 4 (by omega), v4 c c1 c2, RS1.1])
      have h5 : τ3.1 0 5 = 0 := by rw [y3 0 (by omega), v2 0 (by omega)]; exact K1.five
      refine ⟨.inr (nI (fb_ct (swP (zv σ1 6) (zv σ4 6) (nI i) (nI j)) 16), σ4), nI (fb_ct (swP (zv σ1 6) (zv σ4 6) (nI i) (nI j)) 16), τ3, ?_, ?_, h5, rfl, R4⟩
      · rw [s1, Option.bind_some, w1, Option.bind_some, x1, Option.bind_some, e4, Option.bind_some, g1]; rfl
      · rw [s2, Option.bind_some, v1, Option.bind_some, show FU = 995 + 5 from rfl, y1, Option.bind_some, show 995 + 5 = FU from rfl, g2, R4.1]; rfl
    · rw [decide_eq_false hb, if_c0, if_c0]; exact hfail σ
  · rw [decide_eq_false ha, if_b0, if_b0]; exact hfail σ
