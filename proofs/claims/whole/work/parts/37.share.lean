/-! leadShare, both sides; the bits of a share -/
theorem ub_fin {x : UInt64} {c : Nat} {q : Int} (h : FP.Core.val64 x = .fin false c q) : FP.Core.val64 x ≠ .nan := by rw [h]; exact fun e => by cases e
theorem two_z : FP.Core.val64 (4611686018427387904 : UInt64) = .fin false (2 ^ 52) (-51) := by decide +kernel
theorem big_z : FP.Core.val64 (4841369599423283200 : UInt64) = .fin false (2 ^ 52) 0 := by decide +kernel
theorem one_z : FP.Core.val64 FP.dconst1 = .fin false (2 ^ 52) (-52) := FP.Core.val64_dconst1
theorem zD_1 : zD FP.dconst1 = (UU : Nat) := by
  rw [zD_fin one_z]
  show ((2 ^ 52 * 2 ^ ((-52 : Int) - FP.Core.b64.qmin).toNat : Nat) : Int) = _
  rw [qm, show ((-52 : Int) - (-1074)).toNat = 1022 from rfl, ← Nat.pow_add]; rfl
theorem dbl_z {x : UInt64} {c : Nat} {q : Int} (h : FP.Core.val64 x = .fin false c q) (hc : 2 ^ 52 ≤ c) (hq : q ≤ 0) : FP.Core.val64 (FP.dmul x (4611686018427387904 : UInt64)) = .fin false c (q + 1) := by
  have hf := FP.Core.val64_fits x
  rw [h] at hf
  have hm : FP.Core.b64.qmax = 971 := by decide +kernel
  have hf2 : FP.Core.fits FP.Core.b64 (.fin false c (q + 1)) := ⟨hf.1, by have := hf.2.1; omega, by rw [hm]; omega, Or.inr (by rw [tl]; exact hc)⟩
  show FP.Core.val64 (FP.Core.dmul x _) = _
  rw [FP.Core.val64_dmul, h, two_z]
  show FP.Core.roundRatio FP.Core.b64 false (c * 2 ^ 52) 1 (q + -51) = _
  refine FP.Core.roundRatio_exact FP.Core.good_b64 (by decide) hf2 ?_
  rw [show (q + -51 - (q + 1)).toNat = 0 by omega, show (q + 1 - (q + -51)).toNat = 52 by omega]
  omega
theorem lt_one {c : Nat} {q : Int} (hc : 2 ^ 52 ≤ c) (hc2 : c < 2 ^ 53) (hq : -1074 ≤ q) : ((UU : Nat) : Int) ≤ ((FP.Core.inUnits c q FP.Core.b64.qmin : Nat) : Int) ↔ -52 ≤ q := by
  unfold FP.Core.inUnits
  rw [qm, Int.ofNat_le]
  constructor
  · intro h
    rcases Int.lt_or_le q (-52) with l | l
    · exfalso
      have b2 : c * 2 ^ (q - -1074).toNat ≤ c * 2 ^ 1021 := Nat.mul_le_mul_left _ (Nat.pow_le_pow_right (by decide) (by omega))
      have b3 : c * 2 ^ 1021 < 2 ^ 53 * 2 ^ 1021 := Nat.mul_lt_mul_of_pos_right hc2 (Nat.two_pow_pos _)
      rw [← Nat.pow_add] at b3
      exact absurd h (Nat.not_le_of_lt (Nat.lt_of_le_of_lt b2 b3))
    · exact l
  · intro h
    have b1 : 2 ^ 52 * 2 ^ 1022 ≤ c * 2 ^ (q - -1074).toNat := Nat.mul_le_mul hc (Nat.pow_le_pow_right (by decide) (by omega))
    rw [← Nat.pow_add] at b1
    exact b1
theorem s_bits_loop : ∀ (k : Nat) (x : UInt64) (c : Nat) (q : Int) (e : Int64) (st fu : Nat), FP.Core.val64 x = .fin false c q → 2 ^ 52 ≤ c → -1074 ≤ q → q + k = -52 → k < fu → st + k < 1023 →
    ∃ x', L_X3_bitsOfShare_18 fu x e (nI st) = some (x', e - Int64.ofNat k) ∧ FP.Core.val64 x' = .fin false c (-52) := by
  intro k
  induction k with
  | zero =>
    intro x c q e st fu hx hc hq hk hf hst
    obtain ⟨f, rfl⟩ : ∃ f, fu = f + 1 := ⟨fu - 1, by omega⟩
    have hfx := FP.Core.val64_fits x
    rw [hx] at hfx
    have e52 : q = -52 := by omega
    subst e52
    refine ⟨x, ?_, hx⟩
    rw [L_X3_bitsOfShare_18, if_neg (fun w : (1023 : Int32) ≤ nI st => absurd ((nI_le_iff (a := 1023) (by omega) (by omega)).mp w) (by omega)), if_pos]
    · rw [show Int64.ofNat 0 = 0 from rfl, Int64.sub_zero]
    · rw [dcmp_z (ub_fin hx) (ub_fin one_z), cv_ge, zD_1, zD_fin hx]
      exact (lt_one hc hfx.1 (by omega)).mpr (by omega)
  | succ k ih =>
    intro x c q e st fu hx hc hq hk hf hst
    obtain ⟨f, rfl⟩ : ∃ f, fu = f + 1 := ⟨fu - 1, by omega⟩
    have hfx := FP.Core.val64_fits x
    rw [hx] at hfx
    have hd := dbl_z hx hc (by omega)
    obtain ⟨x', i1, i2⟩ := ih (FP.dmul x (4611686018427387904 : UInt64)) c (q + 1) (e - 1) (st + 1) f hd hc (by omega) (by omega) (by omega) (by omega)
    refine ⟨x', ?_, i2⟩
    rw [L_X3_bitsOfShare_18, if_neg (fun w : (1023 : Int32) ≤ nI st => absurd ((nI_le_iff (a := 1023) (by omega) (by omega)).mp w) (by omega)), if_neg, if_pos (nn_iff.mpr (ub_fin hd)), show nI st + (1 : Int32) = nI (st + 1) from nI_1 st, i1]
    · have : e - 1 - Int64.ofNat k = e - Int64.ofNat (k + 1) := by
        rw [Int64.ofNat_add]
        simp only [Int64.sub_eq_add_neg, Int64.neg_add]
        rw [show Int64.ofNat 1 = (1 : Int64) from rfl]
        ac_rfl
      rw [this]
    · rw [dcmp_z (ub_fin hx) (ub_fin one_z), cv_ge, zD_1, zD_fin hx]
      exact fun w => absurd ((lt_one hc hfx.1 (by omega)).mp w) (by omega)
/-- x less 1.0, times 2 to the 52 -/
theorem exs_eq (c d : Nat) (q r : Int) : FP.Core.exactSum (.fin false c q) (FP.Core.negate (.fin false d r)) = .fin (FP.Core.sumSign false true (FP.Core.sumUnits false c q true d r (min q r))) (FP.Core.sumUnits false c q true d r (min q r)).natAbs (min q r) := rfl
theorem exp_eq (c d : Nat) (q r : Int) : FP.Core.exactProduct (.fin false c q) (.fin false d r) = .fin false (c * d) (q + r) := rfl
theorem whole_eq (i : Int) (c : Nat) (q : Int) : FP.Core.Whole i (.fin false c q) = (((c * 2 ^ q.toNat : Nat) : Int) = i * ((2 ^ (-q).toNat : Nat) : Int)) := rfl
theorem enc_eq (c : Nat) (q : Int) : FP.Core.encode FP.Core.b64 (.fin false c q) = if c < FP.Core.b64.tails then FP.Core.assemble FP.Core.b64 false 0 c else FP.Core.assemble FP.Core.b64 false ((q - FP.Core.b64.qmin).toNat + 1) (c - FP.Core.b64.tails) := rfl
theorem natAbs_nat (t : Nat) : ((t : Nat) : Int).natAbs = t := Int.natAbs_natCast t
theorem sum_one {c t : Nat} (hc : c = 2 ^ 52 + t) : FP.Core.exactSum (.fin false c (-52)) (FP.Core.negate (.fin false (2 ^ 52) (-52))) = .fin false t (-52) := by
  have hu : FP.Core.sumUnits false c (-52) true (2 ^ 52) (-52) (-52) = ((t : Nat) : Int) := by
    unfold FP.Core.sumUnits FP.Core.signed FP.Core.inUnits
    rw [if_neg (by decide), if_pos rfl, show ((-52 : Int) - -52).toNat = 0 from rfl, Nat.pow_zero, Nat.mul_one, Nat.mul_one]; omega
  have hs : FP.Core.sumSign false true ((t : Nat) : Int) = false := by
    unfold FP.Core.sumSign
    split
    · rfl
    · exact decide_eq_false (by omega)
  rw [exs_eq, show min (-52 : Int) (-52) = -52 from rfl, hu, hs, natAbs_nat]
theorem rest_z {x : UInt64} {c t : Nat} (hx : FP.Core.val64 x = .fin false c (-52)) (hc : c = 2 ^ 52 + t) : FP.Core.val64 (FP.dsub x FP.dconst1) ≠ .nan ∧ FP.Core.DInt ((t : Nat) : Int) (FP.dmul (FP.dsub x FP.dconst1) (4841369599423283200 : UInt64)) := by
  have hfx := FP.Core.val64_fits x
  rw [hx] at hfx
  refine ⟨sub_nn hx one_z, ?_⟩
  have hs : FP.Core.val64 (FP.dsub x FP.dconst1) = FP.Core.round FP.Core.b64 (.fin false t (-52)) := by
    rw [← sum_one hc, ← hx, ← one_z]
    exact FP.Core.val64_dsub _ _
  have hcc : t < 2 ^ 52 := by have : c < 2 ^ 53 := hfx.1; omega
  obtain ⟨c', q', r1, r2⟩ := FP.Core.round_exact FP.Core.good_b64 false (c := t) (q := -52) (by rw [pp]; omega) (by decide +kernel) (by decide +kernel)
  rw [r1] at hs
  have hf2 := FP.Core.val64_fits (FP.dsub x FP.dconst1)
  rw [hs] at hf2
  unfold FP.Core.inUnits at r2
  have hq1 := hf2.2.1
  rw [qm] at r2 hq1
  rw [show ((-52 : Int) - -1074).toNat = 1022 from rfl] at r2
  have hq2 : q' ≤ 0 := by
    rcases Int.lt_or_le 0 q' with l | l
    · exfalso
      rcases hf2.2.2.2 with e | e
      · rw [qm] at e; omega
      · rw [tl] at e
        have b1 : 2 ^ 52 * 2 ^ 1074 ≤ c' * 2 ^ (q' - -1074).toNat := Nat.mul_le_mul e (Nat.pow_le_pow_right (by decide) (by omega))
        have b2 : t * 2 ^ 1022 < 2 ^ 52 * 2 ^ 1022 := Nat.mul_lt_mul_of_pos_right hcc (Nat.two_pow_pos _)
        have b3 : 2 ^ 52 * 2 ^ 1022 ≤ 2 ^ 52 * 2 ^ 1074 := Nat.mul_le_mul_left _ (Nat.pow_le_pow_right (by decide) (by decide))
        rw [r2] at b1
        exact absurd b1 (Nat.not_le_of_lt (Nat.lt_of_lt_of_le b2 b3))
    · exact l
  have hn : c' * 2 ^ 52 = t * 2 ^ (-q').toNat := by
    have hp := Nat.two_pow_pos (q' - -1074).toNat
    refine Nat.eq_of_mul_eq_mul_right hp ?_
    rw [Nat.mul_right_comm, r2, Nat.mul_assoc, Nat.mul_assoc, ← Nat.pow_add, ← Nat.pow_add, show (-q').toNat + (q' - -1074).toNat = 1022 + 52 by omega]
  have hw : FP.Core.Whole ((t : Nat) : Int) (.fin false (c' * 2 ^ 52) q') := by
    rw [whole_eq, show q'.toNat = 0 by omega, Nat.pow_zero, Nat.mul_one, hn, Int.natCast_mul]
  have hp : FP.Core.exactProduct (.fin false c' q') (.fin false (2 ^ 52) 0) = .fin false (c' * 2 ^ 52) q' := by
    rw [exp_eq, Int.add_zero]
  have hv : FP.Core.val64 (FP.dmul (FP.dsub x FP.dconst1) (4841369599423283200 : UInt64)) = FP.Core.round FP.Core.b64 (.fin false (c' * 2 ^ 52) q') := by
    rw [← hp, ← hs, ← big_z]
    exact FP.Core.val64_dmul _ _
  unfold FP.Core.DInt
  rw [hv]
  exact FP.Core.whole_round FP.Core.good_b64 FP.Core.wide_b64 (by rw [pp, natAbs_nat]; omega) hw
theorem shl_bits (e t : Nat) (he : e < 2048) (ht : t < 2 ^ 52) : (Int64.ofNat e <<< ((52 : Int32).toInt64 &&& 63)) + Int64.ofNat t = (UInt64.ofNat (e * 2 ^ 52 + t)).toInt64 := by
  have h52 : ((52 : Int32).toInt64 &&& 63) = 52 := by decide
  rw [h52]
  apply Int64.toBitVec_inj.mp
  apply BitVec.eq_of_toNat_eq
  have h1 : (Int64.ofNat e <<< (52 : Int64)).toBitVec.toNat = e * 2 ^ 52 := by
    rw [Int64.toBitVec_shiftLeft]
    have : ((52 : Int64).toBitVec.smod 64) = 52#64 := by decide
    rw [this, BitVec.shiftLeft_eq', BitVec.toNat_shiftLeft]
    show ((BitVec.ofNat 64 e).toNat <<< (52#64).toNat) % 2 ^ 64 = _
    rw [BitVec.toNat_ofNat, Nat.shiftLeft_eq, show (52#64).toNat = 52 from rfl, Nat.mod_eq_of_lt (show e < 2 ^ 64 by omega), Nat.mod_eq_of_lt (by omega)]
  rw [Int64.toBitVec_add, BitVec.toNat_add, h1]
  show (e * 2 ^ 52 + (BitVec.ofNat 64 t).toNat) % 2 ^ 64 = (BitVec.ofNat 64 (e * 2 ^ 52 + t)).toNat
  rw [BitVec.toNat_ofNat, BitVec.toNat_ofNat, Nat.mod_eq_of_lt (show t < 2 ^ 64 by omega)]
theorem s_bits {x : UInt64} (h : Shr x) : F_X3_bitsOfShare x = some x.toInt64 := by
  obtain ⟨c, q, hx, h1, h2⟩ := h
  have hf := FP.Core.val64_fits x
  rw [hx] at hf
  have hq1 := hf.2.1
  rw [qm] at hq1
  have hq3 : -123 < q := by
    rcases Int.lt_or_le (-123) q with l | l
    · exact l
    · exfalso
      have h1 : 2 ^ 1004 ≤ c * 2 ^ (q - FP.Core.b64.qmin).toNat := h1
      rw [qm] at h1
      have b2 : c * 2 ^ (q - -1074).toNat ≤ c * 2 ^ 951 := Nat.mul_le_mul_left _ (Nat.pow_le_pow_right (by decide) (by omega))
      have b3 : c * 2 ^ 951 < 2 ^ 53 * 2 ^ 951 := Nat.mul_lt_mul_of_pos_right hf.1 (Nat.two_pow_pos _)
      rw [← Nat.pow_add] at b3
      exact absurd h1 (Nat.not_le_of_lt (Nat.lt_of_le_of_lt b2 b3))
  have hc : 2 ^ 52 ≤ c := by
    rcases hf.2.2.2 with e | e
    · rw [qm] at e; omega
    · rw [tl] at e; exact e
  have hq2 : q ≤ -52 := by
    rcases Int.lt_or_le (-52) q with l | l
    · exfalso
      have h2 : c * 2 ^ (q - FP.Core.b64.qmin).toNat ≤ UU := h2
      rw [qm] at h2
      have b1 : 2 ^ 52 * 2 ^ 1023 ≤ c * 2 ^ (q - -1074).toNat := Nat.mul_le_mul hc (Nat.pow_le_pow_right (by decide) (by omega))
      rw [← Nat.pow_add] at b1
      have b2 : 2 ^ 1074 < 2 ^ (52 + 1023) := Nat.pow_lt_pow_right (by decide) (by decide)
      exact absurd h2 (Nat.not_le_of_lt (Nat.lt_of_lt_of_le b2 b1))
    · exact l
  unfold F_X3_bitsOfShare
  rw [if_pos]
  · obtain ⟨x', e1, e2⟩ := s_bits_loop (-52 - q).toNat x c q 1023 0 FU hx hc hq1 (by omega) (by show _ < 1000; omega) (by omega)
    have e1 : L_X3_bitsOfShare_18 FU x 1023 0 = some (x', 1023 - Int64.ofNat (-52 - q).toNat) := e1
    obtain ⟨t, htc⟩ : ∃ t, c = 2 ^ 52 + t := ⟨c - 2 ^ 52, by omega⟩
    obtain ⟨r1, r2⟩ := rest_z e2 htc
    rw [e1, Option.bind_some, if_pos (nn_iff.mpr r1), if_pos (nn_iff.mpr (FP.Core.Whole.ne_nan r2))]
    have hcc : t < 2 ^ 52 := by have : c < 2 ^ 53 := hf.1; omega
    have ht : (Int64.ofNat (t)).toInt = ((t : Nat) : Int) := Int64.toInt_ofNat_of_lt (by omega)
    have hd : FP.d2l (FP.dmul (FP.dsub x' FP.dconst1) (4841369599423283200 : UInt64)) = Int64.ofNat (t) := FP.Core.d2l_int (by rw [ht]; exact r2)
    have he : (1023 : Int64) - Int64.ofNat (-52 - q).toNat = Int64.ofNat (q + 1075).toNat := by
      have : (1023 : Int64) = Int64.ofNat ((-52 - q).toNat + (q + 1075).toNat) := by rw [show (-52 - q).toNat + (q + 1075).toNat = 1023 by omega]; rfl
      rw [this, Int64.ofNat_add, Int64.add_comm, Int64.add_sub_cancel]
    show some (((1023 : Int64) - Int64.ofNat (-52 - q).toNat) <<< ((52 : Int32).toInt64 &&& 63) + FP.d2l (FP.dmul (FP.dsub x' FP.dconst1) (4841369599423283200 : UInt64))) = _
    rw [he, hd, shl_bits _ _ (by omega) hcc]
    have hx2 : x = UInt64.ofNat ((q + 1075).toNat * 2 ^ 52 + (t)) := by
      have := FP.Core.of64_val64 (a := x) (ub_fin hx)
      rw [hx] at this
      rw [← this]
      unfold FP.Core.of64
      refine congrArg UInt64.ofNat ?_
      rw [enc_eq, tl, if_neg (by omega), qm, show c - 2 ^ 52 = t by omega]
      unfold FP.Core.assemble
      rw [tl, show (false : Bool).toNat = 0 from rfl, Nat.zero_mul, Nat.zero_add, show (q - -1074).toNat + 1 = (q + 1075).toNat by omega]
    rw [← hx2]
  · rw [dcmp_z (ub_fin hx) nn_0, cv_gt, zD_0, zD_fin hx]
    have : 0 < FP.Core.inUnits c q FP.Core.b64.qmin := Nat.lt_of_lt_of_le (Nat.two_pow_pos _) h1
    omega
theorem s_bits0 : F_X3_bitsOfShare FP.dconst0 = some FP.dconst0.toInt64 := by
  unfold F_X3_bitsOfShare
  rw [if_neg]
  · rfl
  · rw [dcmp_z nn_0 nn_0, cv_gt]; omega
