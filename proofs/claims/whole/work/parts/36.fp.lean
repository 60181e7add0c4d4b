/-! doubles: no answer is a NaN; what a share can be; its bits -/
def zD (x : UInt64) : Int := FP.Core.zval FP.Core.b64 (FP.Core.val64 x)
def UU : Nat := 2 ^ 1074
def GG : Nat := 2 ^ 1014
theorem qm : FP.Core.b64.qmin = -1074 := by decide +kernel
theorem tl : FP.Core.b64.tails = 2 ^ 52 := by decide +kernel
theorem pp : FP.Core.b64.p = 53 := rfl
theorem nn_iff {x : UInt64} : nn64 x = true ↔ FP.Core.val64 x ≠ .nan := by
  unfold nn64
  rw [decide_eq_true_iff, UInt64.le_iff_toNat_le, UInt64.toNat_and]
  have hm : x.toNat &&& (0x7fffffffffffffff : UInt64).toNat = x.toNat % 2 ^ 63 := by
    rw [show (0x7fffffffffffffff : UInt64).toNat = 2 ^ 63 - 1 from by decide +kernel]; exact Nat.and_two_pow_sub_one_eq_mod _ _
  have hd := FP.Core.decode_nan (f := FP.Core.b64) x.toNat
  have hh : FP.Core.half FP.Core.b64 = 2 ^ 63 := by decide +kernel
  have hi : FP.Core.infBits FP.Core.b64 = 9218868437227405312 := by decide +kernel
  have hu : (0x7ff0000000000000 : UInt64).toNat = 9218868437227405312 := by decide +kernel
  unfold FP.Core.mag at hd
  rw [hh, hi] at hd
  rw [hm, hu]
  show _ ↔ ¬ FP.Core.decode FP.Core.b64 x.toNat = .nan
  rw [hd]; omega
theorem i2d_z (a : Int32) : ∃ c q, FP.Core.val64 (FP.i2d a) = .fin (decide (a.toInt < 0)) c q ∧ FP.Core.signed (decide (a.toInt < 0)) (FP.Core.inUnits c q FP.Core.b64.qmin) = a.toInt * (UU : Int) ∧ FP.Core.Whole a.toInt (.fin (decide (a.toInt < 0)) c q) := by
  have h1 : FP.Core.Whole a.toInt (FP.Core.val64 (FP.i2d a)) := FP.Core.i2d_int a
  obtain ⟨c, q, h⟩ := FP.Core.l2d_shape a.toInt64
  rw [← FP.Core.i2d_l2d, Int32.toInt_toInt64] at h
  have h' : FP.Core.val64 (FP.i2d a) = .fin (decide (a.toInt < 0)) c q := h
  rw [h'] at h1
  refine ⟨c, q, h', ?_, h1⟩
  have hf := FP.Core.val64_fits (FP.i2d a)
  rw [h'] at hf
  have h2 := FP.Core.whole_units h1 hf.2.1
  rw [qm] at h2 ⊢
  have e1 : ((2 ^ ((-1074 : Int)).toNat : Nat) : Int) = 1 := by rfl
  have e2 : ((2 ^ (-(-1074 : Int)).toNat : Nat) : Int) = (UU : Int) := by rfl
  rw [e1, e2, Int.mul_one] at h2
  exact h2
theorem i2d_p {a : Int32} (h : 0 ≤ a.toInt) : ∃ c q, FP.Core.val64 (FP.i2d a) = .fin false c q ∧ FP.Core.inUnits c q FP.Core.b64.qmin = a.toInt.toNat * UU ∧ FP.Core.Whole a.toInt (.fin false c q) := by
  obtain ⟨c, q, h1, h2, h3⟩ := i2d_z a
  rw [show decide (a.toInt < 0) = false from decide_eq_false (by omega)] at h1 h2 h3
  refine ⟨c, q, h1, ?_, h3⟩
  have h2 : ((FP.Core.inUnits c q FP.Core.b64.qmin : Nat) : Int) = a.toInt * (UU : Int) := h2
  have e : a.toInt * (UU : Int) = ((a.toInt.toNat * UU : Nat) : Int) := by rw [Int.natCast_mul, show ((a.toInt.toNat : Nat) : Int) = a.toInt by omega]
  omega
theorem ddiv_z {x : UInt64} {c : Nat} {q : Int} {n : Int32} (hx : FP.Core.val64 x = .fin false c q) (hn : 0 < n.toInt) : FP.Core.val64 (FP.ddiv x (FP.i2d n)) = FP.Core.roundRatio FP.Core.b64 false c n.toInt.toNat q := by
  obtain ⟨d, r, hd, -, hw⟩ := i2d_p (a := n) (by omega)
  have hd0 : ¬ d = 0 := fun e => by have := (FP.Core.whole_zero hw).mp e; omega
  show FP.Core.val64 (FP.Core.ddiv x (FP.i2d n)) = _
  rw [FP.Core.val64_ddiv, hx, hd]
  show (if d = 0 then _ else FP.Core.roundRatio FP.Core.b64 (false != false) c d (q - r)) = _
  rw [if_neg hd0]
  refine FP.Core.roundRatio_congr (by omega) (by omega) ?_
  have hn2 := FP.Core.whole_natAbs hw
  rw [show q - r - q = -r by omega, show q - (q - r) = r by omega, show n.toInt.toNat = n.toInt.natAbs by omega, Nat.mul_assoc, ← hn2, Nat.mul_assoc]
theorem pow0 (q : Int) : (q - q).toNat = 0 := by omega
theorem rr_le {c n : Nat} {q : Int} {V : FP.Core.Datum} (hn : 0 < n) (hV : FP.Core.fits FP.Core.b64 V) (hN : V ≠ .nan) (hq : FP.Core.b64.qmin ≤ q) (h : FP.Core.inUnits c q FP.Core.b64.qmin ≤ FP.Core.zmag FP.Core.b64 V * n) : FP.Core.zmag FP.Core.b64 (FP.Core.roundRatio FP.Core.b64 false c n q) ≤ FP.Core.zmag FP.Core.b64 V :=
  FP.Core.zmag_roundRatio_le FP.Core.good_b64 hn hV hN (Int.le_refl _) hq (by rw [pow0, Nat.pow_zero, Nat.mul_one]; exact h)
theorem rr_ge {c n : Nat} {q : Int} {V : FP.Core.Datum} (hn : 0 < n) (hV : FP.Core.fits FP.Core.b64 V) (hq : FP.Core.b64.qmin ≤ q) (h : FP.Core.zmag FP.Core.b64 V * n ≤ FP.Core.inUnits c q FP.Core.b64.qmin) : FP.Core.zmag FP.Core.b64 V ≤ FP.Core.zmag FP.Core.b64 (FP.Core.roundRatio FP.Core.b64 false c n q) :=
  FP.Core.zmag_roundRatio_ge FP.Core.good_b64 hn hV (Int.le_refl _) hq (by rw [pow0, Nat.pow_zero, Nat.mul_one]; exact h)
/-- a rounded ratio below a number is a number -/
theorem rr_fin {c n : Nat} {q : Int} {c2 : Nat} {q2 : Int} (hn : 0 < n) (hV : FP.Core.fits FP.Core.b64 (.fin false c2 q2)) (hq : FP.Core.b64.qmin ≤ q) (h : FP.Core.inUnits c q FP.Core.b64.qmin ≤ FP.Core.inUnits c2 q2 FP.Core.b64.qmin * n) : ∃ c' q', FP.Core.roundRatio FP.Core.b64 false c n q = .fin false c' q' ∧ FP.Core.inUnits c' q' FP.Core.b64.qmin ≤ FP.Core.inUnits c2 q2 FP.Core.b64.qmin := by
  have hl := rr_le hn hV (fun e => by cases e) hq h
  rcases FP.Core.roundRatio_cases FP.Core.b64 false c n q with ⟨c', q', e⟩ | e
  · rw [e] at hl; exact ⟨c', q', e, hl⟩
  · rw [e] at hl
    have ht := FP.Core.zmag_lt_top FP.Core.good_b64 hV
    have hl : FP.Core.b64.tails * 2 ^ (FP.Core.b64.exps - 2) ≤ FP.Core.inUnits c2 q2 FP.Core.b64.qmin := hl
    omega
theorem UG : UU = 2 ^ 60 * GG := by unfold UU GG; rw [← Nat.pow_add]
theorem U8 : UU = 256 * 2 ^ 1066 := by unfold UU; rw [show (256 : Nat) = 2 ^ 8 from rfl, ← Nat.pow_add]
theorem f8 : FP.Core.fits FP.Core.b64 (.fin false (2 ^ 52) (-60)) := by
  refine ⟨by decide +kernel, by decide +kernel, by decide +kernel, Or.inr (by decide +kernel)⟩
theorem z8 : FP.Core.zmag FP.Core.b64 (.fin false (2 ^ 52) (-60)) = 2 ^ 1066 := by
  show 2 ^ 52 * 2 ^ ((-60 : Int) - FP.Core.b64.qmin).toNat = _
  rw [qm, show ((-60 : Int) - (-1074)).toNat = 1014 from rfl, ← Nat.pow_add]
/-- a number in whole units of 2 to the -60 -/
def Gr (x : UInt64) : Prop := ∃ c q k, FP.Core.val64 x = .fin false c q ∧ FP.Core.inUnits c q FP.Core.b64.qmin = k * GG
theorem mom_z {N n : Int32} (hN : 0 ≤ N.toInt) (hn : 1 ≤ n.toInt) (hn2 : n.toInt ≤ 256) : ∃ c q k, FP.Core.val64 (FP.ddiv (FP.i2d N) (FP.i2d n)) = .fin false c q ∧ FP.Core.inUnits c q FP.Core.b64.qmin = k * GG ∧ ∀ t : Int32, 0 ≤ t.toInt → t.toInt * n.toInt ≤ N.toInt → t.toInt.toNat * UU ≤ FP.Core.inUnits c q FP.Core.b64.qmin := by
  obtain ⟨cN, qN, h1, h2, h3⟩ := i2d_p (a := N) hN
  have hf := FP.Core.val64_fits (FP.i2d N)
  rw [h1] at hf
  have hv := ddiv_z h1 (show 0 < n.toInt by omega)
  have hnn : 0 < n.toInt.toNat := by omega
  obtain ⟨c, q, hc, -⟩ := rr_fin (c := cN) (q := qN) hnn hf hf.2.1 (Nat.le_mul_of_pos_right _ hnn)
  rw [hc] at hv
  have hfc := FP.Core.val64_fits (FP.ddiv (FP.i2d N) (FP.i2d n))
  rw [hv] at hfc
  have key : ∃ k, FP.Core.inUnits c q FP.Core.b64.qmin = k * GG := by
    by_cases h0 : N.toInt = 0
    · have c0 : cN = 0 := (FP.Core.whole_zero h3).mpr h0
      rw [c0] at hc
      have : FP.Core.roundRatio FP.Core.b64 false 0 n.toInt.toNat qN = .fin false 0 FP.Core.b64.qmin := rfl
      rw [this] at hc
      cases hc
      exact ⟨0, by unfold FP.Core.inUnits; simp⟩
    · have hg := rr_ge (c := cN) (q := qN) hnn f8 hf.2.1 (by
        rw [z8, h2, U8]
        have a1 : 2 ^ 1066 * n.toInt.toNat ≤ 2 ^ 1066 * 256 := Nat.mul_le_mul_left _ (by omega)
        have a2 : 1 * (256 * 2 ^ 1066) ≤ N.toInt.toNat * (256 * 2 ^ 1066) := Nat.mul_le_mul_right _ (by omega)
        rw [Nat.mul_comm (2 ^ 1066) 256] at a1
        rw [Nat.one_mul] at a2
        exact Nat.le_trans a1 a2)
      rw [hc, z8] at hg
      have hg : 2 ^ 1066 ≤ c * 2 ^ (q - FP.Core.b64.qmin).toNat := hg
      have hq : -60 ≤ q := by
        rcases Int.lt_or_le q (-60) with l | l
        · exfalso
          have b1 : (q - FP.Core.b64.qmin).toNat ≤ 1013 := by rw [qm]; omega
          have b2 : c * 2 ^ (q - FP.Core.b64.qmin).toNat ≤ c * 2 ^ 1013 := Nat.mul_le_mul_left _ (Nat.pow_le_pow_right (by decide) b1)
          have b3 : c * 2 ^ 1013 < 2 ^ 53 * 2 ^ 1013 := Nat.mul_lt_mul_of_pos_right hfc.1 (Nat.two_pow_pos _)
          rw [← Nat.pow_add] at b3
          exact absurd hg (Nat.not_le_of_lt (Nat.lt_of_le_of_lt b2 b3))
        · exact l
      refine ⟨c * 2 ^ (q + 60).toNat, ?_⟩
      unfold FP.Core.inUnits GG
      rw [qm, Nat.mul_assoc, ← Nat.pow_add, show (q - -1074).toNat = (q + 60).toNat + 1014 by omega]
  obtain ⟨k, hk⟩ := key
  refine ⟨c, q, k, hv, hk, fun t ht htn => ?_⟩
  obtain ⟨ct, qt, t1, t2, -⟩ := i2d_p (a := t) ht
  have hft := FP.Core.val64_fits (FP.i2d t)
  rw [t1] at hft
  have hg := rr_ge (c := cN) (q := qN) (V := .fin false ct qt) hnn hft hf.2.1 (by
    show FP.Core.inUnits ct qt FP.Core.b64.qmin * _ ≤ _
    rw [t2, h2, Nat.mul_right_comm]
    refine Nat.mul_le_mul_right _ ?_
    have : ((t.toInt.toNat * n.toInt.toNat : Nat) : Int) = t.toInt * n.toInt := by rw [Int.natCast_mul, show ((t.toInt.toNat : Nat) : Int) = t.toInt by omega, show ((n.toInt.toNat : Nat) : Int) = n.toInt by omega]
    omega)
  rw [hc] at hg
  have hg : FP.Core.inUnits ct qt FP.Core.b64.qmin ≤ FP.Core.inUnits c q FP.Core.b64.qmin := hg
  rw [t2] at hg
  exact hg
theorem zD_fin {x : UInt64} {c : Nat} {q : Int} (h : FP.Core.val64 x = .fin false c q) : zD x = (FP.Core.inUnits c q FP.Core.b64.qmin : Nat) := by
  unfold zD; rw [h]; rfl
theorem dcmp_z {x y : UInt64} (nx : FP.Core.val64 x ≠ .nan) (ny : FP.Core.val64 y ≠ .nan) : FP.dcmp x y = some (compare (zD x) (zD y)) :=
  FP.Core.order_zval FP.Core.good_b64 (FP.Core.val64_fits x) (FP.Core.val64_fits y) nx ny
theorem cv_le (a b : Int) (op : CmpOp) : Op.cmpValue (some (compare a b)) op ≤ 0 ↔ a ≤ b := by
  rcases Int.lt_trichotomy a b with h | h | h
  · rw [(FP.Core.compare_lt_iff a b).mpr h]; exact iff_of_true (by show (-1 : Int32) ≤ 0; decide) (by omega)
  · rw [(FP.Core.compare_eq_iff a b).mpr h]; exact iff_of_true (by show (0 : Int32) ≤ 0; decide) (by omega)
  · rw [(FP.Core.compare_gt_iff a b).mpr h]; exact iff_of_false (by show ¬ (1 : Int32) ≤ 0; decide) (by omega)
theorem cv_ge (a b : Int) (op : CmpOp) : 0 ≤ Op.cmpValue (some (compare a b)) op ↔ b ≤ a := by
  rcases Int.lt_trichotomy a b with h | h | h
  · rw [(FP.Core.compare_lt_iff a b).mpr h]; exact iff_of_false (by show ¬ (0 : Int32) ≤ -1; decide) (by omega)
  · rw [(FP.Core.compare_eq_iff a b).mpr h]; exact iff_of_true (by show (0 : Int32) ≤ 0; decide) (by omega)
  · rw [(FP.Core.compare_gt_iff a b).mpr h]; exact iff_of_true (by show (0 : Int32) ≤ 1; decide) (by omega)
theorem cv_gt (a b : Int) (op : CmpOp) : 0 < Op.cmpValue (some (compare a b)) op ↔ b < a := by
  rcases Int.lt_trichotomy a b with h | h | h
  · rw [(FP.Core.compare_lt_iff a b).mpr h]; exact iff_of_false (by show ¬ (0 : Int32) < -1; decide) (by omega)
  · rw [(FP.Core.compare_eq_iff a b).mpr h]; exact iff_of_false (by show ¬ (0 : Int32) < 0; decide) (by omega)
  · rw [(FP.Core.compare_gt_iff a b).mpr h]; exact iff_of_true (by show (0 : Int32) < 1; decide) (by omega)
theorem zD_0 : zD FP.dconst0 = 0 := by
  unfold zD
  rw [show FP.Core.val64 FP.dconst0 = .fin false 0 FP.Core.b64.qmin from FP.Core.val64_dconst0]
  show ((FP.Core.inUnits 0 _ _ : Nat) : Int) = 0
  unfold FP.Core.inUnits; simp
theorem nn_0 : FP.Core.val64 FP.dconst0 ≠ .nan := by rw [show FP.Core.val64 FP.dconst0 = .fin false 0 FP.Core.b64.qmin from FP.Core.val64_dconst0]; exact fun e => by cases e
/-- the difference of two numbers, not below 0 -/
theorem sub_z {E M : UInt64} {c d : Nat} {q r : Int} (hE : FP.Core.val64 E = .fin false c q) (hM : FP.Core.val64 M = .fin false d r) : ∃ sg n e, FP.Core.val64 (FP.dsub E M) = FP.Core.round FP.Core.b64 (.fin sg n e) ∧ FP.Core.b64.qmin ≤ e ∧ FP.Core.signed sg (FP.Core.inUnits n e FP.Core.b64.qmin) = zD E - zD M := by
  have fE := FP.Core.val64_fits E
  have fM := FP.Core.negate_fits (FP.Core.val64_fits M)
  rw [hE] at fE
  rw [hM] at fM
  obtain ⟨sg, n, e, h1, h2, h3⟩ := FP.Core.sum_units fE fM
  refine ⟨sg, n, e, ?_, h2, ?_⟩
  · show FP.Core.val64 (FP.Core.dsub E M) = _
    rw [FP.Core.val64_dsub, hE, hM]
    exact congrArg _ h1
  · rw [h3, zD_fin hE, zD_fin hM]
    rfl
theorem sub_nn {E M : UInt64} {c d : Nat} {q r : Int} (hE : FP.Core.val64 E = .fin false c q) (hM : FP.Core.val64 M = .fin false d r) : FP.Core.val64 (FP.dsub E M) ≠ .nan := by
  obtain ⟨sg, n, e, h, -⟩ := sub_z hE hM
  rw [h]
  exact FP.Core.roundRatio_ne_nan _ _ _ _ _
theorem fG : FP.Core.fits FP.Core.b64 (.fin false (2 ^ 52) (-112)) := by
  refine ⟨by decide +kernel, by decide +kernel, by decide +kernel, Or.inr (by decide +kernel)⟩
theorem zG : FP.Core.zval FP.Core.b64 (.fin false (2 ^ 52) (-112)) = (GG : Nat) := by
  show ((2 ^ 52 * 2 ^ ((-112 : Int) - FP.Core.b64.qmin).toNat : Nat) : Int) = _
  rw [qm, show ((-112 : Int) - (-1074)).toNat = 962 from rfl, ← Nat.pow_add]; rfl
theorem f70 : FP.Core.fits FP.Core.b64 (.fin false (2 ^ 52) (-122)) := by
  refine ⟨by decide +kernel, by decide +kernel, by decide +kernel, Or.inr (by decide +kernel)⟩
theorem z70 : FP.Core.zmag FP.Core.b64 (.fin false (2 ^ 52) (-122)) = 2 ^ 1004 := by
  show 2 ^ 52 * 2 ^ ((-122 : Int) - FP.Core.b64.qmin).toNat = _
  rw [qm, show ((-122 : Int) - (-1074)).toNat = 952 from rfl, ← Nat.pow_add]
theorem G70 : GG = 2 ^ 1004 * 1024 := by unfold GG; rw [show (1024 : Nat) = 2 ^ 10 from rfl, ← Nat.pow_add]
/-- a share: above 0, at most 1, no smaller than 2 to the -70 -/
def Shr (x : UInt64) : Prop := ∃ c q, FP.Core.val64 x = .fin false c q ∧ 2 ^ 1004 ≤ FP.Core.inUnits c q FP.Core.b64.qmin ∧ FP.Core.inUnits c q FP.Core.b64.qmin ≤ UU
theorem share_z {E M : UInt64} {h : Int32} (hE : Gr E) (hM : Gr M) (h1 : 1 ≤ h.toInt) (h2 : h.toInt ≤ 999) (hb : zD E ≤ zD M + h.toInt * (UU : Int)) (hp : 0 < zD (FP.dsub E M)) : Shr (FP.ddiv (FP.dsub E M) (FP.i2d h)) := by
  obtain ⟨c, q, k, hE1, hE2⟩ := hE
  obtain ⟨d, r, j, hM1, hM2⟩ := hM
  obtain ⟨sg, n, e, s1, s2, s3⟩ := sub_z hE1 hM1
  have fL := FP.Core.val64_fits (FP.dsub E M)
  obtain ⟨ch, qh, hh1, hh2, -⟩ := i2d_p (a := h) (by omega)
  have fh := FP.Core.val64_fits (FP.i2d h)
  rw [hh1] at fh
  have p0 : ((2 ^ (FP.Core.b64.qmin - FP.Core.b64.qmin).toNat : Nat) : Int) = 1 := by rw [pow0]; rfl
  have zh : FP.Core.zval FP.Core.b64 (.fin false ch qh) = h.toInt * (UU : Int) := by
    show ((FP.Core.inUnits ch qh FP.Core.b64.qmin : Nat) : Int) = _
    rw [hh2, Int.natCast_mul, show ((h.toInt.toNat : Nat) : Int) = h.toInt by omega]
  have up := FP.Core.zval_round_le FP.Core.good_b64 (s := sg) (c := n) (q := e) fh (fun e => by cases e) (Int.le_refl _) s2 (by rw [p0, Int.mul_one, s3, zh]; omega)
  rw [← s1, zh] at up
  have up : zD (FP.dsub E M) ≤ h.toInt * (UU : Int) := up
  -- the difference itself is above 0
  have hd : 0 < zD E - zD M := by
    rcases Int.lt_or_le 0 (zD E - zD M) with l | l
    · exact l
    · have := FP.Core.zval_round_le FP.Core.good_b64 (s := sg) (c := n) (q := e) (V := .fin false 0 FP.Core.b64.qmin) (FP.Core.zero_fits FP.Core.good_b64 false) (fun e => by cases e) (Int.le_refl _) s2 (by
        rw [p0, Int.mul_one, s3]
        have : FP.Core.zval FP.Core.b64 (.fin false 0 FP.Core.b64.qmin) = 0 := by
          show ((FP.Core.inUnits 0 _ _ : Nat) : Int) = 0
          unfold FP.Core.inUnits; simp
        rw [this]; exact l)
      rw [← s1] at this
      have e0 : FP.Core.zval FP.Core.b64 (.fin false 0 FP.Core.b64.qmin) = 0 := by
        show ((FP.Core.inUnits 0 _ _ : Nat) : Int) = 0
        unfold FP.Core.inUnits; simp
      rw [e0] at this
      have : zD (FP.dsub E M) ≤ 0 := this
      omega
  have hdg : (GG : Int) ≤ zD E - zD M := by
    rw [zD_fin hE1, zD_fin hM1, hE2, hM2] at hd ⊢
    have hg : 0 < GG := Nat.two_pow_pos _
    have e1 : ((k * GG : Nat) : Int) - ((j * GG : Nat) : Int) = ((k : Int) - (j : Int)) * (GG : Int) := by
      rw [Int.natCast_mul, Int.natCast_mul, Int.sub_mul]
    rw [e1] at hd ⊢
    have hkj : 0 < (k : Int) - (j : Int) := pos_of_mul hd (by omega)
    have := mul_le_l (show (1 : Int) ≤ (k : Int) - j by omega) (show (0 : Int) ≤ (GG : Int) by omega)
    rw [Int.one_mul] at this
    exact this
  have dn := FP.Core.zval_round_ge FP.Core.good_b64 (s := sg) (c := n) (q := e) fG (fun e => by cases e) (Int.le_refl _) s2 (by rw [p0, Int.mul_one, s3, zG]; exact hdg)
  rw [← s1, zG] at dn
  have dn : (GG : Int) ≤ zD (FP.dsub E M) := dn
  -- it is a number above 0
  have hL : ∃ cl ql, FP.Core.val64 (FP.dsub E M) = .fin false cl ql := by
    cases hv : FP.Core.val64 (FP.dsub E M) with
    | nan => exact absurd hv (sub_nn hE1 hM1)
    | inf s =>
      exfalso
      have ht := FP.Core.zmag_lt_top FP.Core.good_b64 fh
      unfold zD at up hp
      rw [hv] at up hp
      rw [← zh] at up
      cases s with
      | true =>
        have hp : 0 < FP.Core.signed true (FP.Core.b64.tails * 2 ^ (FP.Core.b64.exps - 2)) := hp
        unfold FP.Core.signed at hp
        rw [if_pos rfl] at hp
        omega
      | false =>
        have up : ((FP.Core.b64.tails * 2 ^ (FP.Core.b64.exps - 2) : Nat) : Int) ≤ ((FP.Core.inUnits ch qh FP.Core.b64.qmin : Nat) : Int) := up
        omega
    | fin s cl ql =>
      cases s with
      | false => exact ⟨cl, ql, rfl⟩
      | true =>
        exfalso
        unfold zD at hp
        rw [hv] at hp
        have hp : 0 < FP.Core.signed true (FP.Core.inUnits cl ql FP.Core.b64.qmin) := hp
        unfold FP.Core.signed at hp
        rw [if_pos rfl] at hp
        omega
  obtain ⟨cl, ql, hL⟩ := hL
  rw [hL] at fL
  rw [zD_fin hL] at up dn
  have hv := ddiv_z hL (show 0 < h.toInt by omega)
  have hhn : 0 < h.toInt.toNat := by omega
  obtain ⟨c1, q1, o1, o2, -⟩ := i2d_p (a := 1) (by decide)
  have f1 := FP.Core.val64_fits (FP.i2d 1)
  rw [o1] at f1
  have o2 : FP.Core.inUnits c1 q1 FP.Core.b64.qmin = UU := by rw [o2, show (1 : Int32).toInt.toNat = 1 from by decide, Nat.one_mul]
  have upN : FP.Core.inUnits cl ql FP.Core.b64.qmin ≤ UU * h.toInt.toNat := by
    have : h.toInt * (UU : Int) = ((UU * h.toInt.toNat : Nat) : Int) := by rw [Int.natCast_mul, Int.mul_comm, show ((h.toInt.toNat : Nat) : Int) = h.toInt by omega]
    omega
  obtain ⟨c', q', r1, r2⟩ := rr_fin (c := cl) (q := ql) hhn f1 fL.2.1 (by rw [o2]; exact upN)
  rw [o2] at r2
  have r3 := rr_ge (c := cl) (q := ql) hhn f70 fL.2.1 (by
    rw [z70]
    have a1 : 2 ^ 1004 * h.toInt.toNat ≤ 2 ^ 1004 * 1024 := Nat.mul_le_mul_left _ (by omega)
    rw [← G70] at a1
    omega)
  rw [r1, z70] at r3
  exact ⟨c', q', hv.trans r1, r3, r2⟩
