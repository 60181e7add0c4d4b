/-! digest: both sides mix the same values in the same order -/
theorem dc_eq {x : UInt64} (h : FP.Core.val64 x ≠ .nan) : Op.cmpValue (FP.dcmp x x) .l = 0 := by
  have h1 := (cv_le (zD x) (zD x) .l).mpr (Int.le_refl _)
  have h2 := (cv_ge (zD x) (zD x) .l).mpr (Int.le_refl _)
  rw [dcmp_z h h]
  have a1 : (Op.cmpValue (some (compare (zD x) (zD x))) .l).toInt ≤ (0 : Int32).toInt := Int32.le_iff_toInt_le.mp h1
  have a2 : (0 : Int32).toInt ≤ (Op.cmpValue (some (compare (zD x) (zD x))) .l).toInt := Int32.le_iff_toInt_le.mp h2
  exact Int32.toInt_inj.mp (by omega)
theorem m_bits {x : UInt64} (h : FP.Core.val64 x ≠ .nan) : F_Jxe99ae_doubleToLongBits_ccdee x = some x.toInt64 := by
  unfold F_Jxe99ae_doubleToLongBits_ccdee F_Jxe99ae_isNaN_b9ae7
  rw [if_pos (dc_eq h)]; rfl
theorem oR_inr {α β : Type} (a : α) (f : α → Option β) : oR (some (Sum.inr a)) f = f a := rfl
theorem n_lt {a : Int32} {N k : Nat} (ha : a = nI N) (h : k ≤ N) (hN : N < 2 ^ 31) : ¬ a < nI k := by
  subst ha
  exact fun q => absurd ((nI_lt_iff hN (by omega)).mp q) (by omega)
theorem n_le {a : Int32} {N k : Nat} (ha : a = nI N) (h : k < N) (hN : N < 2 ^ 31) : ¬ a ≤ nI k := by
  subst ha
  exact fun q => absurd ((nI_le_iff hN (by omega)).mp q) (by omega)
theorem Keep5.rf {τ : Mem × Int64} : Keep5 τ τ := ⟨rfl, rfl, rfl, rfl, rfl⟩
theorem Keep5.tr {τ τ1 τ2 : Mem × Int64} (h : Keep5 τ τ1) (g : Keep5 τ1 τ2) : Keep5 τ τ2 := by
  obtain ⟨a1, a2, a3, a4, a5⟩ := h
  obtain ⟨b1, b2, b3, b4, b5⟩ := g
  exact ⟨b1.trans a1, b2.trans a2, b3.trans a3, b4.trans a4, b5.trans a5⟩
theorem Keep.five {τ τ1 : Mem × Int64} (h : Keep τ τ1) : Keep5 τ τ1 := ⟨h.1, h.2.1, h.2.2.1, h.2.2.2.1, h.2.2.2.2.1⟩
theorem Keep.hash {τ τ1 : Mem × Int64} (h : Keep τ τ1) : τ1.2 = τ.2 := h.2.2.2.2.2.2
theorem Keep5.mx {τ τ1 : Mem × Int64} (h : Keep5 τ τ1) (a : Int64) : Keep5 τ (τ1.1, a) := h
theorem m_mix (a : Int64) (τ : Mem × Int64) : F_X4_mix a τ = some (τ.1, 31 * τ.2 + a) := rfl
theorem Rel.zz {σ : Mem} {τ : Mem × Int64} (R : Rel σ τ) : zOK (mz τ) := by rw [← R.1]; exact R.2.1.1
theorem b_count {σ : Mem} {τ : Mem × Int64} (R : Rel σ τ) {k : Nat} (hk : k ≤ 6) : ∃ v τ', F_X3_count (nI k) σ = some (.inr v) ∧ F_X4_counted (nI k) τ = some (v, τ') ∧ Keep τ τ' := by
  have hz := R.zz
  have hzz : mz τ = zv σ 6 := R.1.symm
  unfold F_X3_count
  obtain ⟨τ', len, e, K, S, hl, hle⟩ := m_laySpans hz
  obtain ⟨len2, hle2, hR, hend⟩ := R.2.1.2 1 (by omega) (by omega)
  have hz' : mz τ' = zv σ 6 := K.mz.trans hzz
  rw [hzz] at S hl hz
  have el : len = len2 := by
    have q1 := len_one hl (l2 := len2) (fun i hi => by obtain ⟨w, e, -⟩ := hR.2.2.2 i hi; exact ⟨w, e⟩)
    have q2 := len_one hend (l2 := len) (fun i hi => by obtain ⟨w, e, -⟩ := S.2 i hi; exact ⟨w, e⟩)
    omega
  subst el
  have h48 : σ 48 5 = nI len := hR.2.2.1
  have hzt : zOK (mz τ') := by rw [hz']; exact hz
  unfold F_X4_counted
  rw [e, Option.bind_some, S.1, h48, m_movers hzt, m_soFar, s_movers R.2.1.1, s_allTurned, show F_X1_turnedOf 6 (1 : Int32) σ = _ from s_turnedOf (c := 1) (by omega) (by omega), hz']
  rcases lt7 hk with rfl | rfl | rfl | rfl | rfl | rfl | rfl
  · refine ⟨σ 6 5, τ', by rw [if_pos (by decide)]; rfl, ?_, K⟩
    rw [if_pos (by decide)]
    show some (τ'.1 1 0, τ') = _
    rw [← mz_lo τ' (k := 0) (by omega), hz']; rfl
  · refine ⟨_, τ', by rw [if_neg (by decide), if_pos (by decide)]; rfl, ?_, K⟩
    rw [if_neg (by decide), if_pos (by decide)]; rfl
  · refine ⟨_, τ', by rw [if_neg (by decide), if_neg (by decide), if_pos (by decide)]; rfl, ?_, K⟩
    rw [if_neg (by decide), if_neg (by decide), if_pos (by decide)]
  · refine ⟨_, τ', by rw [if_neg (by decide), if_neg (by decide), if_neg (by decide), if_pos (by decide)]; rfl, ?_, K⟩
    rw [if_neg (by decide), if_neg (by decide), if_neg (by decide), if_pos (by decide)]; rfl
  · refine ⟨_, τ', by rw [if_neg (by decide), if_neg (by decide), if_neg (by decide), if_neg (by decide), if_pos (by decide)]; rfl, ?_, K⟩
    rw [if_neg (by decide), if_neg (by decide), if_neg (by decide), if_neg (by decide), if_pos (by decide)]
    show some (τ'.1 1 4, τ') = _
    rw [← mz_t τ' (c := 1) (by omega) (by omega), hz']
  · refine ⟨_, τ', by rw [if_neg (by decide), if_neg (by decide), if_neg (by decide), if_neg (by decide), if_neg (by decide), if_pos (by decide)]; rfl, ?_, K⟩
    rw [if_neg (by decide), if_neg (by decide), if_neg (by decide), if_neg (by decide), if_neg (by decide), if_pos (by decide)]; rfl
  · refine ⟨σ 0 3, τ', by rw [if_neg (by decide), if_neg (by decide), if_neg (by decide), if_neg (by decide), if_neg (by decide), if_neg (by decide), if_pos (by decide)]; rfl, ?_, K⟩
    rw [if_neg (by decide), if_neg (by decide), if_neg (by decide), if_neg (by decide), if_neg (by decide), if_neg (by decide)]
    obtain ⟨o, s, -, -, -, r2, r3, -⟩ := R.2.2.1
    rw [r2, ← r3, K.2.2.2.1]
theorem dg_count {σ : Mem} : ∀ (n k f1 f2 : Nat) (τ : Mem × Int64), k + n = 7 → n < f1 → n < f2 → Rel σ τ → ∃ τ', L_X3_digest_6 σ f1 τ.2 (nI k) = some τ'.2 ∧ L_X4_digest_14 f2 (nI k) τ = some τ' ∧ Keep5 τ τ' := by
  intro n
  induction n with
  | zero =>
    intro k f1 f2 τ hk h1 h2 R
    obtain ⟨f1, rfl⟩ : ∃ f, f1 = f + 1 := ⟨f1 - 1, by omega⟩
    obtain ⟨f2, rfl⟩ : ∃ f, f2 = f + 1 := ⟨f2 - 1, by omega⟩
    have : k = 7 := by omega
    subst this
    exact ⟨τ, by rw [L_X3_digest_6, if_pos (by decide)], by rw [L_X4_digest_14, if_pos (by decide)], Keep5.rf⟩
  | succ n ih =>
    intro k f1 f2 τ hk h1 h2 R
    obtain ⟨f1, rfl⟩ : ∃ f, f1 = f + 1 := ⟨f1 - 1, by omega⟩
    obtain ⟨f2, rfl⟩ : ∃ f, f2 = f + 1 := ⟨f2 - 1, by omega⟩
    obtain ⟨v, τ1, e1, e2, K⟩ := b_count R (k := k) (by omega)
    obtain ⟨τ', g1, g2, g3⟩ := ih (k + 1) f1 f2 (τ1.1, 31 * τ1.2 + v.toInt64) (by omega) (by omega) (by omega) ((K.five.mx _).rel R)
    have g1 : L_X3_digest_6 σ f1 (31 * τ1.2 + v.toInt64) (nI (k + 1)) = some τ'.2 := g1
    rw [K.hash] at g1
    refine ⟨τ', ?_, ?_, (K.five.mx _).tr g3⟩
    · rw [L_X3_digest_6, if_neg (show ¬ (6 : Int32) < nI k from n_lt (N := 6) rfl (by omega) (by omega)), e1]
      show L_X3_digest_6 σ f1 (31 * τ.2 + v.toInt64) (nI k + 1) = _
      rw [nI_1, g1]
    · rw [L_X4_digest_14, if_neg (show ¬ (7 : Int32) ≤ nI k from n_le (N := 7) rfl (by omega) (by omega)), e2, Option.bind_some, m_mix, Option.bind_some, nI_1, g2]
theorem dg_mover {σ : Mem} {i : Nat} (hi : i < 16) (ht : tk (zv σ 6) i = true) : ∀ (n k f1 f2 : Nat) (τ : Mem × Int64), k + n = 7 → n < f1 → n < f2 → Rel σ τ → ∃ τ', L_X3_withMover_13 (nI i) σ f1 τ.2 (nI k) = some τ'.2 ∧ L_X4_mixMover_8 (nI i) f2 (nI k) τ = some τ' ∧ Keep5 τ τ' := by
  intro n
  induction n with
  | zero =>
    intro k f1 f2 τ hk h1 h2 R
    obtain ⟨f1, rfl⟩ : ∃ f, f1 = f + 1 := ⟨f1 - 1, by omega⟩
    obtain ⟨f2, rfl⟩ : ∃ f, f2 = f + 1 := ⟨f2 - 1, by omega⟩
    have : k = 7 := by omega
    subst this
    exact ⟨τ, by rw [L_X3_withMover_13, if_pos (by decide)], by rw [L_X4_mixMover_8, if_pos (by decide)], Keep5.rf⟩
  | succ n ih =>
    intro k f1 f2 τ hk h1 h2 R
    obtain ⟨f1, rfl⟩ : ∃ f, f1 = f + 1 := ⟨f1 - 1, by omega⟩
    obtain ⟨f2, rfl⟩ : ∃ f, f2 = f + 1 := ⟨f2 - 1, by omega⟩
    have e1 := s_mover (k := k) R.2.1 hi (by omega) ht
    obtain ⟨τ1, e2, K⟩ := m_moverOf (τ := τ) (k := k) R.zz hi (by omega)
    rw [← R.1] at e2
    obtain ⟨τ', g1, g2, g3⟩ := ih (k + 1) f1 f2 (τ1.1, 31 * τ1.2 + (mvS (zv σ 6) i k).toInt64) (by omega) (by omega) (by omega) ((K.five.mx _).rel R)
    have g1 : L_X3_withMover_13 (nI i) σ f1 (31 * τ1.2 + (mvS (zv σ 6) i k).toInt64) (nI (k + 1)) = some τ'.2 := g1
    rw [K.hash] at g1
    refine ⟨τ', ?_, ?_, (K.five.mx _).tr g3⟩
    · rw [L_X3_withMover_13, if_neg (show ¬ (6 : Int32) < nI k from n_lt (N := 6) rfl (by omega) (by omega)), e1]
      show L_X3_withMover_13 (nI i) σ f1 (31 * τ.2 + (mvS (zv σ 6) i k).toInt64) (nI k + 1) = _
      rw [nI_1, g1]
    · rw [L_X4_mixMover_8, if_neg (show ¬ (7 : Int32) ≤ nI k from n_le (N := 7) rfl (by omega) (by omega)), e2, Option.bind_some, m_mix, Option.bind_some, nI_1, g2]
theorem s_least {σ : Mem} {i : Nat} {x : Int32} (h : CA σ) (hi : i < 16) (ht : tk (zv σ 6) i = true) (hx : 0 ≤ x.toInt ∧ x.toInt ≤ 999) : ∃ w, F_X3_leastSpeed (nI i) x σ = some (.inr w) ∧ LSp (lsP (zv σ 6) x.toInt i) w.toInt := by
  unfold F_X3_leastSpeed
  have hb : (0 : Int32).toInt ≤ x.toInt ∧ x.toInt ≤ (999 : Int32).toInt := hx
  have hf : F_X1_foremost 6 (0 : Int32) (16 : Int32) (nI i) x σ = some (enc (rv (zv σ 6) x.toInt i)) := s_foremost (a := 0) (hi := 16) (ex := nI i) (x := x) h.1 (by omega) (by omega) (by omega)
  rw [s_has h.1 hi, ht, Option.bind_some, if_c1, s_within, Option.bind_some, decide_eq_true hb, if_c1, hf, Option.bind_some]
  cases hr : rv (zv σ 6) x.toInt i with
  | none =>
    rw [if_neg (fun q : ¬ enc none = -1 => q rfl)]
    exact ⟨-99, rfl, Or.inl ⟨by decide, by decide, by unfold lsP; rw [hr], fun u u1 u2 => by
      have : (-99 : Int32).toInt = -99 := by decide
      omega⟩⟩
  | some j =>
    obtain ⟨j1, -, -, -⟩ := rv_some hi hr
    rw [if_pos (show ¬ enc (some j) = -1 from nI_ne_m1 (by omega))]
    obtain ⟨w, e2, hw⟩ := s_leastAgainst (σ := σ) (x := x) h.1 hi j1 (by omega)
    refine ⟨w, ?_, ?_⟩
    · rw [show enc (some j) = nI j from rfl, e2]; rfl
    · have : lsP (zv σ 6) x.toInt i = fun t => wb (zv σ 6) t x.toInt i j := by funext t; unfold lsP; rw [hr]
      rw [this]; exact hw
theorem s_bitsS {z : Zf} {i : Nat} (hz : zOK z) : F_X3_bitsOfShare (shS z i) = some (shS z i).toInt64 ∧ F_Jxe99ae_doubleToLongBits_ccdee (shS z i) = some (shS z i).toInt64 := by
  rcases shS_ok (z := z) (i := i) hz with h | h
  · rw [h]; exact ⟨s_bits0, m_bits nn_0⟩
  · exact ⟨s_bits h, m_bits h.nn⟩
theorem dg_withMover {σ : Mem} {i : Nat} {τ : Mem × Int64} (hi : i < 16) (ht : tk (zv σ 6) i = true) (R : Rel σ τ) : ∃ τ', F_X3_withMover τ.2 (nI i) σ = some τ'.2 ∧ F_X4_mixMover (nI i) τ = some τ' ∧ Keep5 τ τ' := by
  have R0 : Rel σ (τ.1, 31 * τ.2 + (nI i).toInt64) := (Keep5.rf.mx _ : Keep5 τ _).rel R
  obtain ⟨τ1, a1, a2, a3⟩ := dg_mover hi ht 7 0 FU FU (τ.1, 31 * τ.2 + (nI i).toInt64) rfl (by decide) (by decide) R0
  have R1 : Rel σ τ1 := a3.rel R0
  obtain ⟨w, b1, b2⟩ := s_least (x := 10) R.2.1 hi ht (by decide)
  obtain ⟨v, c1, c2⟩ := m_speedFor (τ := τ1) (x := 10) R1.zz hi (by rw [← R1.1]; exact ht) (by decide)
  rw [← R1.1] at c2
  have hwv : w = v := i32_eq.mpr (b2.one c2)
  subst hwv
  have R2 : Rel σ (τ1.1, 31 * τ1.2 + w.toInt64) := (Keep5.rf.mx _ : Keep5 τ1 _).rel R1
  obtain ⟨τ2, d1, K⟩ := m_share (τ := (τ1.1, 31 * τ1.2 + w.toInt64)) R2.zz hi
  have d0 := s_share R.2.1 hi ht
  rw [← R2.1] at d1
  obtain ⟨e1, e2⟩ := s_bitsS (z := zv σ 6) (i := i) R.2.1.1
  have kh : τ2.2 = 31 * τ1.2 + w.toInt64 := K.hash
  refine ⟨(τ2.1, 31 * τ2.2 + (shS (zv σ 6) i).toInt64), ?_, ?_, ?_⟩
  · unfold F_X3_withMover
    rw [show (31 : Int64) * τ.2 + (nI i).toInt64 = ((τ.1, 31 * τ.2 + (nI i).toInt64) : Mem × Int64).2 from rfl, show (0 : Int32) = nI 0 from rfl, a1, Option.bind_some, b1]
    show oR (F_X3_leadShare (nI i) σ) _ = _
    rw [d0]
    show Option.bind (F_X3_bitsOfShare (shS (zv σ 6) i)) _ = _
    rw [e1, Option.bind_some, kh]
  · unfold F_X4_mixMover
    rw [m_mix, Option.bind_some, show (0 : Int32) = nI 0 from rfl, a2, Option.bind_some, c1, Option.bind_some, m_mix, Option.bind_some, d1, Option.bind_some, e2, Option.bind_some, m_mix, Option.bind_some]
  · exact (Keep5.mx ((Keep5.rf.mx _ : Keep5 τ (τ.1, 31 * τ.2 + (nI i).toInt64)).tr (a3.tr ((Keep5.rf.mx _ : Keep5 τ1 (τ1.1, 31 * τ1.2 + w.toInt64)).tr K.five))) _)
theorem dg_movers {σ : Mem} : ∀ (n k f1 f2 : Nat) (τ : Mem × Int64), k + n = 16 → n < f1 → n < f2 → Rel σ τ → ∃ τ', L_X3_digest_59 σ f1 τ.2 (nI k) = some τ'.2 ∧ L_X4_digest_60 f2 (nI k) τ = some τ' ∧ Keep5 τ τ' := by
  intro n
  induction n with
  | zero =>
    intro k f1 f2 τ hk h1 h2 R
    obtain ⟨f1, rfl⟩ : ∃ f, f1 = f + 1 := ⟨f1 - 1, by omega⟩
    obtain ⟨f2, rfl⟩ : ∃ f, f2 = f + 1 := ⟨f2 - 1, by omega⟩
    have : k = 16 := by omega
    subst this
    exact ⟨τ, by rw [L_X3_digest_59, if_pos (by decide)], by rw [L_X4_digest_60, if_pos (by decide)], Keep5.rf⟩
  | succ n ih =>
    intro k f1 f2 τ hk h1 h2 R
    obtain ⟨f1, rfl⟩ : ∃ f, f1 = f + 1 := ⟨f1 - 1, by omega⟩
    obtain ⟨f2, rfl⟩ : ∃ f, f2 = f + 1 := ⟨f2 - 1, by omega⟩
    have hk16 : k < 16 := by omega
    rw [L_X3_digest_59, if_neg (show ¬ (16 : Int32) ≤ nI k from n_le (N := 16) rfl (by omega) (by omega)), s_has R.2.1.1 hk16, Option.bind_some]
    rw [L_X4_digest_60, if_neg (show ¬ (16 : Int32) ≤ nI k from n_le (N := 16) rfl (by omega) (by omega)), m_has hk16, Option.bind_some, ← R.1]
    cases ht : tk (zv σ 6) k with
    | false =>
      obtain ⟨τ', g1, g2, g3⟩ := ih (k + 1) f1 f2 τ (by omega) (by omega) (by omega) R
      exact ⟨τ', by rw [if_b0, Option.bind_some, nI_1, g1], by rw [if_b0, Option.bind_some, nI_1, g2], g3⟩
    | true =>
      obtain ⟨τ1, e1, e2, K⟩ := dg_withMover hk16 ht R
      obtain ⟨τ', g1, g2, g3⟩ := ih (k + 1) f1 f2 τ1 (by omega) (by omega) (by omega) (K.rel R)
      refine ⟨τ', ?_, ?_, K.tr g3⟩
      · rw [if_b1, e1, Option.bind_some, Option.bind_some, nI_1, g1]
      · rw [if_b1, e2, Option.bind_some, Option.bind_some, nI_1, g2]
theorem dv6 : ∀ j, j < 90 → (1 : Int32) + nI j / 6 = nI (1 + j / 6) ∧ nI j - nI j / 6 * 6 = nI (j % 6) := by decide +kernel
theorem dg_contest {σ : Mem} {c : Nat} (h1 : 1 ≤ c) (h2 : c ≤ 15) : ∀ (n k f1 f2 : Nat) (τ : Mem × Int64), k + n = 6 → n < f1 → Rel σ τ → ∃ τ', L_X3_digest_100 (nI c) σ f1 τ.2 (nI k) = some τ'.2 ∧ L_X4_digest_87 (f2 + n) (nI (6 * (c - 1) + k)) τ = L_X4_digest_87 f2 (nI (6 * c)) τ' ∧ Keep5 τ τ' := by
  intro n
  induction n with
  | zero =>
    intro k f1 f2 τ hk hf R
    obtain ⟨f1, rfl⟩ : ∃ f, f1 = f + 1 := ⟨f1 - 1, by omega⟩
    have : k = 6 := by omega
    subst this
    exact ⟨τ, by rw [L_X3_digest_100, if_pos (by decide)], by rw [show 6 * (c - 1) + 6 = 6 * c by omega]; rfl, Keep5.rf⟩
  | succ n ih =>
    intro k f1 f2 τ hk hf R
    obtain ⟨f1, rfl⟩ : ∃ f, f1 = f + 1 := ⟨f1 - 1, by omega⟩
    have e1 := s_contest (k := k) R.2.1 h1 h2 (by omega)
    obtain ⟨τ1, e2, K⟩ := m_contestOf (τ := τ) (k := k) R.zz h1 h2 (by omega)
    rw [← R.1] at e2
    obtain ⟨τ', g1, g2, g3⟩ := ih (k + 1) f1 f2 (τ1.1, 31 * τ1.2 + (coS (zv σ 6) c k).toInt64) (by omega) (by omega) ((K.five.mx _).rel R)
    have g1 : L_X3_digest_100 (nI c) σ f1 (31 * τ1.2 + (coS (zv σ 6) c k).toInt64) (nI (k + 1)) = some τ'.2 := g1
    rw [K.hash] at g1
    obtain ⟨d1, d2⟩ := dv6 (6 * (c - 1) + k) (by omega)
    rw [show (6 * (c - 1) + k) / 6 = c - 1 by omega, show 1 + (c - 1) = c by omega] at d1
    rw [show (6 * (c - 1) + k) % 6 = k by omega] at d2
    refine ⟨τ', ?_, ?_, (K.five.mx _).tr g3⟩
    · rw [L_X3_digest_100, if_neg (show ¬ (5 : Int32) < nI k from n_lt (N := 5) rfl (by omega) (by omega)), e1]
      show L_X3_digest_100 (nI c) σ f1 (31 * τ.2 + (coS (zv σ 6) c k).toInt64) (nI k + 1) = _
      rw [nI_1, g1]
    · rw [show f2 + (n + 1) = (f2 + n) + 1 by omega, L_X4_digest_87, if_neg (show ¬ (90 : Int32) ≤ nI (6 * (c - 1) + k) from n_le (N := 90) rfl (by omega) (by omega)), d1, d2, e2, Option.bind_some, m_mix, Option.bind_some, nI_1, show 6 * (c - 1) + k + 1 = 6 * (c - 1) + (k + 1) by omega, g2]
theorem dg_contests {σ : Mem} : ∀ (n c f1 f2 : Nat) (τ : Mem × Int64), c + n = 16 → 1 ≤ c → n < f1 → 6 * n < f2 → Rel σ τ → ∃ τ', L_X3_digest_91 σ f1 τ.2 (nI c) = some τ'.2 ∧ L_X4_digest_87 f2 (nI (6 * (c - 1))) τ = some τ' ∧ Keep5 τ τ' := by
  intro n
  induction n with
  | zero =>
    intro c f1 f2 τ hk hc h1 h2 R
    obtain ⟨f1, rfl⟩ : ∃ f, f1 = f + 1 := ⟨f1 - 1, by omega⟩
    obtain ⟨f2, rfl⟩ : ∃ f, f2 = f + 1 := ⟨f2 - 1, by omega⟩
    have : c = 16 := by omega
    subst this
    exact ⟨τ, by rw [L_X3_digest_91, if_pos (by decide)], by rw [L_X4_digest_87, if_pos (by decide)], Keep5.rf⟩
  | succ n ih =>
    intro c f1 f2 τ hk hc h1 h2 R
    obtain ⟨f1, rfl⟩ : ∃ f, f1 = f + 1 := ⟨f1 - 1, by omega⟩
    obtain ⟨τ1, e1, e2, K⟩ := dg_contest (σ := σ) hc (by omega) 6 0 FU (f2 - 6) τ rfl (by decide) R
    obtain ⟨τ', g1, g2, g3⟩ := ih (c + 1) f1 (f2 - 6) τ1 (by omega) (by omega) (by omega) (by omega) (K.rel R)
    refine ⟨τ', ?_, ?_, K.tr g3⟩
    · rw [L_X3_digest_91, if_neg (c15 (by omega)), show (0 : Int32) = nI 0 from rfl, e1, Option.bind_some, nI_1, g1]
    · rw [show f2 - 6 + 6 = f2 by omega, Nat.add_zero] at e2
      rw [e2, ← g2, show c + 1 - 1 = c by omega]
theorem dg_turn {σ : Mem} : ∀ (n k f1 f2 : Nat) (τ : Mem × Int64), k + n = 4 → n < f1 → n < f2 → Rel σ τ → ∃ τ', L_X3_digest_135 σ f1 τ.2 (nI k) = some τ'.2 ∧ L_X4_digest_120 f2 (nI k) τ = some τ' ∧ Keep5 τ τ' := by
  intro n
  induction n with
  | zero =>
    intro k f1 f2 τ hk h1 h2 R
    obtain ⟨f1, rfl⟩ : ∃ f, f1 = f + 1 := ⟨f1 - 1, by omega⟩
    obtain ⟨f2, rfl⟩ : ∃ f, f2 = f + 1 := ⟨f2 - 1, by omega⟩
    have : k = 4 := by omega
    subst this
    exact ⟨τ, by rw [L_X3_digest_135, if_pos (by decide)], by rw [L_X4_digest_120, if_pos (by decide)], Keep5.rf⟩
  | succ n ih =>
    intro k f1 f2 τ hk h1 h2 R
    obtain ⟨f1, rfl⟩ : ∃ f, f1 = f + 1 := ⟨f1 - 1, by omega⟩
    obtain ⟨f2, rfl⟩ : ∃ f, f2 = f + 1 := ⟨f2 - 1, by omega⟩
    have e1 := s_nextTurn (k := k) R.2.1 (by omega)
    obtain ⟨τ1, e2, K⟩ := m_turnOf (τ := τ) (k := k) R.zz (by omega)
    rw [← R.1] at e2
    obtain ⟨τ', g1, g2, g3⟩ := ih (k + 1) f1 f2 (τ1.1, 31 * τ1.2 + (ntS (zv σ 6) k).toInt64) (by omega) (by omega) (by omega) ((K.five.mx _).rel R)
    have g1 : L_X3_digest_135 σ f1 (31 * τ1.2 + (ntS (zv σ 6) k).toInt64) (nI (k + 1)) = some τ'.2 := g1
    rw [K.hash] at g1
    refine ⟨τ', ?_, ?_, (K.five.mx _).tr g3⟩
    · rw [L_X3_digest_135, if_neg (show ¬ (3 : Int32) < nI k from n_lt (N := 3) rfl (by omega) (by omega)), e1]
      show L_X3_digest_135 σ f1 (31 * τ.2 + (ntS (zv σ 6) k).toInt64) (nI k + 1) = _
      rw [nI_1, g1]
    · rw [L_X4_digest_120, if_neg (show ¬ (4 : Int32) ≤ nI k from n_le (N := 4) rfl (by omega) (by omega)), e2, Option.bind_some, m_mix, Option.bind_some, nI_1, g2]
theorem dv3 : ∀ j, j < 48 → nI j / 3 = nI (j / 3) ∧ nI j - nI j / 3 * 3 = nI (j % 3) := by decide +kernel
theorem ml3 : ∀ j, j < 17 → (3 : Int32) * nI j = nI (3 * j) := by decide +kernel
theorem b_span {σ : Mem} {τ : Mem × Int64} {len r k : Nat} (R : Rel σ τ) (S : Sp (zv σ 6) τ len) (h48 : σ 48 5 = nI len) (hle : len ≤ 16) (hr : r < len) (hk : k ≤ 2) : F_X3_span (nI r) (nI k) σ = some (.inr (spS (zv σ 6) r k)) ∧ F_X4_spanTold (nI r) (nI k) τ = some (spS (zv σ 6) r k) := by
  have hb : (0 : Int32).toInt ≤ (nI k).toInt ∧ (nI k).toInt ≤ (2 : Int32).toInt := by
    rw [nI_toInt (show k < 2 ^ 31 by omega), show (0 : Int32).toInt = 0 from by decide, show (2 : Int32).toInt = 2 from by decide]; omega
  have hz := R.2.1.1
  constructor
  · unfold F_X3_span
    rw [if_neg (nI_pos (by omega)), s_within, Option.bind_some, decide_eq_true hb, if_c1, h48, if_pos ((nI_lt_iff (by omega) (by omega)).mpr hr)]
    have hC := R.2.1.2 1 (by omega) (by omega)
    rcases lt3 hk with rfl | rfl | rfl
    · rw [if_neg (by decide), show F_X0_winnerIn 48 (nI r) σ = _ from s_winnerIn hC (by omega)]; rfl
    · rw [if_pos (by decide), if_neg (by decide), show F_X0_numerator 48 (nI r) (σ 6 5) σ = _ from s_num hC (by omega) _]; rfl
    · rw [if_pos (by decide), if_pos (by decide), show F_X0_denominator 48 (nI r) σ = _ from s_den hC (by omega)]; rfl
  · obtain ⟨w, s1, s2, s3, s4⟩ := S.2 r hr
    have hm := m_mom (τ := τ) (z := zv σ 6) hz (by omega) (by omega) s1 (by rw [R.1, mz_lo _ (by omega)])
    unfold F_X4_spanTold
    rw [if_pos (inb_nI (by omega) (by decide)), if_pos (inb_nI (by omega) (by decide)), if_pos (inb_nI (by omega) (by decide)), nI_clamp (by omega), s2, s3, s4]
    rcases lt3 hk with rfl | rfl | rfl
    · rw [if_neg (by decide)]; show some (nI w) = some (enc (ch (zv σ 6) 1 r)); rw [s1]; rfl
    · rw [if_pos (by decide), show nI 1 - (1 : Int32) = 0 from by decide, hm.1]; rfl
    · rw [if_pos (by decide), show nI 2 - (1 : Int32) = 1 from by decide, hm.2]; rfl
theorem dg_span {σ : Mem} {len r : Nat} (h48 : σ 48 5 = nI len) (hle : len ≤ 16) (hr : r < len) : ∀ (n k f1 f2 : Nat) (τ : Mem × Int64), k + n = 3 → n < f1 → Rel σ τ → Sp (zv σ 6) τ len → ∃ h', L_X3_withSpans_20 (nI r) σ f1 τ.2 (nI k) = some h' ∧ L_X4_digest_147 (f2 + n) (nI (3 * r + k)) τ = L_X4_digest_147 f2 (nI (3 * (r + 1))) (τ.1, h') := by
  intro n
  induction n with
  | zero =>
    intro k f1 f2 τ hk hf R S
    obtain ⟨f1, rfl⟩ : ∃ f, f1 = f + 1 := ⟨f1 - 1, by omega⟩
    have : k = 3 := by omega
    subst this
    exact ⟨τ.2, by rw [L_X3_withSpans_20, if_pos (by decide)], by rw [show 3 * r + 3 = 3 * (r + 1) by omega]; rfl⟩
  | succ n ih =>
    intro k f1 f2 τ hk hf R S
    obtain ⟨f1, rfl⟩ : ∃ f, f1 = f + 1 := ⟨f1 - 1, by omega⟩
    obtain ⟨e1, e2⟩ := b_span R S h48 hle hr (k := k) (by omega)
    obtain ⟨h', g1, g2⟩ := ih (k + 1) f1 f2 (τ.1, 31 * τ.2 + (spS (zv σ 6) r k).toInt64) (by omega) (by omega) ((Keep5.rf.mx _ : Keep5 τ _).rel R) S
    obtain ⟨d1, d2⟩ := dv3 (3 * r + k) (by omega)
    rw [show (3 * r + k) / 3 = r by omega] at d1
    rw [show (3 * r + k) % 3 = k by omega] at d2
    refine ⟨h', ?_, ?_⟩
    · rw [L_X3_withSpans_20, if_neg (show ¬ (2 : Int32) < nI k from n_lt (N := 2) rfl (by omega) (by omega)), e1]
      show L_X3_withSpans_20 (nI r) σ f1 (31 * τ.2 + (spS (zv σ 6) r k).toInt64) (nI k + 1) = _
      rw [nI_1]; exact g1
    · rw [show f2 + (n + 1) = (f2 + n) + 1 by omega, L_X4_digest_147, S.1, ml3 len (by omega), if_neg (fun q => absurd ((nI_le_iff (by omega) (by omega)).mp q) (by omega)), d2, d1, e2, Option.bind_some, m_mix, Option.bind_some, nI_1, show 3 * r + k + 1 = 3 * r + (k + 1) by omega, g2]
theorem dg_spans {σ : Mem} {len : Nat} (h48 : σ 48 5 = nI len) (hle : len ≤ 16) : ∀ (n r f1 f2 : Nat) (τ : Mem × Int64), r + n = len → n < f1 → 3 * n < f2 → Rel σ τ → Sp (zv σ 6) τ len → ∃ h', L_X3_withSpans_5 σ f1 τ.2 (nI r) = some h' ∧ L_X4_digest_147 f2 (nI (3 * r)) τ = some (τ.1, h') := by
  intro n
  induction n with
  | zero =>
    intro r f1 f2 τ hr h1 h2 R S
    obtain ⟨f1, rfl⟩ : ∃ f, f1 = f + 1 := ⟨f1 - 1, by omega⟩
    obtain ⟨f2, rfl⟩ : ∃ f, f2 = f + 1 := ⟨f2 - 1, by omega⟩
    have : r = len := by omega
    subst this
    refine ⟨τ.2, ?_, ?_⟩
    · rw [L_X3_withSpans_5, h48, if_pos ((nI_le_iff (by omega) (by omega)).mpr (Nat.le_refl _))]
    · rw [L_X4_digest_147, S.1, ml3 r (by omega), if_pos ((nI_le_iff (by omega) (by omega)).mpr (Nat.le_refl _))]
  | succ n ih =>
    intro r f1 f2 τ hr h1 h2 R S
    obtain ⟨f1, rfl⟩ : ∃ f, f1 = f + 1 := ⟨f1 - 1, by omega⟩
    obtain ⟨h', e1, e2⟩ := dg_span h48 hle (r := r) (by omega) 3 0 FU (f2 - 3) τ rfl (by decide) R S
    obtain ⟨h'', g1, g2⟩ := ih (r + 1) f1 (f2 - 3) (τ.1, h') (by omega) (by omega) (by omega) ((Keep5.rf.mx _ : Keep5 τ _).rel R) S
    refine ⟨h'', ?_, ?_⟩
    · rw [L_X3_withSpans_5, h48, if_neg (fun q => absurd ((nI_le_iff (by omega) (by omega)).mp q) (by omega)), show (0 : Int32) = nI 0 from rfl, e1, Option.bind_some, nI_1]; exact g1
    · rw [show f2 - 3 + 3 = f2 by omega, Nat.add_zero] at e2
      rw [e2]; exact g2
theorem dg_text {σ : Mem} {c : Nat → Nat} {L : Nat} (bs : BufS σ c L) : ∀ (n i f1 f2 : Nat) (τ : Mem × Int64), i + n = L → n < f1 → n < f2 → BufM τ c L → ∃ h', L_X2_hashedInto_15 σ f1 τ.2 (nI i) = some h' ∧ L_X4_digest_222 f2 (nI i) τ = some (τ.1, h') := by
  have hL := bs.1
  intro n
  induction n with
  | zero =>
    intro i f1 f2 τ hi h1 h2 bm
    obtain ⟨f1, rfl⟩ : ∃ f, f1 = f + 1 := ⟨f1 - 1, by omega⟩
    obtain ⟨f2, rfl⟩ : ∃ f, f2 = f + 1 := ⟨f2 - 1, by omega⟩
    have : i = L := by omega
    subst this
    refine ⟨τ.2, ?_, ?_⟩
    · rw [L_X2_hashedInto_15, bs.2.1, if_pos ((nI_le_iff (by omega) (by omega)).mpr (Nat.le_refl _))]
    · rw [L_X4_digest_222, bm.2.1, if_pos ((nI_le_iff (by omega) (by omega)).mpr (Nat.le_refl _))]
  | succ n ih =>
    intro i f1 f2 τ hi h1 h2 bm
    obtain ⟨f1, rfl⟩ : ∃ f, f1 = f + 1 := ⟨f1 - 1, by omega⟩
    obtain ⟨f2, rfl⟩ : ∃ f, f2 = f + 1 := ⟨f2 - 1, by omega⟩
    obtain ⟨h', g1, g2⟩ := ih (i + 1) f1 f2 (τ.1, 31 * τ.2 + (nI (c i)).toInt64) (by omega) (by omega) (by omega) bm
    refine ⟨h', ?_, ?_⟩
    · rw [L_X2_hashedInto_15, bs.2.1, if_neg (fun q => absurd ((nI_le_iff (by omega) (by omega)).mp q) (by omega)), s_code bs (by omega), Option.bind_some, nI_1]; exact g1
    · rw [L_X4_digest_222, bm.2.1, if_neg (fun q => absurd ((nI_le_iff (by omega) (by omega)).mp q) (by omega)), if_pos (inb_nI (by omega) (by decide)), nI_clamp (by omega), bm.2.2.1 i (by omega), m_mix, Option.bind_some, nI_1]; exact g2
theorem s_set0 (σ : Mem) : F_X3_setting (0 : Int32) σ = some (.inr (σ 6 6)) := by
  unfold F_X3_setting; rw [if_pos (by decide), if_neg (by decide)]; rfl
theorem s_set1 (σ : Mem) : F_X3_setting (1 : Int32) σ = some (.inr (σ 6 7)) := by
  unfold F_X3_setting; rw [if_neg (by decide), if_pos (by decide), if_pos (by decide)]; rfl
theorem s_leader {σ : Mem} {a : Int32} (h : CA σ) (hb : 0 ≤ a.toInt ∧ a.toInt ≤ 9999) : F_X3_leaderAfter a σ = some (.inr (enc (win (zv σ 6) a.toInt 1 1))) := by
  have hb' : (0 : Int32).toInt ≤ a.toInt ∧ a.toInt ≤ (9999 : Int32).toInt := hb
  unfold F_X3_leaderAfter
  obtain ⟨len, hle, hR, hend⟩ := h.2 1 (by omega) (by omega)
  have hp := tw_lt (z := zv σ 6) (x := a.toInt) (by omega) (by omega) hend
  rw [s_within, Option.bind_some, decide_eq_true hb', if_c1, show F_X0_turnsWithin 48 a σ = _ from s_turnsWithin h.1 (h.2 1 (by omega) (by omega)) (by omega) (by omega) hb, Option.bind_some,
    show F_X0_winnerIn 48 (nI (tw (zv σ 6) 1 a.toInt)) σ = _ from s_winnerIn (h.2 1 (by omega) (by omega)) (by omega), tw_at _ (by omega) (by omega) hb.1]; rfl
theorem s_turnsInX {σ : Mem} {a : Int32} (h : CA σ) (hb : 0 ≤ a.toInt ∧ a.toInt ≤ 999) : F_X3_turnsIn a σ = some (.inr (sumT (fun c => nI (tw (zv σ 6) c a.toInt)) 15 1 0)) := by
  have hb' : (0 : Int32).toInt ≤ a.toInt ∧ a.toInt ≤ (999 : Int32).toInt := hb
  unfold F_X3_turnsIn
  rw [s_within, Option.bind_some, decide_eq_true hb', if_c1, show (1 : Int32) = nI 1 from rfl, s_turnsIn h (by omega) 15 1 FU 0 rfl (by omega) (by decide)]; rfl
theorem o_digest {σ : Mem} {τ : Mem × Int64} (R : Rel σ τ) : ∃ v τ', F_X3_digest σ = some v ∧ F_X4_digest τ = some (v, τ') ∧ Keep5 τ τ' := by
  have K0 : Keep5 τ ((up2 τ.1 0 5 (0 : Int32)), (2557 : Int64)) := (t0_k5 τ).mx _
  have R0 := K0.rel R
  have fu : 100 < FU := by decide
  obtain ⟨τ1, a1, a2, K1⟩ := dg_count (σ := σ) 7 0 FU FU ((up2 τ.1 0 5 (0 : Int32)), (2557 : Int64)) rfl (by omega) (by omega) R0
  have R1 := K1.rel R0
  have hz := R.2.1.1
  have z1 : τ1.1 1 1 = σ 6 6 := by rw [← mz_lo τ1 (k := 1) (by omega), ← R1.1]; rfl
  have z2 : τ1.1 1 2 = σ 6 7 := by rw [← mz_lo τ1 (k := 2) (by omega), ← R1.1]; rfl
  have K2 : Keep5 τ1 (τ1.1, 31 * (31 * τ1.2 + (σ 6 6).toInt64) + (σ 6 7).toInt64) := Keep5.rf.mx _
  have R2 := K2.rel R1
  obtain ⟨τ3, b1, b2, K3⟩ := dg_movers (σ := σ) 16 0 FU FU _ rfl (by omega) (by omega) R2
  have R3 := K3.rel R2
  obtain ⟨τ4, c1, c2, K4⟩ := dg_contests (σ := σ) 15 1 FU FU _ rfl (by omega) (by omega) (by omega) R3
  have R4 := K4.rel R3
  obtain ⟨τ5, d1, d2, K5⟩ := dg_turn (σ := σ) 4 0 FU FU _ rfl (by omega) (by omega) R4
  have R5 := K5.rel R4
  obtain ⟨τ6, len, e, K6, S, hl, hle⟩ := m_laySpans R5.zz
  have R6 := K6.five.rel R5
  obtain ⟨len2, hle2, hR, hend⟩ := R.2.1.2 1 (by omega) (by omega)
  rw [← R5.1] at S hl
  have el : len = len2 := by
    have q1 := len_one hl (l2 := len2) (fun i hi => by obtain ⟨w, e, -⟩ := hR.2.2.2 i hi; exact ⟨w, e⟩)
    have q2 := len_one hend (l2 := len) (fun i hi => by obtain ⟨w, e, -⟩ := S.2 i hi; exact ⟨w, e⟩)
    omega
  subst el
  have h48 : σ 48 5 = nI len := hR.2.2.1
  obtain ⟨h7, f1, f2⟩ := dg_spans h48 hle len 0 FU FU τ6 (by omega) (by omega) (by omega) R6 S
  have K7 : Keep5 τ6 (τ6.1, h7) := Keep5.rf.mx _
  have R7 := K7.rel R6
  have hh : 1 ≤ (σ 6 7).toInt ∧ (σ 6 7).toInt ≤ 999 := hz.2.2.2.2.2
  have y2 : τ6.1 1 2 = σ 6 7 := by rw [← mz_lo τ6 (k := 2) (by omega), ← R6.1]; rfl
  have hw := m_winnerAt (τ := (τ6.1, h7)) (c := 1) (a := (σ 6 7).toInt64) (b := 1) R7.zz (by omega) (by omega) (by rw [toL]; omega) (by decide)
  rw [toL, ← R7.1] at hw
  have hw' : F_X4_winnerAt (1 : Int32) (σ 6 7).toInt64 (1 : Int64) (τ6.1, h7) = some (enc (win (zv σ 6) (σ 6 7).toInt 1 1)) := hw
  have hs1 := s_leader (a := σ 6 7) R.2.1 (by omega)
  have hs2 := s_turnsInX (a := σ 6 7) R.2.1 (by omega)
  have K8 : Keep5 (τ6.1, h7) (τ6.1, 31 * h7 + (enc (win (zv σ 6) (σ 6 7).toInt 1 1)).toInt64) := Keep5.rf.mx _
  have R8 := K8.rel R7
  obtain ⟨τ9, g, K9⟩ := m_turnsAll (x := σ 6 7) R8.zz (by omega)
  rw [← R8.1] at g
  have R9 := K9.five.rel R8
  obtain ⟨c, L, bs, -⟩ := R.2.2.2.buf
  have bm : BufM τ9 c L := by
    obtain ⟨L9, q1, q2, q3, q4⟩ := R9.2.2.2
    have eL : L9 = L := (nI_eq (by omega) (by have := bs.1; omega)).mp (q2.symm.trans bs.2.1)
    subst eL
    refine ⟨q1, q3, fun i hi => ?_, bs.2.2.2.1, bs.2.2.2.2⟩
    obtain ⟨k, -, -, u1, u2⟩ := q4 i hi
    rw [u2, ← u1]; exact bs.2.2.1 i hi
  have h9 : τ9.2 = 31 * h7 + (enc (win (zv σ 6) (σ 6 7).toInt 1 1)).toInt64 := K9.hash
  obtain ⟨hE, x1, x2⟩ := dg_text bs L 0 FU FU (τ9.1, 31 * (31 * τ9.2 + (sumT (fun c => nI (tw (zv σ 6) c (σ 6 7).toInt)) 15 1 0).toInt64) + (nI L).toInt64) (by omega) (by have := bs.1; omega) (by have := bs.1; omega) bm
  refine ⟨hE, (τ9.1, hE), ?_, ?_, ?_⟩
  · unfold F_X3_digest
    rw [show (0 : Int32) = nI 0 from rfl, show (2557 : Int64) = (((up2 τ.1 0 5 (nI 0)), (2557 : Int64)) : Mem × Int64).2 from rfl, a1, Option.bind_some, show F_X3_setting (nI 0) σ = _ from s_set0 σ, oR_inr, s_set1, oR_inr]
    rw [show (31 : Int64) * (31 * τ1.2 + (σ 6 6).toInt64) + (σ 6 7).toInt64 = ((τ1.1, 31 * (31 * τ1.2 + (σ 6 6).toInt64) + (σ 6 7).toInt64) : Mem × Int64).2 from rfl, b1, Option.bind_some, show (1 : Int32) = nI 1 from rfl, c1, Option.bind_some, d1, Option.bind_some]
    unfold F_X3_withSpans
    rw [← K6.hash, show (0 : Int32) = nI 0 from rfl, f1, Option.bind_some, Option.bind_some, hs1, oR_inr, hs2, oR_inr]
    unfold F_X2_hashedInto
    rw [bs.2.1, ← h9]
    have x1 : L_X2_hashedInto_15 σ FU (31 * (31 * τ9.2 + (sumT (fun c => nI (tw (zv σ 6) c (σ 6 7).toInt)) 15 1 0).toInt64) + (nI L).toInt64) (0 : Int32) = some hE := x1
    rw [x1]; rfl
  · unfold F_X4_digest
    rw [show (0 : Int32) = nI 0 from rfl]
    have a2 : L_X4_digest_14 FU (nI 0) ((up2 τ.1 0 5 (nI 0)), (2557 : Int64)) = some τ1 := a2
    rw [a2, Option.bind_some, m_mix, Option.bind_some, m_mix, Option.bind_some, z1, z2, b2, Option.bind_some]
    have c2 : L_X4_digest_87 FU (nI 0) τ3 = some τ4 := c2
    have f2 : L_X4_digest_147 FU (nI 0) τ6 = some (τ6.1, h7) := f2
    rw [c2, Option.bind_some, d2, Option.bind_some, e, Option.bind_some, f2, Option.bind_some, y2, hw', Option.bind_some, m_mix, Option.bind_some, y2, g, Option.bind_some, m_mix, Option.bind_some, m_mix, Option.bind_some, bm.2.1, x2]; rfl
  · exact K0.tr (K1.tr (K2.tr (K3.tr (K4.tr (K5.tr (K6.five.tr (K7.tr (K8.tr (K9.five.tr (Keep5.rf.mx _))))))))))
