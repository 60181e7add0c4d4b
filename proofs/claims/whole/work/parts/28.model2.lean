/-! the reference: moments, turns, the first turn, spans, in numbers -/
/-- what the reference's looks leave as it was -/
def Keep (τ τ' : Mem × Int64) : Prop := τ'.1 1 = τ.1 1 ∧ τ'.1 2 = τ.1 2 ∧ τ'.1 3 = τ.1 3 ∧ τ'.1 0 2 = τ.1 0 2 ∧ τ'.1 0 4 = τ.1 0 4 ∧ τ'.1 0 5 = τ.1 0 5 ∧ τ'.2 = τ.2
theorem Keep.rf {τ : Mem × Int64} : Keep τ τ := ⟨rfl, rfl, rfl, rfl, rfl, rfl, rfl⟩
theorem Keep.tr {τ τ1 τ2 : Mem × Int64} (h : Keep τ τ1) (g : Keep τ1 τ2) : Keep τ τ2 := by
  obtain ⟨a1, a2, a3, a4, a5, a6, a7⟩ := h
  obtain ⟨b1, b2, b3, b4, b5, b6, b7⟩ := g
  exact ⟨b1.trans a1, b2.trans a2, b3.trans a3, b4.trans a4, b5.trans a5, b6.trans a6, b7.trans a7⟩
theorem Keep.mz {τ τ' : Mem × Int64} (h : Keep τ τ') : mz τ' = mz τ := mz_cong h.1
/-- a place of the object that is scratch -/
theorem Keep.up0 {τ : Mem × Int64} {k : Nat} {v : Int32} (h2 : k ≠ 2) (h4 : k ≠ 4) (h5 : k ≠ 5) : Keep τ (up2 τ.1 0 k v, τ.2) := by
  refine ⟨up2_ne τ.1 (x := 0) (y := 1) (k := k) (v := v) (by omega), up2_ne τ.1 (x := 0) (y := 2) (k := k) (v := v) (by omega), up2_ne τ.1 (x := 0) (y := 3) (k := k) (v := v) (by omega), ?_, ?_, ?_, rfl⟩
  · exact up2_nk τ.1 (by omega)
  · exact up2_nk τ.1 (by omega)
  · exact up2_nk τ.1 (by omega)
theorem Keep.upx {τ : Mem × Int64} {x k : Nat} {v : Int32} (h : 4 ≤ x) : Keep τ (up2 τ.1 x k v, τ.2) := by
  refine ⟨up2_ne τ.1 (x := x) (y := 1) (k := k) (v := v) (by omega), up2_ne τ.1 (x := x) (y := 2) (k := k) (v := v) (by omega), up2_ne τ.1 (x := x) (y := 3) (k := k) (v := v) (by omega), ?_, ?_, ?_, rfl⟩ <;> exact congrFun (up2_ne τ.1 (by omega)) _
theorem Keep.sN (τ : Mem × Int64) (w a b : Int32) : Keep τ (sN τ w a b) :=
  (Keep.up0 (k := 8) (by omega) (by omega) (by omega)).tr ((Keep.up0 (τ := (up2 τ.1 0 8 w, τ.2)) (k := 6) (by omega) (by omega) (by omega)).tr (Keep.up0 (τ := (up2 (up2 τ.1 0 8 w) 0 6 a, τ.2)) (k := 7) (by omega) (by omega) (by omega)))
section M2
variable {τ : Mem × Int64}
/-- a row's moment out of the reference's numbers -/
theorem m_mom {z : Zf} {c r k : Nat} (hz : zOK z) (h1 : 1 ≤ c) (h2 : c ≤ 15) (h : ch z c r = some k) (hτ : τ.1 1 0 = z 0) :
    F_X4_moment (nI (mA z c r).toNat) (nI (mB z c r).toNat) 0 τ = some (wnum z c r (z 0)) ∧ F_X4_moment (nI (mA z c r).toNat) (nI (mB z c r).toNat) 1 τ = some (wden z c r) := by
  obtain ⟨b1, b2, b3, b4⟩ := row_bd hz h1 h2 h
  have ht := hz.2.2.2.2.1
  have e0 : z 0 = nI (z 0).toInt.toNat := i_nI (by omega)
  have hm : (z 0).toInt.toNat * (mB z c r).toNat ≤ 9999 * 198 := Nat.mul_le_mul (by omega) (by omega)
  obtain ⟨m1, m2⟩ := s_moment (τ := τ) (t := (z 0).toInt.toNat) (a := (mA z c r).toNat) (b := (mB z c r).toNat) (by rw [hτ]; exact e0) (by omega) (by omega) (by omega)
  rw [m1, m2]
  unfold wnum wden
  rw [h]
  constructor
  · show some (nI ((z 0).toInt.toNat * qB z c r + qA z c r)) = some (z 0 * nI (qB z c r) + nI (qA z c r))
    rw [← nI_add, ← pk_mul, ← e0]
  · rfl
/-- the next one's numbers -/
theorem n_next {z : Zf} {c r w : Nat} (hz : zOK z) (h1 : 1 ≤ c) (h2 : c ≤ 15) (h : ch z c r = some w) : nxt z c w = ch z c (r + 1) ∧ ∀ k, ch z c (r + 1) = some k → nA z w (some k) = nI (mA z c (r + 1)).toNat ∧ nB z w (some k) = nI (mB z c (r + 1)).toNat := by
  refine ⟨by rw [ch, h]; rfl, fun k hk => ?_⟩
  obtain ⟨w', hw', -, e1, e2⟩ := ch_succ hk
  rw [h] at hw'; cases hw'
  have s1 := ch_slot h
  have s2 := ch_slot hk
  have hs := (sz_lo h1 h2).1
  obtain ⟨a1, a2, -⟩ := nAB hz (show w < 16 by omega) (show k < 16 by omega)
  obtain ⟨t1, t2, t3, t4⟩ := turn_bd hz h1 h2 hk
  exact ⟨i_nI (by rw [a1, ← e1]; omega), i_nI (by rw [a2, ← e2]; omega)⟩
/-- the note behind layNext of the row r's winner -/
def nN (z : Zf) (c r : Nat) (τ : Mem × Int64) : Mem × Int64 := match ch z c r with
  | none => sN τ (-1) 0 0
  | some k => sN τ (nI k) (nI (mA z c r).toNat) (nI (mB z c r).toNat)
theorem nN_sN (z : Zf) (c r : Nat) (τ : Mem × Int64) (w a b : Int32) : nN z c r (sN τ w a b) = nN z c r τ := by
  unfold nN
  cases ch z c r with
  | none => exact sN_sN _ _ _ _ _ _ _
  | some k => exact sN_sN _ _ _ _ _ _ _
theorem nN_nN (z : Zf) (c r c' r' : Nat) (τ : Mem × Int64) : nN z c r (nN z c' r' τ) = nN z c r τ := by
  unfold nN
  cases ch z c' r' with
  | none => exact nN_sN z c r τ _ _ _
  | some k => exact nN_sN z c r τ _ _ _
theorem nN_keep (z : Zf) (c r : Nat) (τ : Mem × Int64) : Keep τ (nN z c r τ) := by
  unfold nN
  cases ch z c r with
  | none => exact Keep.sN _ _ _ _
  | some k => exact Keep.sN _ _ _ _
theorem nN_8 (z : Zf) (c r : Nat) (τ : Mem × Int64) : (nN z c r τ).1 0 8 = enc (ch z c r) := by
  unfold nN
  cases ch z c r with
  | none => exact sN_8 _ _ _ _
  | some k => exact sN_8 _ _ _ _
theorem nN_6 {z : Zf} {c r k : Nat} (τ : Mem × Int64) (h : ch z c r = some k) : (nN z c r τ).1 0 6 = nI (mA z c r).toNat ∧ (nN z c r τ).1 0 7 = nI (mB z c r).toNat := by
  unfold nN; rw [h]; exact ⟨sN_6 _ _ _ _, sN_7 _ _ _ _⟩
theorem nN_6n {z : Zf} {c r : Nat} (τ : Mem × Int64) (h : ch z c r = none) : (nN z c r τ).1 0 6 = 0 ∧ (nN z c r τ).1 0 7 = 0 := by
  unfold nN; rw [h]; exact ⟨sN_6 _ _ _ _, sN_7 _ _ _ _⟩
theorem m_lay {c r : Nat} (hz : zOK (mz τ)) (h1 : 1 ≤ c) (h2 : c ≤ 15) : F_X4_layNext (nI c) (enc (ch (mz τ) c r)) τ = some (nN (mz τ) c (r + 1) τ) := by
  have hs := (sz_lo h1 h2).1
  cases hc : ch (mz τ) c r with
  | none =>
    show F_X4_layNext (nI c) (-1) τ = _
    rw [m_layNextM h1 h2]
    unfold nN
    rw [ch_end hc (r + 1) (by omega)]
  | some w =>
    have s1 := ch_slot hc
    obtain ⟨e1, e2⟩ := n_next hz h1 h2 hc
    show F_X4_layNext (nI c) (nI w) τ = _
    rw [m_layNext hz h1 h2 (by omega), e1]
    unfold nN
    cases hk : ch (mz τ) c (r + 1) with
    | none => rfl
    | some k => rw [(e2 k hk).1, (e2 k hk).2]; rfl
/-- how often a contest turns -/
theorem m_turnsOf {c : Nat} {x : Int32} (hz : zOK (mz τ)) (h1 : 1 ≤ c) (h2 : c ≤ 15) (hx : 0 ≤ x.toInt ∧ x.toInt ≤ 9999) : ∃ τ', F_X4_turnsOf (nI c) x τ = some (nI (tw (mz τ) c x.toInt), τ') ∧ ∃ r, τ' = nN (mz τ) c r τ := by
  have hT := tw_spec (z := mz τ) x.toInt h1 h2
  generalize hp : tw (mz τ) c x.toInt = p at hT
  have hp16 : p ≤ 15 := by
    rcases Nat.eq_zero_or_pos p with q | q
    · omega
    · obtain ⟨k, hk, -⟩ := hT.1 p q (Nat.le_refl _)
      have := ch_len h1 h2 hk
      omega
  have key : ∀ (m r fu : Nat), r + m = p → m + 1 < fu → ∃ τ', L_X4_turnsOf_16 (nI c) x fu (nI r) (nN (mz τ) c (r + 1) τ) = some (nI p, τ') ∧ ∃ r, τ' = nN (mz τ) c r τ := by
    intro m
    induction m with
    | zero =>
      intro r fu hr hf
      obtain ⟨f, rfl⟩ : ∃ f, fu = f + 1 := ⟨fu - 1, by omega⟩
      have hrp : r = p := by omega
      subst hrp
      rw [L_X4_turnsOf_16, nN_8]
      cases hk : ch (mz τ) c (r + 1) with
      | none => exact ⟨_, by rw [if_pos (show enc none = -1 from rfl)], r + 1, rfl⟩
      | some k =>
        have s1 := ch_slot hk
        have hs := (sz_lo h1 h2).1
        obtain ⟨t1, t2, t3, t4⟩ := turn_bd hz h1 h2 hk
        have hgt := hT.2 k hk
        have eb : (nI (mB (mz τ) c (r + 1)).toNat).toInt64.toInt = mB (mz τ) c (r + 1) := by rw [toL, nI_toInt (by omega)]; omega
        have ea : (nI (mA (mz τ) c (r + 1)).toNat).toInt64.toInt = mA (mz τ) c (r + 1) := by rw [toL, nI_toInt (by omega)]; omega
        obtain ⟨m1, -⟩ := mulL (x := x.toInt64) (y := (nI (mB (mz τ) c (r + 1)).toNat).toInt64) (B := 9999) (C := 198) (by rw [toL]; omega) (by rw [eb]; omega) (by decide)
        rw [toL, eb] at m1
        refine ⟨_, by rw [if_neg (show ¬ enc (some k) = -1 from nI_ne_m1 (by omega)), (nN_6 τ hk).1, (nN_6 τ hk).2, if_pos (lgc_gt.mpr (by rw [m1, ea]; exact hgt))], r + 1, rfl⟩
    | succ m ih =>
      intro r fu hr hf
      obtain ⟨f, rfl⟩ : ∃ f, fu = f + 1 := ⟨fu - 1, by omega⟩
      obtain ⟨k, hk, hle⟩ := hT.1 (r + 1) (by omega) (by omega)
      have s1 := ch_slot hk
      have hs := (sz_lo h1 h2).1
      obtain ⟨t1, t2, t3, t4⟩ := turn_bd hz h1 h2 hk
      have eb : (nI (mB (mz τ) c (r + 1)).toNat).toInt64.toInt = mB (mz τ) c (r + 1) := by rw [toL, nI_toInt (by omega)]; omega
      have ea : (nI (mA (mz τ) c (r + 1)).toNat).toInt64.toInt = mA (mz τ) c (r + 1) := by rw [toL, nI_toInt (by omega)]; omega
      obtain ⟨m1, -⟩ := mulL (x := x.toInt64) (y := (nI (mB (mz τ) c (r + 1)).toNat).toInt64) (B := 9999) (C := 198) (by rw [toL]; omega) (by rw [eb]; omega) (by decide)
      rw [toL, eb] at m1
      have hz' : zOK (mz (nN (mz τ) c (r + 1) τ)) := by rw [(nN_keep _ _ _ _).mz]; exact hz
      have hl := m_lay (τ := nN (mz τ) c (r + 1) τ) (r := r + 1) hz' h1 h2
      rw [(nN_keep _ _ _ _).mz, nN_nN] at hl
      rw [L_X4_turnsOf_16, nN_8, hk, if_neg (show ¬ enc (some k) = -1 from nI_ne_m1 (by omega)), (nN_6 τ hk).1, (nN_6 τ hk).2, if_neg (fun q => absurd (lgc_gt.mp q) (by rw [m1, ea]; omega)), ← hk, hl, Option.bind_some]
      show ∃ τ', L_X4_turnsOf_16 (nI c) x f (nI r + 1) _ = _ ∧ _
      rw [nI_1]
      exact ih (r + 1) f (by omega) (by omega)
  obtain ⟨τ', k1, k2⟩ := key p 0 FU (by omega) (by show p + 1 < 1000; omega)
  refine ⟨τ', ?_, k2⟩
  unfold F_X4_turnsOf
  rw [m_winnerOf hz h1 h2, Option.bind_some, m_lay hz h1 h2, Option.bind_some]
  show Option.bind (L_X4_turnsOf_16 (nI c) x FU (nI 0) _) _ = _
  rw [k1]
  rfl
/-- the sum over the contests, in the order in which both sum -/
def sumT (f : Nat → Int32) : Nat → Nat → Int32 → Int32
  | 0, _, a => a
  | m + 1, c, a => sumT f m (c + 1) (a + f c)
theorem m_turnsAll {x : Int32} (hz : zOK (mz τ)) (hx : 0 ≤ x.toInt ∧ x.toInt ≤ 9999) : ∃ τ', F_X4_turnsAll x τ = some (sumT (fun c => nI (tw (mz τ) c x.toInt)) 15 1 0, τ') ∧ Keep τ τ' := by
  have key : ∀ (m c fu : Nat) (a : Int32) (τ1 : Mem × Int64), c + m = 16 → 1 ≤ c → m < fu → Keep τ τ1 → ∃ τ', L_X4_turnsAll_4 x fu a (nI c) τ1 = some (sumT (fun c => nI (tw (mz τ) c x.toInt)) m c a, τ') ∧ Keep τ τ' := by
    intro m
    induction m with
    | zero =>
      intro c fu a τ1 hc h1 hf hk
      obtain ⟨f, rfl⟩ : ∃ f, fu = f + 1 := ⟨fu - 1, by omega⟩
      exact ⟨τ1, by rw [L_X4_turnsAll_4, if_pos (show (15 : Int32) < nI c from (nI_lt_iff (a := 15) (by omega) (by omega)).mpr (by omega))]; rfl, hk⟩
    | succ m ih =>
      intro c fu a τ1 hc h1 hf hk
      obtain ⟨f, rfl⟩ : ∃ f, fu = f + 1 := ⟨fu - 1, by omega⟩
      have hz1 : zOK (mz τ1) := by rw [hk.mz]; exact hz
      obtain ⟨τ2, g1, r, g2⟩ := m_turnsOf (τ := τ1) hz1 h1 (show c ≤ 15 by omega) hx
      rw [hk.mz] at g1 g2
      rw [L_X4_turnsAll_4, if_neg (fun q : (15 : Int32) < nI c => absurd ((nI_lt_iff (a := 15) (by omega) (by omega)).mp q) (by omega)), g1, Option.bind_some]
      show ∃ τ', L_X4_turnsAll_4 x f _ (nI c + 1) τ2 = _ ∧ _
      rw [nI_1]
      obtain ⟨τ', i1, i2⟩ := ih (c + 1) f (a + nI (tw (mz τ) c x.toInt)) τ2 (by omega) (by omega) (by omega) (hk.tr (by rw [g2]; exact nN_keep _ _ _ _))
      exact ⟨τ', i1, i2⟩
  obtain ⟨τ', k1, k2⟩ := key 15 1 FU 0 τ rfl (by omega) (by decide) Keep.rf
  refine ⟨τ', ?_, k2⟩
  unfold F_X4_turnsAll
  show Option.bind (L_X4_turnsAll_4 x FU 0 (nI 1) τ) _ = _
  rw [k1]; rfl
/-- the contest that turns first, of those below c -/
def efS (z : Zf) (f : Option Nat) (c : Nat) : Option Nat := match ch z c 1 with
  | none => f
  | some _ => match f with
    | none => some c
    | some g => if mA z c 1 * mB z g 1 < mA z g 1 * mB z c 1 then some c else f
def efF (z : Zf) : Nat → Nat → Option Nat → Option Nat
  | 0, _, f => f
  | m + 1, c, f => efF z m (c + 1) (efS z f c)
def ef (z : Zf) : Option Nat := efF z 15 1 none
/-- how many of those below c turn when g does -/
def tieB (z : Zf) (g c : Nat) : Bool := (ch z c 1).isSome && !decide (mA z g 1 * mB z c 1 < mA z c 1 * mB z g 1)
/-- what is known of the first: f of those from 1 to below c, n of them with it -/
def efI (z : Zf) (c : Nat) (f : Option Nat) (n : Nat) : Prop := match f with
  | none => n = 0 ∧ ∀ d, 1 ≤ d → d < c → ch z d 1 = none
  | some g => 1 ≤ g ∧ g < c ∧ (∃ k, ch z g 1 = some k) ∧ (∀ d, 1 ≤ d → d < c → ∀ k, ch z d 1 = some k → mA z g 1 * mB z d 1 ≤ mA z d 1 * mB z g 1) ∧ n = fb_ct (fun d => decide (1 ≤ d) && tieB z g d) c
theorem fb_ct_one {p : Nat → Bool} {c : Nat} (h : ∀ d, d < c → p d = false) (hc : p c = true) : fb_ct p (c + 1) = 1 := by
  rw [fb_ct_succ, fb_ct_zero.mpr h, hc]; rfl
def efN (z : Zf) (c : Nat) (f : Option Nat) (n : Nat) : Nat := match ch z c 1 with
  | none => n
  | some _ => match f with
    | none => 1
    | some g => if mA z c 1 * mB z g 1 < mA z g 1 * mB z c 1 then 1 else if mA z c 1 * mB z g 1 = mA z g 1 * mB z c 1 then n + 1 else n
theorem ef_step {z : Zf} {c n : Nat} {f : Option Nat} (h1 : 1 ≤ c) (hI : efI z c f n) : efI z (c + 1) (efS z f c) (efN z c f n) := by
  unfold efN
  unfold efS
  cases hc : ch z c 1 with
  | none =>
    cases f with
    | none =>
      obtain ⟨a1, a2⟩ := hI
      refine ⟨a1, fun d d1 d2 => ?_⟩
      by_cases e : d = c
      · rw [e]; exact hc
      · exact a2 d d1 (by omega)
    | some g =>
      obtain ⟨a1, a2, a3, a4, a5⟩ := hI
      refine ⟨a1, by omega, a3, fun d d1 d2 k hk => ?_, ?_⟩
      · by_cases e : d = c
        · rw [e, hc] at hk; cases hk
        · exact a4 d d1 (by omega) k hk
      · rw [fb_ct_succ, ← a5]
        simp [tieB, hc]
  | some k =>
    cases f with
    | none =>
      obtain ⟨a1, a2⟩ := hI
      refine ⟨h1, by omega, ⟨k, hc⟩, fun d d1 d2 k' hk => ?_, ?_⟩
      · by_cases e : d = c
        · rw [e]; exact Int.le_refl _
        · rw [a2 d d1 (by omega)] at hk; cases hk
      · refine (fb_ct_one (fun d hd => ?_) ?_).symm
        · by_cases d1 : 1 ≤ d
          · simp [tieB, a2 d d1 hd]
          · simp [d1]
        · simp [tieB, hc, h1]
    | some g =>
      obtain ⟨a1, a2, ⟨kg, a3⟩, a4, a5⟩ := hI
      have bc := (ch_lead hc).1
      have bg := (ch_lead a3).1
      by_cases hlt : mA z c 1 * mB z g 1 < mA z g 1 * mB z c 1
      · simp only [hlt, if_true]
        refine ⟨h1, by omega, ⟨k, hc⟩, fun d d1 d2 k' hk => ?_, ?_⟩
        · by_cases e : d = c
          · rw [e]; exact Int.le_refl _
          · have bd := (ch_lead hk).1
            exact (fr_tr bc bg bd (by omega) (a4 d d1 (by omega) k' hk)).1
        · refine (fb_ct_one (fun d hd => ?_) ?_).symm
          · by_cases d1 : 1 ≤ d
            · cases hd1 : ch z d 1 with
              | none => simp [tieB, hd1]
              | some k' =>
                have bd := (ch_lead hd1).1
                have := (fr_tr bc bg bd (by omega) (a4 d d1 (by omega) k' hd1)).2 (Or.inl hlt)
                simp [tieB, hd1, this]
            · simp [d1]
          · simp [tieB, hc, h1]
      · simp only [hlt, if_false]
        refine ⟨a1, by omega, ⟨kg, a3⟩, fun d d1 d2 k' hk => ?_, ?_⟩
        · by_cases e : d = c
          · rw [e]; omega
          · exact a4 d d1 (by omega) k' hk
        · rw [fb_ct_succ, ← a5]
          by_cases he : mA z c 1 * mB z g 1 = mA z g 1 * mB z c 1
          · have : ¬ mA z g 1 * mB z c 1 < mA z c 1 * mB z g 1 := by omega
            simp [tieB, hc, h1, he]
          · have : mA z g 1 * mB z c 1 < mA z c 1 * mB z g 1 := by omega
            simp [tieB, hc, h1, he, this]
end M2
