/-! what the class tells of its courses, in numbers -/
def CK (σ : Mem) : Prop := ∀ c, 1 ≤ c → c ≤ 15 → σ (44 + 4 * c) 0 = nI (lo c) ∧ σ (44 + 4 * c) 1 = nI (lo c + sz c)
def CA (σ : Mem) : Prop := zOK (zv σ 6) ∧ ∀ c, 1 ≤ c → c ≤ 15 → CoOK σ (zv σ 6) c
theorem CA.ck {σ : Mem} (h : CA σ) : CK σ := fun c h1 h2 => by
  obtain ⟨len, -, hR, -⟩ := h.2 c h1 h2
  exact ⟨hR.1, hR.2.1⟩
def wnum (z : Zf) (c r : Nat) (t : Int32) : Int32 := match ch z c r with
  | none => 0
  | some _ => t * nI (qB z c r) + nI (qA z c r)
def wden (z : Zf) (c r : Nat) : Int32 := match ch z c r with
  | none => 0
  | some _ => nI (qB z c r)
def twf (z : Zf) (c : Nat) (x : Int) : Nat → Nat → Nat
  | 0, r => r
  | f + 1, r => match ch z c (r + 1) with
    | none => r
    | some _ => if mA z c (r + 1) ≤ x * mB z c (r + 1) then twf z c x f (r + 1) else r
/-- how many turns up to x later -/
def tw (z : Zf) (c : Nat) (x : Int) : Nat := twf z c x 16 0
def TW (z : Zf) (c : Nat) (x : Int) (p : Nat) : Prop := (∀ r, 1 ≤ r → r ≤ p → ∃ k, ch z c r = some k ∧ mA z c r ≤ x * mB z c r) ∧ (∀ k, ch z c (p + 1) = some k → x * mB z c (p + 1) < mA z c (p + 1))
theorem twf_spec {z : Zf} {c : Nat} {x : Int} (h1 : 1 ≤ c) (h2 : c ≤ 15) : ∀ (f r : Nat), 16 ≤ r + f → (∀ i, 1 ≤ i → i ≤ r → ∃ k, ch z c i = some k ∧ mA z c i ≤ x * mB z c i) → TW z c x (twf z c x f r) := by
  intro f
  induction f with
  | zero =>
    intro r hr h
    refine ⟨h, fun k hk => ?_⟩
    have := ch_len h1 h2 hk
    rw [twf] at this; omega
  | succ f ih =>
    intro r hr h
    rw [twf]
    cases hc : ch z c (r + 1) with
    | none => exact ⟨h, fun k hk => by rw [hc] at hk; cases hk⟩
    | some w =>
      by_cases hm : mA z c (r + 1) ≤ x * mB z c (r + 1)
      · simp only [hm, if_true]
        refine ih (r + 1) (by omega) (fun i i1 i2 => ?_)
        by_cases e : i = r + 1
        · subst e; exact ⟨w, hc, hm⟩
        · exact h i i1 (by omega)
      · simp only [hm, if_false]
        exact ⟨h, fun k hk => by omega⟩
theorem tw_spec {z : Zf} {c : Nat} (x : Int) (h1 : 1 ≤ c) (h2 : c ≤ 15) : TW z c x (tw z c x) := twf_spec h1 h2 16 0 (by omega) (fun i i1 i2 => by omega)
theorem TW.iff {z : Zf} {c : Nat} {x : Int} {p r k : Nat} (h : TW z c x p) (hr : 1 ≤ r) (hk : ch z c r = some k) : mA z c r ≤ x * mB z c r ↔ r ≤ p := by
  constructor
  · intro hm
    rcases Nat.lt_or_ge p r with q | q
    · have h3 := ch_by hk hm (show p + 1 ≤ r by omega)
      obtain ⟨w, hw⟩ := ch_prev hk (show p + 1 ≤ r by omega)
      have := h.2 w hw
      omega
    · exact q
  · intro hp
    obtain ⟨k', -, h2⟩ := h.1 r hr hp
    exact h2
theorem TW.one {z : Zf} {c : Nat} {x : Int} {p q : Nat} (h : TW z c x p) (h' : TW z c x q) : p = q := by
  rcases Nat.lt_trichotomy p q with l | l | l
  · obtain ⟨k, hk, hm⟩ := h'.1 (p + 1) (by omega) (by omega)
    have := h.2 k hk; omega
  · exact l
  · obtain ⟨k, hk, hm⟩ := h.1 (q + 1) (by omega) (by omega)
    have := h'.2 k hk; omega
theorem tw_lt {z : Zf} {c : Nat} {x : Int} {len : Nat} (h1 : 1 ≤ c) (h2 : c ≤ 15) (he : ch z c len = none) : tw z c x ≤ len - 1 := by
  have h := tw_spec (z := z) x h1 h2
  rcases Nat.eq_zero_or_pos (tw z c x) with q | q
  · omega
  · obtain ⟨k, hk, -⟩ := h.1 (tw z c x) q (Nat.le_refl _)
    rcases Nat.lt_or_ge (tw z c x) len with l | l
    · omega
    · rw [ch_end he _ l] at hk; cases hk
section LK
variable {σ : Mem} {z : Zf} {c : Nat}
theorem s_courseOf (h1 : 1 ≤ c) (h2 : c ≤ 15) : F_X3_courseOf (nI c) σ = some (44 + 4 * c) := by
  unfold F_X3_courseOf
  have a1 : ¬ nI c < (1 : Int32) := fun q => absurd ((nI_lt_iff (b := 1) (by omega) (by omega)).mp q) (by omega)
  have a2 : nI c ≤ (15 : Int32) := (nI_le_iff (b := 15) (by omega) (by omega)).mpr h2
  have a3 : inb1 (nI c) 16 = true := by
    unfold inb1
    rw [inb_nI (by omega) (by decide), nI_clamp (by omega)]
    simp; omega
  rw [if_neg a1, if_pos a2, if_pos a3, nI_clamp (by omega)]
theorem s_hasRow {len r : Nat} (hl : σ (44 + 4 * c) 5 = nI len) (hle : len ≤ 16) (hr : r < 2 ^ 31) : F_X0_hasRow (44 + 4 * c) (nI r) σ = some (b2i (decide (r < len))) := by
  unfold F_X0_hasRow
  rw [if_neg (nI_pos hr), hl]
  by_cases h : r < len
  · rw [if_neg (fun q => absurd ((nI_le_iff (by omega) hr).mp q) (by omega)), if_neg (fun q : (16 : Int32) ≤ nI r => absurd ((nI_le_iff (a := 16) (by omega) hr).mp q) (by omega)), decide_eq_true h]; rfl
  · rw [if_pos ((nI_le_iff (by omega) hr).mpr (by omega)), decide_eq_false h]; rfl
theorem s_winnerIn (h : CoOK σ z c) {r : Nat} (hr : r < 2 ^ 31) : F_X0_winnerIn (44 + 4 * c) (nI r) σ = some (enc (ch z c r)) := by
  obtain ⟨len, hle, ⟨-, -, h5, hrow⟩, hend⟩ := h
  unfold F_X0_winnerIn
  rw [s_hasRow h5 hle hr, Option.bind_some]
  by_cases hl : r < len
  · obtain ⟨w, e1, e2, -, -⟩ := hrow r hl
    rw [decide_eq_true hl, if_neg (by decide), if_pos (inb_nI (by omega) (by decide)), nI_clamp hr, e2, e1]; rfl
  · rw [decide_eq_false hl, if_pos (by decide), ch_end hend r (by omega)]; rfl
theorem s_num (h : CoOK σ z c) {r : Nat} (hr : r < 2 ^ 31) (t : Int32) : F_X0_numerator (44 + 4 * c) (nI r) t σ = some (wnum z c r t) := by
  obtain ⟨len, hle, ⟨-, -, h5, hrow⟩, hend⟩ := h
  unfold F_X0_numerator wnum
  rw [s_hasRow h5 hle hr, Option.bind_some]
  by_cases hl : r < len
  · obtain ⟨w, e1, -, e2, e3⟩ := hrow r hl
    rw [decide_eq_true hl, if_neg (by decide), if_pos (inb_nI (by omega) (by decide)), if_pos (inb_nI (by omega) (by decide)), nI_clamp hr, e2, e3, e1]
  · rw [decide_eq_false hl, if_pos (by decide), ch_end hend r (by omega)]
theorem s_den (h : CoOK σ z c) {r : Nat} (hr : r < 2 ^ 31) : F_X0_denominator (44 + 4 * c) (nI r) σ = some (wden z c r) := by
  obtain ⟨len, hle, ⟨-, -, h5, hrow⟩, hend⟩ := h
  unfold F_X0_denominator wden
  rw [s_hasRow h5 hle hr, Option.bind_some]
  by_cases hl : r < len
  · obtain ⟨w, e1, -, e2, e3⟩ := hrow r hl
    rw [decide_eq_true hl, if_neg (by decide), if_pos (inb_nI (by omega) (by decide)), nI_clamp hr, e3, e1]
  · rw [decide_eq_false hl, if_pos (by decide), ch_end hend r (by omega)]
theorem s_numM (t : Int32) : F_X0_numerator (44 + 4 * c) (-1) t σ = some 0 := by
  unfold F_X0_numerator F_X0_hasRow
  rw [if_pos (by decide)]; rfl
theorem s_denM : F_X0_denominator (44 + 4 * c) (-1) σ = some 0 := by
  unfold F_X0_denominator F_X0_hasRow
  rw [if_pos (by decide)]; rfl
/-- the row in which a mover wins -/
def rof (z : Zf) (c i : Nat) : Nat → Nat → Option Nat
  | 0, _ => none
  | m + 1, r => match ch z c r with
    | none => none
    | some w => if w = i then some r else rof z c i m (r + 1)
def ro (z : Zf) (c i : Nat) : Option Nat := rof z c i 17 0
theorem rof_some {z : Zf} {c i : Nat} : ∀ (m r k : Nat), rof z c i m r = some k → r ≤ k ∧ ch z c k = some i := by
  intro m
  induction m with
  | zero => intro r k h; cases h
  | succ m ih =>
    intro r k h
    rw [rof] at h
    cases hc : ch z c r with
    | none => rw [hc] at h; cases h
    | some w =>
      rw [hc] at h
      by_cases e : w = i
      · simp only [e, if_true] at h; cases h; exact ⟨Nat.le_refl _, by rw [hc, e]⟩
      · simp only [e, if_false] at h
        obtain ⟨a, b⟩ := ih (r + 1) k h
        exact ⟨by omega, b⟩
theorem ro_ch {z : Zf} {c i k : Nat} (h : ro z c i = some k) : ch z c k = some i := (rof_some 17 0 k h).2
theorem s_rowOf (h : CoOK σ z c) {i : Nat} (hi : i < 16) (h1 : 1 ≤ c) (h2 : c ≤ 15) : F_X0_rowOf (44 + 4 * c) (nI i) σ = some (enc (ro z c i)) := by
  obtain ⟨len, hle, ⟨-, -, h5, hrow⟩, hend⟩ := h
  have hs := (sz_lo h1 h2).1
  have key : ∀ (m r fu : Nat), r + m = 16 → m < fu → L_X0_rowOf_2 (44 + 4 * c) (nI i) σ fu (nI r) = some (enc (rof z c i (m + 1) r)) := by
    intro m
    induction m with
    | zero =>
      intro r fu hr hf
      obtain ⟨f, rfl⟩ : ∃ f, fu = f + 1 := ⟨fu - 1, by omega⟩
      rw [L_X0_rowOf_2, if_pos (show (16 : Int32) ≤ nI r by rw [show r = 16 by omega]; decide), rof]
      have : ch z c r = none := by
        cases hc : ch z c r with
        | none => rfl
        | some w => have := ch_len h1 h2 hc; omega
      rw [this]; rfl
    | succ m ih =>
      intro r fu hr hf
      obtain ⟨f, rfl⟩ : ∃ f, fu = f + 1 := ⟨fu - 1, by omega⟩
      rw [L_X0_rowOf_2, if_neg (fun q : (16 : Int32) ≤ nI r => absurd ((nI_le_iff (a := 16) (by omega) (by omega)).mp q) (by omega)), h5]
      by_cases hl : r < len
      · obtain ⟨w, e1, e2, -, -⟩ := hrow r hl
        have hsl := ch_slot e1
        rw [if_neg (fun q => absurd ((nI_le_iff (by omega) (by omega)).mp q) (by omega)), if_pos (inb_nI (by omega) (by decide)), nI_clamp (by omega), e2, rof, e1]
        simp only [nI_eq_iff (show w < 2 ^ 31 by omega) (show i < 2 ^ 31 by omega)]
        by_cases e : w = i
        · simp [e, enc]
        · simp only [e, not_false_eq_true, if_true, if_false]
          show L_X0_rowOf_2 (44 + 4 * c) (nI i) σ f (nI r + 1) = _
          rw [nI_1]
          exact ih (r + 1) f (by omega) (by omega)
      · rw [if_pos ((nI_le_iff (by omega) (by omega)).mpr (by omega)), rof, ch_end hend r (by omega)]; rfl
  unfold F_X0_rowOf
  exact key 16 0 FU (by omega) (by decide)
/-- turns up to x later -/
theorem s_turnsWithin (hz : zOK z) (h : CoOK σ z c) (h1 : 1 ≤ c) (h2 : c ≤ 15) {x : Int32} (hx : 0 ≤ x.toInt ∧ x.toInt ≤ 9999) : F_X0_turnsWithin (44 + 4 * c) x σ = some (nI (tw z c x.toInt)) := by
  obtain ⟨len, hle, ⟨-, -, h5, hrow⟩, hend⟩ := h
  have hT := tw_spec (z := z) x.toInt h1 h2
  have hp := tw_lt (z := z) (x := x.toInt) h1 h2 hend
  generalize hpe : tw z c x.toInt = p at hT hp
  have key : ∀ (m r fu : Nat), r + m = 16 → 1 ≤ r → m < fu → L_X0_turnsWithin_4 (44 + 4 * c) x σ fu (nI (min (r - 1) p)) (nI r) = some (nI p) := by
    intro m
    induction m with
    | zero =>
      intro r fu hr hr1 hf
      obtain ⟨f, rfl⟩ : ∃ f, fu = f + 1 := ⟨fu - 1, by omega⟩
      rw [L_X0_turnsWithin_4, if_pos (show (16 : Int32) ≤ nI r by rw [show r = 16 by omega]; decide), show min (r - 1) p = p by omega]
    | succ m ih =>
      intro r fu hr hr1 hf
      obtain ⟨f, rfl⟩ : ∃ f, fu = f + 1 := ⟨fu - 1, by omega⟩
      rw [L_X0_turnsWithin_4, if_neg (fun q : (16 : Int32) ≤ nI r => absurd ((nI_le_iff (a := 16) (by omega) (by omega)).mp q) (by omega)), h5]
      by_cases hl : r < len
      · obtain ⟨w, e1, -, e2, e3⟩ := hrow r hl
        obtain ⟨g, g0, -, g1, g2, g3, g4, g5⟩ := q_mul hz h1 h2 e1
        rw [if_neg (fun q => absurd ((nI_le_iff (by omega) (by omega)).mp q) (by omega)), if_pos (inb_nI (by omega) (by decide)), if_pos (inb_nI (by omega) (by decide)), nI_clamp (by omega), e2, e3]
        have ea : (nI (qA z c r)).toInt64.toInt = (qA z c r : Int) := by rw [toL, nI_toInt (by omega)]
        have eb : (nI (qB z c r)).toInt64.toInt = (qB z c r : Int) := by rw [toL, nI_toInt (by omega)]
        obtain ⟨m1, -⟩ := mulL (x := x.toInt64) (y := (nI (qB z c r)).toInt64) (B := 9999) (C := 198) (by rw [toL]; omega) (by rw [eb]; omega) (by decide)
        rw [toL, eb] at m1
        have hcond : (0 < lg_cmp (nI (qA z c r)).toInt64 (x.toInt64 * (nI (qB z c r)).toInt64)) ↔ ¬ r ≤ p := by
          rw [lgc_gt, m1, ea, ← hT.iff hr1 e1, g1, g2]
          have e4 : x.toInt * ((g * qB z c r : Nat) : Int) = (x.toInt * (qB z c r : Int)) * (g : Int) := by
            rw [Int.natCast_mul, Int.mul_comm (g : Int), Int.mul_assoc]
          have e5 : ((g * qA z c r : Nat) : Int) = (qA z c r : Int) * (g : Int) := by rw [Int.natCast_mul, Int.mul_comm]
          rw [e4, e5]
          constructor
          · intro h h'
            have := mul_lt_l h (show (0 : Int) < g by omega)
            omega
          · intro h
            rcases Int.lt_or_le (x.toInt * (qB z c r : Int)) (qA z c r : Int) with q | q
            · exact q
            · exact absurd (mul_le_l q (show (0 : Int) ≤ g by omega)) h
        by_cases hrp : r ≤ p
        · rw [if_neg (fun q => (hcond.mp q) hrp), Option.bind_some]
          show L_X0_turnsWithin_4 (44 + 4 * c) x σ f (nI _ + 1) (nI r + 1) = _
          rw [nI_1, nI_1, show min (r - 1) p + 1 = min (r + 1 - 1) p by omega]
          exact ih (r + 1) f (by omega) (by omega) (by omega)
        · rw [if_pos (hcond.mpr hrp), Option.bind_some]
          show L_X0_turnsWithin_4 (44 + 4 * c) x σ f (nI _) (nI r + 1) = _
          rw [nI_1, show min (r - 1) p = min (r + 1 - 1) p by omega]
          exact ih (r + 1) f (by omega) (by omega) (by omega)
      · rw [if_pos ((nI_le_iff (by omega) (by omega)).mpr (by omega)), show min (r - 1) p = p by omega]
  unfold F_X0_turnsWithin
  have := key 15 1 FU (by omega) (by omega) (by decide)
  rw [show nI (min (1 - 1) p) = (0 : Int32) by rw [show min (1 - 1) p = 0 by omega]; rfl, show nI 1 = (1 : Int32) from rfl] at this
  rw [this]; rfl
end LK
