/-! looks of both sides, in numbers: the loser, the contest that turns first, how many turn with it -/
/-- the one who comes from the side s -/
def cf (z : Zf) (c s : Nat) : Option Nat := if c < 8 then ch z (2 * c + s) 0 else if tk z (2 * (c - 8) + s) then some (2 * (c - 8) + s) else none
def los (z : Zf) (c : Nat) : Option Nat := match cf z c 0, cf z c 1 with
  | some a, some b => if ch z c 0 = some a then some b else some a
  | _, _ => none
theorem half_lo : ∀ c, c < 8 → 1 ≤ c → ∀ s, s < 2 → lo (2 * c + s) = lo c + s * (sz c / 2) ∧ sz (2 * c + s) = sz c / 2 ∧ sz c = sz c / 2 + sz c / 2 := by decide
theorem pair_lo : ∀ c, c < 16 → 8 ≤ c → lo c = 2 * (c - 8) ∧ sz c = 2 := by decide
theorem ch0 (z : Zf) (c : Nat) : ch z c 0 = win z 0 1 c := rfl
theorem cf_B (z : Zf) {c s : Nat} (h1 : 1 ≤ c) (h2 : c ≤ 15) (hs : s < 2) : isB (tk z) (ah z 0 1) (lo c + s * (sz c / 2)) (lo c + s * (sz c / 2) + sz c / 2) (cf z c s) := by
  unfold cf
  by_cases h : c < 8
  · rw [if_pos h, ch0]
    obtain ⟨a, b, -⟩ := half_lo c h h1 s hs
    rw [← a, ← b]
    exact win_B z 0 1 (2 * c + s)
  · rw [if_neg h]
    obtain ⟨a, b⟩ := pair_lo c (by omega) (by omega)
    rw [a, b]
    by_cases ht : tk z (2 * (c - 8) + s) = true
    · rw [if_pos ht]
      refine ⟨by omega, by omega, ht, fun j j1 j2 j3 j4 => absurd (show j = 2 * (c - 8) + s by omega) j4⟩
    · rw [if_neg ht]
      intro j j1 j2
      rw [show j = 2 * (c - 8) + s by omega]
      exact Bool.not_eq_true _ ▸ ht
theorem isB_sub {t : Nat → Bool} {g : Nat → Nat → Bool} {l h l' h' w : Nat} (hB : isB t g l h (some w)) (h1 : l ≤ l') (h2 : h' ≤ h) (h3 : l' ≤ w) (h4 : w < h') : isB t g l' h' (some w) :=
  ⟨h3, h4, hB.2.2.1, fun j j1 j2 j3 j4 => hB.2.2.2 j (by omega) (by omega) j3 j4⟩
theorem ah_as (z : Zf) (a b : Int) : ∀ i j, tk z i = true → tk z j = true → ah z a b i j = true → ah z a b j i = false := fun _ _ _ _ h => lx_asym h
theorem sz_half {c : Nat} (h1 : 1 ≤ c) (h2 : c ≤ 15) : sz c = sz c / 2 + sz c / 2 := by
  have : ∀ c, c < 16 → 1 ≤ c → sz c = sz c / 2 + sz c / 2 := by decide
  exact this c (by omega) h1
theorem cf_some {z : Zf} {c s a : Nat} (h1 : 1 ≤ c) (h2 : c ≤ 15) (hs : s < 2) (h : cf z c s = some a) : lo c + s * (sz c / 2) ≤ a ∧ a < lo c + s * (sz c / 2) + sz c / 2 ∧ tk z a = true := by
  have := cf_B z h1 h2 hs
  rw [h] at this
  exact ⟨this.1, this.2.1, this.2.2.1⟩
theorem cf_none {z : Zf} {c : Nat} (h1 : 1 ≤ c) (h2 : c ≤ 15) (h : ch z c 0 = none) : cf z c 0 = none := by
  cases e : cf z c 0 with
  | none => rfl
  | some a =>
    obtain ⟨a1, a2, a3⟩ := cf_some h1 h2 (by omega) e
    have hw := win_B z 0 1 c
    rw [← ch0, h] at hw
    have := sz_half h1 h2
    have := hw a (by omega) (by omega)
    rw [a3] at this; cases this
theorem cf_side {z : Zf} {c w : Nat} (h1 : 1 ≤ c) (h2 : c ≤ 15) (h : ch z c 0 = some w) : (cf z c 0 = some w ∧ w < lo c + sz c / 2) ∨ (cf z c 1 = some w ∧ lo c + sz c / 2 ≤ w) := by
  have hw := win_B z 0 1 c
  rw [← ch0, h] at hw
  have hh := sz_half h1 h2
  have hwr : lo c ≤ w ∧ w < lo c + sz c := ⟨hw.1, hw.2.1⟩
  rcases Nat.lt_or_ge w (lo c + sz c / 2) with q | q
  · left
    refine ⟨isB_one (ah_as z 0 1) (cf_B z h1 h2 (s := 0) (by omega)) (isB_sub hw (by omega) (by omega) (by omega) (by omega)), q⟩
  · right
    refine ⟨isB_one (ah_as z 0 1) (cf_B z h1 h2 (s := 1) (by omega)) (isB_sub hw (by omega) (by omega) (by omega) (by omega)), q⟩
theorem cf_16 {z : Zf} {c s a : Nat} (h1 : 1 ≤ c) (h2 : c ≤ 15) (hs : s < 2) (h : cf z c s = some a) : a < 16 := by
  obtain ⟨-, a2, -⟩ := cf_some h1 h2 hs h
  have := sz_half h1 h2
  have := (sz_lo h1 h2).1
  have : s * (sz c / 2) ≤ 1 * (sz c / 2) := Nat.mul_le_mul_right _ (by omega)
  omega
theorem ix_pair : ∀ c, c < 16 → 8 ≤ c → ∀ s, s < 2 → ((2 : Int32) * (nI c - (8 : Int32))) + nI s = nI (2 * (c - 8) + s) := by decide +kernel
theorem ix_half : ∀ c, c < 8 → ∀ s, s < 2 → ((2 : Int32) * nI c) + nI s = nI (2 * c + s) := by decide +kernel
section S31
variable {σ : Mem}
theorem s_coming {c s : Nat} (h : CA σ) (h1 : 1 ≤ c) (h2 : c ≤ 15) (hs : s < 2) : F_X3_comingFrom (nI c) (nI s) σ = some (enc (cf (zv σ 6) c s)) := by
  unfold F_X3_comingFrom cf
  by_cases hc : c < 8
  · rw [if_neg (fun q : (8 : Int32) ≤ nI c => absurd ((nI_le_iff (a := 8) (by omega) (by omega)).mp q) (by omega)), ix_half c hc s hs, s_winnerOf h (by omega) (by omega), if_pos hc, Option.bind_some]
  · rw [if_pos (show (8 : Int32) ≤ nI c from (nI_le_iff (a := 8) (by omega) (by omega)).mpr (by omega)), ix_pair c (by omega) (by omega) s hs, s_has h.1 (by omega), if_neg hc, Option.bind_some]
    cases tk (zv σ 6) (2 * (c - 8) + s) with
    | false => rw [if_b0]; rfl
    | true => rw [if_b1]; rfl
theorem s_loser {c : Nat} (h : CA σ) (h1 : 1 ≤ c) (h2 : c ≤ 15) : F_X3_loserOf (nI c) σ = some (enc (los (zv σ 6) c)) := by
  unfold F_X3_loserOf los
  have q0 : F_X3_comingFrom (nI c) (0 : Int32) σ = some (enc (cf (zv σ 6) c 0)) := s_coming (s := 0) h h1 h2 (by omega)
  have q1 : F_X3_comingFrom (nI c) (1 : Int32) σ = some (enc (cf (zv σ 6) c 1)) := s_coming (s := 1) h h1 h2 (by omega)
  rw [q0, Option.bind_some, q1, Option.bind_some, s_winnerOf h h1 h2]
  cases ha : cf (zv σ 6) c 0 with
  | none => rw [if_pos (show enc none = -1 from rfl)]; rfl
  | some a =>
    have a16 := cf_16 h1 h2 (by omega) ha
    rw [if_neg (show ¬ enc (some a) = -1 from nI_ne_m1 (by omega))]
    cases hb : cf (zv σ 6) c 1 with
    | none => rw [if_neg (fun q : ¬ enc none = -1 => q rfl)]; rfl
    | some b =>
      have b16 := cf_16 h1 h2 (by omega) hb
      rw [if_pos (show ¬ enc (some b) = -1 from nI_ne_m1 (by omega)), Option.bind_some]
      show (if ¬ enc (ch (zv σ 6) c 0) = nI a then _ else _) = _
      simp only [enc_some (ch_31 (z := zv σ 6) (r := 0) h1 h2) (show a < 2 ^ 31 by omega)]
      by_cases e : ch (zv σ 6) c 0 = some a
      · simp [e]
      · simp [e]
theorem row1 {c : Nat} {z : Zf} (h : CoOK σ z c) : (σ (44 + 4 * c) 5 ≤ (1 : Int32)) ↔ ch z c 1 = none := by
  obtain ⟨len, hle, ⟨-, -, h5, hrow⟩, hend⟩ := h
  rw [h5, show (1 : Int32) = nI 1 from rfl, nI_le_iff (by omega) (by omega)]
  constructor
  · intro q; exact ch_end hend 1 q
  · intro q
    rcases Nat.lt_or_ge 1 len with l | l
    · obtain ⟨w, e, -⟩ := hrow 1 l
      rw [q] at e; cases e
    · exact l
theorem q_cross {z : Zf} {c g k j : Nat} (hz : zOK z) (c1 : 1 ≤ c) (c2 : c ≤ 15) (g1 : 1 ≤ g) (g2 : g ≤ 15) (hc : ch z c 1 = some k) (hg : ch z g 1 = some j) :
    ((qA z c 1 : Int) * (qB z g 1 : Int) < (qA z g 1 : Int) * (qB z c 1 : Int)) ↔ mA z c 1 * mB z g 1 < mA z g 1 * mB z c 1 := by
  obtain ⟨x, x0, -, xa, xb, -⟩ := q_mul hz c1 c2 hc
  obtain ⟨y, y0, -, ya, yb, -⟩ := q_mul hz g1 g2 hg
  rw [xa, xb, ya, yb]
  have e1 : ((x * qA z c 1 : Nat) : Int) * ((y * qB z g 1 : Nat) : Int) = ((qA z c 1 : Int) * (qB z g 1 : Int)) * ((x * y : Nat) : Int) := by
    simp only [Int.natCast_mul]; ac_rfl
  have e2 : ((y * qA z g 1 : Nat) : Int) * ((x * qB z c 1 : Nat) : Int) = ((qA z g 1 : Int) * (qB z c 1 : Int)) * ((x * y : Nat) : Int) := by
    simp only [Int.natCast_mul]; ac_rfl
  rw [e1, e2]
  have hxy : (0 : Int) < ((x * y : Nat) : Int) := by
    have := Nat.mul_pos x0 y0
    omega
  generalize (qA z c 1 : Int) * (qB z g 1 : Int) = p
  generalize (qA z g 1 : Int) * (qB z c 1 : Int) = q
  constructor
  · intro h; exact mul_lt_l h hxy
  · intro h
    rcases Int.lt_or_le p q with l | l
    · exact l
    · have := mul_le_l l (Int.le_of_lt hxy)
      omega
theorem s_before {c g k j : Nat} (h : CA σ) (c1 : 1 ≤ c) (c2 : c ≤ 15) (g1 : 1 ≤ g) (g2 : g ≤ 15) (hc : ch (zv σ 6) c 1 = some k) (hg : ch (zv σ 6) g 1 = some j) :
    F_X0_turnsBefore (44 + 4 * c) (44 + 4 * g) σ = some (b2i (decide (mA (zv σ 6) c 1 * mB (zv σ 6) g 1 < mA (zv σ 6) g 1 * mB (zv σ 6) c 1))) := by
  unfold F_X0_turnsBefore
  obtain ⟨x, x0, -, xa, xb, x1, x2, x3⟩ := q_mul h.1 c1 c2 hc
  obtain ⟨y, y0, -, ya, yb, y1, y2, y3⟩ := q_mul h.1 g1 g2 hg
  rw [show (1 : Int32) = nI 1 from rfl, s_num (h.2 c c1 c2) (by omega), s_num (h.2 g g1 g2) (by omega), s_den (h.2 c c1 c2) (by omega), s_den (h.2 g g1 g2) (by omega)]
  simp only [Option.bind_some]
  unfold wnum wden
  rw [hc, hg]
  show (if 0 ≤ lg_cmp (((0 : Int32) * nI (qB (zv σ 6) c 1) + nI (qA (zv σ 6) c 1)).toInt64 * (nI (qB (zv σ 6) g 1)).toInt64) (((0 : Int32) * nI (qB (zv σ 6) g 1) + nI (qA (zv σ 6) g 1)).toInt64 * (nI (qB (zv σ 6) c 1)).toInt64) then _ else _) = _
  have z0 : ∀ a b : Int32, (0 : Int32) * a + b = b := fun a b => by simp
  rw [z0, z0]
  have ea : ∀ q : Nat, q ≤ 4000000 → (nI q).toInt64.toInt = (q : Int) := fun q hq => by rw [toL, nI_toInt (by omega)]
  obtain ⟨m1, -⟩ := mulL (x := (nI (qA (zv σ 6) c 1)).toInt64) (y := (nI (qB (zv σ 6) g 1)).toInt64) (B := 4000000) (C := 198) (by rw [ea _ x2]; omega) (by rw [ea _ (by omega)]; omega) (by decide)
  obtain ⟨m2, -⟩ := mulL (x := (nI (qA (zv σ 6) g 1)).toInt64) (y := (nI (qB (zv σ 6) c 1)).toInt64) (B := 4000000) (C := 198) (by rw [ea _ y2]; omega) (by rw [ea _ (by omega)]; omega) (by decide)
  rw [ea _ x2, ea _ (by omega)] at m1
  rw [ea _ y2, ea _ (by omega)] at m2
  have hq := q_cross h.1 c1 c2 g1 g2 hc hg
  simp only [lgc_ge, m1, m2]
  by_cases e : mA (zv σ 6) c 1 * mB (zv σ 6) g 1 < mA (zv σ 6) g 1 * mB (zv σ 6) c 1
  · have := hq.mpr e
    rw [if_neg (by omega), decide_eq_true e]; rfl
  · have : ¬ (qA (zv σ 6) c 1 : Int) * (qB (zv σ 6) g 1 : Int) < (qA (zv σ 6) g 1 : Int) * (qB (zv σ 6) c 1 : Int) := fun q => e (hq.mp q)
    rw [if_pos (by omega), decide_eq_false e]; rfl
theorem efS_ok {z : Zf} {c : Nat} {f : Option Nat} (h1 : 1 ≤ c) (h2 : c ≤ 15) (hf : ∀ g, f = some g → 1 ≤ g ∧ g ≤ 15 ∧ ∃ k, ch z g 1 = some k) : ∀ g, efS z f c = some g → 1 ≤ g ∧ g ≤ 15 ∧ ∃ k, ch z g 1 = some k := by
  intro g hg
  unfold efS at hg
  cases hc : ch z c 1 with
  | none => rw [hc] at hg; exact hf g hg
  | some k =>
    rw [hc] at hg
    cases f with
    | none => cases hg; exact ⟨h1, h2, k, hc⟩
    | some d =>
      simp only at hg
      split at hg
      · cases hg; exact ⟨h1, h2, k, hc⟩
      · exact hf g hg
theorem efF_ok {z : Zf} : ∀ (m c : Nat) (f : Option Nat), c + m ≤ 16 → 1 ≤ c → (∀ g, f = some g → 1 ≤ g ∧ g ≤ 15 ∧ ∃ k, ch z g 1 = some k) → ∀ g, efF z m c f = some g → 1 ≤ g ∧ g ≤ 15 ∧ ∃ k, ch z g 1 = some k := by
  intro m
  induction m with
  | zero => intro c f _ _ hf g hg; exact hf g hg
  | succ m ih => intro c f h1 h2 hf; exact ih (c + 1) _ (by omega) (by omega) (efS_ok h2 (by omega) hf)
theorem s_first (h : CA σ) : F_X3_firstToTurn σ = some (enc (ef (zv σ 6))) := by
  have key : ∀ (m c fu : Nat) (f : Option Nat), c + m = 16 → 1 ≤ c → m < fu → (∀ g, f = some g → 1 ≤ g ∧ g ≤ 15 ∧ ∃ k, ch (zv σ 6) g 1 = some k) → L_X3_firstToTurn_4 σ fu (enc f) (nI c) = some (enc (efF (zv σ 6) m c f)) := by
    intro m
    induction m with
    | zero =>
      intro c fu f hc h1 hf hg
      obtain ⟨q, rfl⟩ : ∃ q, fu = q + 1 := ⟨fu - 1, by omega⟩
      have : c = 16 := by omega
      subst this
      rw [L_X3_firstToTurn_4, if_pos c16]; rfl
    | succ m ih =>
      intro c fu f hc h1 hf hg
      obtain ⟨q, rfl⟩ : ∃ q, fu = q + 1 := ⟨fu - 1, by omega⟩
      rw [L_X3_firstToTurn_4, if_neg (c15 (by omega)), s_courseOf h1 (by omega), Option.bind_some, efF]
      have hn := ih (c + 1) q (efS (zv σ 6) f c) (by omega) (by omega) (by omega) (efS_ok h1 (by omega) hg)
      rw [← hn]
      have hr := row1 (h.2 c h1 (by omega))
      unfold efS
      cases hc1 : ch (zv σ 6) c 1 with
      | none =>
        rw [if_pos (hr.mpr hc1), Option.bind_some, show nI c + (1 : Int32) = nI (c + 1) from nI_1 c]
      | some k =>
        rw [if_neg (fun e => by rw [hr.mp e] at hc1; cases hc1)]
        cases f with
        | none => rw [if_pos (show enc none = -1 from rfl), Option.bind_some, show nI c + (1 : Int32) = nI (c + 1) from nI_1 c]; rfl
        | some g =>
          obtain ⟨g1, g2, j, g3⟩ := hg g rfl
          rw [if_neg (show ¬ enc (some g) = -1 from nI_ne_m1 (by omega))]
          show Option.bind (Option.bind (F_X3_courseOf (nI g) σ) _) _ = _
          rw [s_courseOf g1 g2, Option.bind_some, s_before h h1 (by omega) g1 g2 hc1 g3, Option.bind_some, show nI c + (1 : Int32) = nI (c + 1) from nI_1 c]
          by_cases e : mA (zv σ 6) c 1 * mB (zv σ 6) g 1 < mA (zv σ 6) g 1 * mB (zv σ 6) c 1
          · rw [decide_eq_true e, if_b1, Option.bind_some]
            simp only [e, if_true]; rfl
          · rw [decide_eq_false e, if_b0, Option.bind_some]
            simp only [e, if_false]
  unfold F_X3_firstToTurn
  rw [show (-1 : Int32) = enc none from rfl, show (1 : Int32) = nI 1 from rfl, key 15 1 FU none rfl (by omega) (by decide) (fun g hg => by cases hg)]
  rfl
theorem s_turningWith {g j : Nat} (h : CA σ) (g1 : 1 ≤ g) (g2 : g ≤ 15) (hg : ch (zv σ 6) g 1 = some j) : F_X3_turningWith (nI g) σ = some (nI (fb_ct (fun d => decide (1 ≤ d) && tieB (zv σ 6) g d) 16)) := by
  unfold F_X3_turningWith
  rw [s_courseOf g1 g2, Option.bind_some]
  obtain ⟨a, e, rfl⟩ := lp_inv (L := L_X3_turningWith_11 (44 + 4 * g) σ) 16 (fun k b => 1 ≤ k ∧ b = nI (fb_ct (fun d => decide (1 ≤ d) && tieB (zv σ 6) g d) k)) (fun a => a = nI (fb_ct (fun d => decide (1 ≤ d) && tieB (zv σ 6) g d) 16))
    (fun fu k b hk hb => by
      obtain ⟨h1, rfl⟩ := hb
      refine ⟨_, ?_, by omega, rfl⟩
      have hr := row1 (h.2 k h1 (by omega))
      rw [L_X3_turningWith_11, if_neg (c15 (by omega)), s_courseOf h1 (by omega), Option.bind_some, show nI k + (1 : Int32) = nI (k + 1) from nI_1 k, ← ct_up (fun d => decide (1 ≤ d) && tieB (zv σ 6) g d) k]
      cases hc1 : ch (zv σ 6) k 1 with
      | none =>
        rw [if_pos (hr.mpr hc1), Option.bind_some]
        simp [tieB, hc1, ad0]
      | some w =>
        rw [if_neg (fun e => by rw [hr.mp e] at hc1; cases hc1), s_before h g1 g2 h1 (by omega) hg hc1, Option.bind_some]
        by_cases e : mA (zv σ 6) g 1 * mB (zv σ 6) k 1 < mA (zv σ 6) k 1 * mB (zv σ 6) g 1
        · rw [decide_eq_true e, if_c1, Option.bind_some]
          simp [tieB, hc1, e, ad0]
        · rw [decide_eq_false e, if_c0, Option.bind_some]
          simp [tieB, hc1, e, h1]; rfl)
    (fun fu b hb => ⟨b, by rw [L_X3_turningWith_11, if_pos c16], hb.2⟩) 15 1 FU 0 rfl (by decide) ⟨by omega, by simp [fb_ct]; rfl⟩
  rw [show nI 1 = (1 : Int32) from rfl] at e
  rw [e]; rfl
end S31
section M31
variable {τ : Mem × Int64}
end M31
