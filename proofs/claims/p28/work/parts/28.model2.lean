section M2
variable {τ : Mem × Int64}
/-- the next one's numbers -/
theorem n_next {z : Zf} {c r w : Nat} (hz : zOK z) (h1 : 1 ≤ c) (h2 : c ≤ 15) (h : ch z c r = some w) : nxt z c w = ch z c (r + 1) ∧ ∀ k, ch z c (r + 1) = some k → nA z w (some k) = nI (mA z c (r + 1)).toNat ∧ nB z w (some k) = nI (mB z c (r + 1)).toNat := by
  refine ⟨by rw [ch, h]; rfl, fun k hk => ?_⟩
  obtain ⟨w', hw', -, e1, e2⟩ := ch_succ hk
  rw [h] at hw'; cases hw'
  have s1 := ch_slot h
  have s2 := ch_slot hk
  have hs := (sz_lo h1 h2).1
  obtain ⟨a1, a2, -⟩ := nAB hz (show w < 16 by omega) (show k < 16 by omega)
  obtain ⟨t1, t2, t3, t4⟩ := turn_bd hz h1 h2 hk
  exact ⟨i_nI (by rw [a1, ← e1]; omega), i_nI (by rw [a2, ← e2]; omega)⟩
/-- the sum over the contests, in the order in which both sum -/
def sumT (f : Nat → Int32) : Nat → Nat → Int32 → Int32
  | 0, _, a => a
  | m + 1, c, a => sumT f m (c + 1) (a + f c)
/-- the contest that turns first, of those below c -/
def efS (z : Zf) (f : Option Nat) (c : Nat) : Option Nat := match ch z c 1 with
  | none => f
  | some _ => match f with
    | none => some c
    | some g => if mA z c 1 * mB z g 1 < mA z g 1 * mB z c 1 then some c else f
def efF (z : Zf) : Nat → Nat → Option Nat → Option Nat
  | 0, _, f => f
  | m + 1, c, f => efF z m (c + 1) (efS z f c)
def ef (z : Zf) : Option Nat := efF z 15 1 none
/-- how many of those below c turn when g does -/
def tieB (z : Zf) (g c : Nat) : Bool := (ch z c 1).isSome && !decide (mA z g 1 * mB z c 1 < mA z c 1 * mB z g 1)
/-- what is known of the first: f of those from 1 to below c, n of them with it -/
def efI (z : Zf) (c : Nat) (f : Option Nat) (n : Nat) : Prop := match f with
  | none => n = 0 ∧ ∀ d, 1 ≤ d → d < c → ch z d 1 = none
  | some g => 1 ≤ g ∧ g < c ∧ (∃ k, ch z g 1 = some k) ∧ (∀ d, 1 ≤ d → d < c → ∀ k, ch z d 1 = some k → mA z g 1 * mB z d 1 ≤ mA z d 1 * mB z g 1) ∧ n = fb_ct (fun d => decide (1 ≤ d) && tieB z g d) c
theorem fb_ct_one {p : Nat → Bool} {c : Nat} (h : ∀ d, d < c → p d = false) (hc : p c = true) : fb_ct p (c + 1) = 1 := by
  rw [fb_ct_succ, fb_ct_zero.mpr h, hc]; rfl
def efN (z : Zf) (c : Nat) (f : Option Nat) (n : Nat) : Nat := match ch z c 1 with
  | none => n
  | some _ => match f with
    | none => 1
    | some g => if mA z c 1 * mB z g 1 < mA z g 1 * mB z c 1 then 1 else if mA z c 1 * mB z g 1 = mA z g 1 * mB z c 1 then n + 1 else n
theorem ef_step {z : Zf} {c n : Nat} {f : Option Nat} (h1 : 1 ≤ c) (hI : efI z c f n) : efI z (c + 1) (efS z f c) (efN z c f n) := by
  unfold efN
  unfold efS
  cases hc : ch z c 1 with
  | none =>
    cases f with
    | none =>
      obtain ⟨a1, a2⟩ := hI
      refine ⟨a1, fun d d1 d2 => ?_⟩
      by_cases e : d = c
      · rw [e]; exact hc
      · exact a2 d d1 (by omega)
    | some g =>
      obtain ⟨a1, a2, a3, a4, a5⟩ := hI
      refine ⟨a1, by omega, a3, fun d d1 d2 k hk => ?_, ?_⟩
      · by_cases e : d = c
        · rw [e, hc] at hk; cases hk
        · exact a4 d d1 (by omega) k hk
      · rw [fb_ct_succ, ← a5]
        simp [tieB, hc]
  | some k =>
    cases f with
    | none =>
      obtain ⟨a1, a2⟩ := hI
      refine ⟨h1, by omega, ⟨k, hc⟩, fun d d1 d2 k' hk => ?_, ?_⟩
      · by_cases e : d = c
        · rw [e]; exact Int.le_refl _
        · rw [a2 d d1 (by omega)] at hk; cases hk
      · refine (fb_ct_one (fun d hd => ?_) ?_).symm
        · by_cases d1 : 1 ≤ d
          · simp [tieB, a2 d d1 hd]
          · simp [d1]
        · simp [tieB, hc, h1]
    | some g =>
      obtain ⟨a1, a2, ⟨kg, a3⟩, a4, a5⟩ := hI
      have bc := (ch_lead hc).1
      have bg := (ch_lead a3).1
      by_cases hlt : mA z c 1 * mB z g 1 < mA z g 1 * mB z c 1
      · simp only [hlt, if_true]
        refine ⟨h1, by omega, ⟨k, hc⟩, fun d d1 d2 k' hk => ?_, ?_⟩
        · by_cases e : d = c
          · rw [e]; exact Int.le_refl _
          · have bd := (ch_lead hk).1
            exact (fr_tr bc bg bd (by omega) (a4 d d1 (by omega) k' hk)).1
        · refine (fb_ct_one (fun d hd => ?_) ?_).symm
          · by_cases d1 : 1 ≤ d
            · cases hd1 : ch z d 1 with
              | none => simp [tieB, hd1]
              | some k' =>
                have bd := (ch_lead hd1).1
                have := (fr_tr bc bg bd (by omega) (a4 d d1 (by omega) k' hd1)).2 (Or.inl hlt)
                simp [tieB, hd1, this]
            · simp [d1]
          · simp [tieB, hc, h1]
      · simp only [hlt, if_false]
        refine ⟨a1, by omega, ⟨kg, a3⟩, fun d d1 d2 k' hk => ?_, ?_⟩
        · by_cases e : d = c
          · rw [e]; omega
          · exact a4 d d1 (by omega) k' hk
        · rw [fb_ct_succ, ← a5]
          by_cases he : mA z c 1 * mB z g 1 = mA z g 1 * mB z c 1
          · have : ¬ mA z g 1 * mB z c 1 < mA z c 1 * mB z g 1 := by omega
            simp [tieB, hc, h1, he]
          · have : mA z g 1 * mB z c 1 < mA z c 1 * mB z g 1 := by omega
            simp [tieB, hc, h1, he, this]
end M2
