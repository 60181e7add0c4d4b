/-! what the class's Course holds and answers, in numbers -/
def qA (z : Zf) (c r : Nat) : Nat := (mA z c r).toNat / Nat.gcd (mA z c r).toNat (mB z c r).toNat
def qB (z : Zf) (c r : Nat) : Nat := (mB z c r).toNat / Nat.gcd (mA z c r).toNat (mB z c r).toNat
theorem qA_0 (z : Zf) (c : Nat) : qA z c 0 = 0 := by
  show (0 : Int).toNat / Nat.gcd (0 : Int).toNat (1 : Int).toNat = 0
  decide
theorem qB_0 (z : Zf) (c : Nat) : qB z c 0 = 1 := by
  show (1 : Int).toNat / Nat.gcd (0 : Int).toNat (1 : Int).toNat = 1
  decide
/-- the rows below r are laid -/
def Rows (σ : Mem) (z : Zf) (c len : Nat) : Prop := σ (44 + 4 * c) 0 = nI (lo c) ∧ σ (44 + 4 * c) 1 = nI (lo c + sz c) ∧ σ (44 + 4 * c) 5 = nI len ∧ ∀ r, r < len → ∃ w, ch z c r = some w ∧ σ (44 + 4 * c + 1) r = nI w ∧ σ (44 + 4 * c + 2) r = nI (qA z c r) ∧ σ (44 + 4 * c + 3) r = nI (qB z c r)
def CoOK (σ : Mem) (z : Zf) (c : Nat) : Prop := ∃ len, len ≤ 16 ∧ Rows σ z c len ∧ ch z c len = none
theorem ch_end {z : Zf} {c r : Nat} (h : ch z c r = none) : ∀ n, r ≤ n → ch z c n = none := by
  intro n hn
  cases hc : ch z c n with
  | none => rfl
  | some k => obtain ⟨w, hw⟩ := ch_prev hc hn; rw [h] at hw; cases hw
theorem i_nI {x : Int32} {m : Nat} (h : x.toInt = (m : Int)) : x = nI m := by
  have hx := Int32.toInt_lt x
  rw [i32_eq, nI_toInt (by omega)]; exact h
/-- the bounds of a turn -/
theorem turn_bd {z : Zf} {c r k : Nat} (hz : zOK z) (h1 : 1 ≤ c) (h2 : c ≤ 15) (h : ch z c (r + 1) = some k) : 0 < mA z c (r + 1) ∧ mA z c (r + 1) ≤ 4000000 ∧ 0 < mB z c (r + 1) ∧ mB z c (r + 1) ≤ 198 := by
  obtain ⟨w, hw, -, e1, e2⟩ := ch_succ h
  have s1 := ch_slot h
  have s2 := ch_slot hw
  have hs := (sz_lo h1 h2).1
  have v1 := hz.v (show k < 16 by omega)
  have v2 := hz.v (show w < 16 by omega)
  have u1 := hz.s (show k < 16 by omega)
  have u2 := hz.s (show w < 16 by omega)
  have p1 := ch_later h
  have p2 := (ch_lead h).1
  omega
theorem row_bd {z : Zf} {c r k : Nat} (hz : zOK z) (h1 : 1 ≤ c) (h2 : c ≤ 15) (h : ch z c r = some k) : 0 ≤ mA z c r ∧ mA z c r ≤ 4000000 ∧ 0 < mB z c r ∧ mB z c r ≤ 198 := by
  cases r with
  | zero => exact ⟨by show (0 : Int) ≤ 0; omega, by show (0 : Int) ≤ 4000000; omega, by show (0 : Int) < 1; omega, by show (1 : Int) ≤ 198; omega⟩
  | succ r => have := turn_bd hz h1 h2 h; omega
theorem q_mul {z : Zf} {c r k : Nat} (hz : zOK z) (h1 : 1 ≤ c) (h2 : c ≤ 15) (h : ch z c r = some k) : ∃ g : Nat, 0 < g ∧ g = Nat.gcd (mA z c r).toNat (mB z c r).toNat ∧ mA z c r = (g * qA z c r : Nat) ∧ mB z c r = (g * qB z c r : Nat) ∧ 0 < qB z c r ∧ qA z c r ≤ 4000000 ∧ qB z c r ≤ 198 := by
  obtain ⟨b1, b2, b3, b4⟩ := row_bd hz h1 h2 h
  have hg : 0 < Nat.gcd (mA z c r).toNat (mB z c r).toNat := Nat.gcd_pos_of_pos_right _ (by omega)
  have d1 := Nat.mul_div_cancel' (Nat.gcd_dvd_left (mA z c r).toNat (mB z c r).toNat)
  have d2 := Nat.mul_div_cancel' (Nat.gcd_dvd_right (mA z c r).toNat (mB z c r).toNat)
  have l1 : qA z c r ≤ (mA z c r).toNat := Nat.div_le_self _ _
  have l2 : qB z c r ≤ (mB z c r).toNat := Nat.div_le_self _ _
  refine ⟨_, hg, rfl, ?_, ?_, ?_, by omega, by omega⟩
  · unfold qA; rw [d1]; omega
  · unfold qB; rw [d2]; omega
  · rcases Nat.eq_zero_or_pos (qB z c r) with q | q
    · unfold qB at q; rw [q] at d2; omega
    · exact q
section CS
variable {σ : Mem}
theorem s_addRow {n len : Nat} {w a b : Int32} (h : σ n 5 = nI len) (hl : len < 16) : F_X0_addRow n w a b σ = some (up2 (up2 (up2 (up2 σ (n + 1) len w) (n + 2) len a) (n + 3) len b) n 5 (nI (len + 1))) := by
  obtain ⟨h1, h2, h3, h4⟩ := lt16 hl
  have a1 : ∀ (τ : Mem) (j k : Nat) (v : Int32), 0 < j → (up2 τ (n + j) k v) n 5 = τ n 5 := fun τ j k v hj => by
    unfold up2; rw [if_neg (by omega)]
  unfold F_X0_addRow
  simp only [a1 _ 1 _ _ (by omega), a1 _ 2 _ _ (by omega), a1 _ 3 _ _ (by omega), h, h4, nI_add]
  rw [if_neg h1, if_neg h2, if_pos h3, if_pos h3, if_pos h3]
  rw [show nI len + (1 : Int32) = nI (len + 1) from nI_1 len]
/-- the cells of one Course alone have changed -/
def FrC (n : Nat) (σ σ' : Mem) : Prop := ∀ x, (∀ j, j ≤ 3 → x ≠ n + j) → σ' x = σ x
theorem FrC.rf {n : Nat} {σ : Mem} : FrC n σ σ := fun _ _ => rfl
theorem FrC.tr {n : Nat} {σ σ1 σ2 : Mem} (h1 : FrC n σ σ1) (h2 : FrC n σ1 σ2) : FrC n σ σ2 := fun x hx => (h2 x hx).trans (h1 x hx)
theorem FrC.up {n j k : Nat} {v : Int32} {σ : Mem} (hj : j ≤ 3) : FrC n σ (up2 σ (n + j) k v) := fun x hx => up2_ne σ (hx j hj)
theorem FrC.up0 {n k : Nat} {v : Int32} {σ : Mem} : FrC n σ (up2 σ n k v) := fun x hx => up2_ne σ (by have := hx 0 (by omega); omega)
theorem FrC.up4 {n k1 k2 k3 k4 : Nat} {v1 v2 v3 v4 : Int32} {σ : Mem} : FrC n σ (up2 (up2 (up2 (up2 σ (n + 1) k1 v1) (n + 2) k2 v2) (n + 3) k3 v3) n k4 v4) := fun x hx => by
  rw [up2_ne _ (by have := hx 0 (by omega); omega), up2_ne _ (hx 3 (by omega)), up2_ne _ (hx 2 (by omega)), up2_ne _ (hx 1 (by omega))]
theorem FrC.zv {c : Nat} {σ σ' : Mem} (hc : 1 ≤ c) (h : FrC (44 + 4 * c) σ σ') : zv σ' 6 = zv σ 6 := zv_cong (fun j k hj => by rw [h (6 + j) (fun i hi => by omega)])
theorem s_follow_loop1 {c w : Nat} (hc1 : 1 ≤ c) (hc2 : c ≤ 15) (hz : zOK (zv σ 6)) (hn1 : σ (44 + 4 * c) 1 = nI (lo c + sz c)) (hw : w < 16) : ∀ (m k fu : Nat) (q : Option Nat), k + m = lo c + sz c → m < fu → (∀ j, q = some j → j < 16) →
    L_X0_followTurn_8 (44 + 4 * c) 6 (nI w) σ fu (enc q) (nI k) = some (enc (fo (fst (zv σ 6) w) (snr (zv σ 6) w) m k q)) := by
  have hs := (sz_lo hc1 hc2).1
  intro m
  induction m with
  | zero =>
    intro k fu q hk hf hq
    obtain ⟨f, rfl⟩ : ∃ f, fu = f + 1 := ⟨fu - 1, by omega⟩
    rw [L_X0_followTurn_8, hn1, if_pos ((nI_le_iff (by omega) (by omega)).mpr (by omega))]
    rfl
  | succ m ih =>
    intro k fu q hk hf hq
    obtain ⟨f, rfl⟩ : ∃ f, fu = f + 1 := ⟨fu - 1, by omega⟩
    have hk16 : k < 16 := by omega
    rw [L_X0_followTurn_8, hn1, if_neg (fun q => absurd ((nI_le_iff (by omega) (by omega)).mp q) (by omega)), s_has hz hk16, Option.bind_some, fo]
    have key : (if b2i (tk (zv σ 6) k) = 0 then some (enc q) else (F_X1_speedOf 6 (nI k) σ).bind fun r29 => (F_X1_speedOf 6 (nI w) σ).bind fun r34 => if r29 ≤ r34 then some (enc q) else if enc q = -1 then some (nI k) else (F_X1_isSoonerAhead 6 (nI k) (enc q) (nI w) σ).bind fun r50 => if r50 = 0 then some (enc q) else some (nI k)) = some (enc (if fst (zv σ 6) w k && bet (snr (zv σ 6) w) q k then some k else q)) := by
      cases ht : tk (zv σ 6) k with
      | false => simp [b2i, fst, ht]
      | true =>
        rw [if_neg (by decide), s_speed hk16, s_speed hw, Option.bind_some, Option.bind_some]
        have e : (σ (6 + 3) k ≤ σ (6 + 3) w) ↔ ¬ sp (zv σ 6) w < sp (zv σ 6) k := by
          rw [i32_le, zv_sp σ 6 hk16, zv_sp σ 6 hw]; omega
        by_cases hsp : sp (zv σ 6) w < sp (zv σ 6) k
        · rw [if_neg (fun x => e.mp x hsp)]
          cases q with
          | none => simp [enc, fst, ht, hsp, bet]
          | some j =>
            have hj := hq j rfl
            rw [if_neg (show ¬ enc (some j) = -1 from nI_ne_m1 (by omega)), show enc (some j) = nI j from rfl, s_sooner hz hk16 hj hw, Option.bind_some]
            cases hA : snr (zv σ 6) w k j <;> simp [fst, ht, hsp, bet, b2i, enc, hA]
        · rw [if_pos (e.mpr hsp)]; simp [fst, hsp]
    rw [key, Option.bind_some]
    show L_X0_followTurn_8 (44 + 4 * c) 6 (nI w) σ f _ (nI k + 1) = _
    rw [nI_1]
    exact ih (k + 1) f _ (by omega) (by omega) (fun j hj => by
      split at hj
      · cases hj; exact hk16
      · exact hq j hj)
theorem s_follow_next {c w : Nat} (hc1 : 1 ≤ c) (hc2 : c ≤ 15) (hz : zOK (zv σ 6)) (hn0 : σ (44 + 4 * c) 0 = nI (lo c)) (hn1 : σ (44 + 4 * c) 1 = nI (lo c + sz c)) (hw : w < 16) : L_X0_followTurn_8 (44 + 4 * c) 6 (nI w) σ FU (-1) (σ (44 + 4 * c) 0) = some (enc (nxt (zv σ 6) c w)) := by
  have hs := (sz_lo hc1 hc2).1
  rw [hn0, show (-1 : Int32) = enc none from rfl, s_follow_loop1 hc1 hc2 hz hn1 hw (sz c) (lo c) FU none rfl (by show sz c < 1000; omega) (fun j h => by cases h)]
  rfl
/-- one more row -/
theorem s_followTurn {c r w : Nat} (hc1 : 1 ≤ c) (hc2 : c ≤ 15) (hz : zOK (zv σ 6)) (hR : Rows σ (zv σ 6) c (r + 1)) (hr : r + 1 < 16) (hw : ch (zv σ 6) c r = some w) :
    ∃ σ', F_X0_followTurn (44 + 4 * c) 6 (nI w) σ = some (enc (ch (zv σ 6) c (r + 1)), σ') ∧ FrC (44 + 4 * c) σ σ' ∧ (ch (zv σ 6) c (r + 1) = none → σ' = σ) ∧ (ch (zv σ 6) c (r + 1) ≠ none → Rows σ' (zv σ 6) c (r + 2)) := by
  obtain ⟨h0, h1, h5, hrow⟩ := hR
  have hsl := ch_slot hw
  have hs := (sz_lo hc1 hc2).1
  have hw16 : w < 16 := by omega
  have hnx : ch (zv σ 6) c (r + 1) = nxt (zv σ 6) c w := by rw [ch, hw]; rfl
  unfold F_X0_followTurn
  rw [s_follow_next hc1 hc2 hz h0 h1 hw16, Option.bind_some, ← hnx]
  cases hk : ch (zv σ 6) c (r + 1) with
  | none =>
    refine ⟨σ, ?_, FrC.rf, fun _ => rfl, fun h => absurd rfl h⟩
    rw [if_pos (show enc none = -1 from rfl)]; rfl
  | some k =>
    have ksl := ch_slot hk
    have hk16 : k < 16 := by omega
    obtain ⟨b1, b2, b3, b4⟩ := turn_bd hz hc1 hc2 hk
    obtain ⟨w', hw', -, e1, e2⟩ := ch_succ hk
    rw [hw] at hw'; cases hw'
    rw [if_neg (show ¬ enc (some k) = -1 from nI_ne_m1 (by omega)), show enc (some k) = nI k from rfl, s_value hw16, s_value hk16, s_speed hk16, s_speed hw16]
    simp only [Option.bind_some]
    have v1 := hz.v hk16
    have v2 := hz.v hw16
    have u1 := hz.s hk16
    have u2 := hz.s hw16
    rw [e1, zv_vv σ 6 hw16, zv_vv σ 6 hk16] at b1 b2
    rw [e2, zv_sp σ 6 hw16, zv_sp σ 6 hk16] at b3 b4
    rw [zv_vv σ 6 hk16] at v1
    rw [zv_vv σ 6 hw16] at v2
    rw [zv_sp σ 6 hk16] at u1
    rw [zv_sp σ 6 hw16] at u2
    have ea : σ (6 + 2) w - σ (6 + 2) k = nI (mA (zv σ 6) c (r + 1)).toNat := i_nI (by rw [fb_subI (by omega) (by omega), e1, zv_vv σ 6 hw16, zv_vv σ 6 hk16]; omega)
    have eb : σ (6 + 3) k - σ (6 + 3) w = nI (mB (zv σ 6) c (r + 1)).toNat := i_nI (by rw [fb_subI (by omega) (by omega), e2, zv_sp σ 6 hw16, zv_sp σ 6 hk16]; omega)
    obtain ⟨b1', b2', b3', b4'⟩ := turn_bd hz hc1 hc2 hk
    rw [ea, eb, s_reduced (by omega) (by omega) (by omega) (by omega), s_reduced (by omega) (by omega) (by omega) (by omega)]
    simp only [Option.bind_some]
    rw [s_addRow h5 hr, Option.bind_some, Option.bind_some]
    refine ⟨_, rfl, ?_, (fun h => by cases h), fun _ => ?_⟩
    · exact FrC.up4
    · generalize hN : 44 + 4 * c = N at *
      have p1 : ¬ N = N + 1 := by omega
      have p2 : ¬ N = N + 2 := by omega
      have p3 : ¬ N = N + 3 := by omega
      refine ⟨?_, ?_, ?_, fun i hi => ?_⟩
      · rw [hN]; unfold up2; simp [h0]
      · rw [hN]; unfold up2; simp [h1]
      · rw [hN]; unfold up2; simp
      · rw [hN]
        by_cases hir : i = r + 1
        · subst hir
          refine ⟨k, hk, ?_, ?_, ?_⟩
          · unfold up2; simp
          · unfold up2 qA; simp
          · unfold up2 qB; simp [Nat.gcd_comm]
        · obtain ⟨v, g1, g2, g3, g4⟩ := hrow i (by omega)
          refine ⟨v, g1, ?_, ?_, ?_⟩
          · unfold up2; simp [hir, g2]
          · unfold up2; simp [hir, g3]
          · unfold up2; simp [hir, g4]
theorem s_follow_loop {c : Nat} (hc1 : 1 ≤ c) (hc2 : c ≤ 15) (z : Zf) (hz : zOK z) : ∀ (m r w fu : Nat) (σ : Mem), r + m = 15 → m + 1 < fu → zv σ 6 = z → Rows σ z c (r + 1) → ch z c r = some w →
    ∃ σ', L_X0_follow_38 (44 + 4 * c) 6 fu (nI w) (nI (r + 1)) σ = some σ' ∧ CoOK σ' z c ∧ FrC (44 + 4 * c) σ σ' := by
  intro m
  induction m with
  | zero =>
    intro r w fu σ hr hf hzv hR hw
    obtain ⟨f, rfl⟩ : ∃ f, fu = f + 1 := ⟨fu - 1, by omega⟩
    refine ⟨σ, ?_, ⟨16, Nat.le_refl _, by rw [show 16 = r + 1 by omega]; exact hR, ?_⟩, FrC.rf⟩
    · rw [L_X0_follow_38, if_pos (show (16 : Int32) ≤ nI (r + 1) by rw [show r + 1 = 16 by omega]; decide)]
    · cases h : ch z c 16 with
      | none => rfl
      | some k => have := ch_len hc1 hc2 h; omega
  | succ m ih =>
    intro r w fu σ hr hf hzv hR hw
    obtain ⟨f, rfl⟩ : ∃ f, fu = f + 1 := ⟨fu - 1, by omega⟩
    subst hzv
    have hsl := ch_slot hw
    have hs := (sz_lo hc1 hc2).1
    obtain ⟨σ', h1, h2, h3, h4⟩ := s_followTurn hc1 hc2 hz hR (by omega) hw
    rw [L_X0_follow_38, if_neg (fun q : (16 : Int32) ≤ nI (r + 1) => absurd ((nI_le_iff (a := 16) (by omega) (by omega)).mp q) (by omega)), if_neg (nI_ne_m1 (by omega)), h1, Option.bind_some]
    show ∃ σ'', L_X0_follow_38 (44 + 4 * c) 6 f (enc (ch (zv σ 6) c (r + 1))) (nI (r + 1) + 1) σ' = some σ'' ∧ _
    rw [nI_1]
    cases hk : ch (zv σ 6) c (r + 1) with
    | none =>
      rw [hk] at h3
      have e := h3 rfl
      subst e
      obtain ⟨f', rfl⟩ : ∃ f', f = f' + 1 := ⟨f - 1, by omega⟩
      refine ⟨σ', ?_, ⟨r + 1, by omega, hR, hk⟩, FrC.rf⟩
      rw [L_X0_follow_38]
      split
      · rfl
      · rw [if_pos (show enc none = -1 from rfl)]
    | some k =>
      have hR' := h4 (by rw [hk]; exact fun h => by cases h)
      obtain ⟨σ'', g1, g2, g3⟩ := ih (r + 1) k f σ' (by omega) (by omega) (h2.zv hc1) hR' hk
      exact ⟨σ'', g1, g2, h2.tr g3⟩
theorem s_follow {c : Nat} (hc1 : 1 ≤ c) (hc2 : c ≤ 15) (hz : zOK (zv σ 6)) (hn0 : σ (44 + 4 * c) 0 = nI (lo c)) (hn1 : σ (44 + 4 * c) 1 = nI (lo c + sz c)) : ∃ σ', F_X0_follow (44 + 4 * c) 6 σ = some σ' ∧ CoOK σ' (zv σ 6) c ∧ FrC (44 + 4 * c) σ σ' := by
  have hs := (sz_lo hc1 hc2).1
  have hfr : FrC (44 + 4 * c) σ (up2 σ (44 + 4 * c) 5 0) := FrC.up0
  have hzv := hfr.zv hc1
  have e0 : (up2 σ (44 + 4 * c) 5 0) (44 + 4 * c) 0 = nI (lo c) := by rw [← hn0]; unfold up2; simp
  have e1 : (up2 σ (44 + 4 * c) 5 0) (44 + 4 * c) 1 = nI (lo c + sz c) := by rw [← hn1]; unfold up2; simp
  have e5 : (up2 σ (44 + 4 * c) 5 0) (44 + 4 * c) 5 = nI 0 := by unfold up2; simp; rfl
  have hz' : zOK (zv (up2 σ (44 + 4 * c) 5 0) 6) := by rw [hzv]; exact hz
  unfold F_X0_follow
  rw [e0, e1, s_winner hz' hc1 hc2 (by decide), hzv, Option.bind_some, show ((0 : Int32)).toInt = 0 by decide]
  have hch : ch (zv σ 6) c 0 = win (zv σ 6) 0 1 c := rfl
  rw [← hch]
  cases hw : ch (zv σ 6) c 0 with
  | none =>
    refine ⟨_, if_neg (fun h => h rfl), ⟨0, by omega, ⟨e0, e1, e5, fun r hr => by omega⟩, hw⟩, hfr⟩
  | some w =>
    have hsl := ch_slot hw
    rw [if_pos (show ¬ enc (some w) = -1 from nI_ne_m1 (by omega)), show enc (some w) = nI w from rfl, s_addRow e5 (by omega), Option.bind_some]
    have hR : Rows (up2 (up2 (up2 (up2 (up2 σ (44 + 4 * c) 5 0) (44 + 4 * c + 1) 0 (nI w)) (44 + 4 * c + 2) 0 0) (44 + 4 * c + 3) 0 1) (44 + 4 * c) 5 (nI (0 + 1))) (zv σ 6) c (0 + 1) := by
      refine ⟨?_, ?_, ?_, fun i hi => ?_⟩
      · rw [← hn0]; unfold up2; simp
      · rw [← hn1]; unfold up2; simp
      · unfold up2; simp
      · have : i = 0 := by omega
        subst this
        refine ⟨w, hw, ?_, ?_, ?_⟩
        · unfold up2; simp
        · rw [qA_0]; unfold up2; simp; rfl
        · rw [qB_0]; unfold up2; simp; rfl
    have hfr2 : FrC (44 + 4 * c) σ (up2 (up2 (up2 (up2 (up2 σ (44 + 4 * c) 5 0) (44 + 4 * c + 1) 0 (nI w)) (44 + 4 * c + 2) 0 0) (44 + 4 * c + 3) 0 1) (44 + 4 * c) 5 (nI (0 + 1))) :=
      hfr.tr FrC.up4
    obtain ⟨σ', g1, g2, g3⟩ := s_follow_loop hc1 hc2 (zv σ 6) hz 15 0 w FU _ rfl (by decide) (hfr2.zv hc1) hR hw
    exact ⟨σ', g1, g2, hfr2.tr g3⟩
end CS
