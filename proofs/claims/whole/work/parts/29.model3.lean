/-! the reference: the first turn and the spans, in numbers -/
theorem nN_at {z : Zf} {c r k : Nat} (τ : Mem × Int64) (h6 : k ≠ 6) (h7 : k ≠ 7) (h8 : k ≠ 8) : (nN z c r τ).1 0 k = τ.1 0 k := by
  unfold nN
  cases ch z c r with
  | none => unfold sN up2; simp [h6, h7, h8]
  | some k => unfold sN up2; simp [h6, h7, h8]
theorem nN_x {z : Zf} {c r x : Nat} (τ : Mem × Int64) (h : x ≠ 0) : (nN z c r τ).1 x = τ.1 x := by
  funext k
  unfold nN
  cases ch z c r with
  | none => unfold sN up2; simp [h]
  | some k => unfold sN up2; simp [h]
/-- the reference's note of the first turn -/
def FI (z : Zf) (τ τ1 : Mem × Int64) (f : Option Nat) (n : Nat) : Prop := Keep τ τ1 ∧ τ1.1 0 13 = enc f ∧ τ1.1 0 12 = nI n ∧ match f with
  | none => τ1.1 0 10 = 0 ∧ τ1.1 0 11 = 0
  | some g => τ1.1 0 10 = nI (mA z g 1).toNat ∧ τ1.1 0 11 = nI (mB z g 1).toNat
theorem up4_keep {τ : Mem × Int64} {a b c d : Int32} : Keep τ (up2 (up2 (up2 (up2 τ.1 0 12 a) 0 13 b) 0 10 c) 0 11 d, τ.2) :=
  (Keep.up0 (k := 12) (by omega) (by omega) (by omega)).tr ((Keep.up0 (τ := (up2 τ.1 0 12 a, τ.2)) (k := 13) (by omega) (by omega) (by omega)).tr ((Keep.up0 (τ := (up2 (up2 τ.1 0 12 a) 0 13 b, τ.2)) (k := 10) (by omega) (by omega) (by omega)).tr (Keep.up0 (τ := (up2 (up2 (up2 τ.1 0 12 a) 0 13 b) 0 10 c, τ.2)) (k := 11) (by omega) (by omega) (by omega))))
section M3
variable {τ : Mem × Int64}
theorem m_layFirst (hz : zOK (mz τ)) : ∃ τ' n, F_X4_layFirst τ = some τ' ∧ FI (mz τ) τ τ' (efF (mz τ) 15 1 none) n ∧ efI (mz τ) 16 (efF (mz τ) 15 1 none) n := by
  have key : ∀ (m c fu n : Nat) (f : Option Nat) (τ1 : Mem × Int64), c + m = 16 → 1 ≤ c → m < fu → FI (mz τ) τ τ1 f n → efI (mz τ) c f n → ∃ τ' n', L_X4_layFirst_22 fu (nI c) τ1 = some τ' ∧ FI (mz τ) τ τ' (efF (mz τ) m c f) n' ∧ efI (mz τ) 16 (efF (mz τ) m c f) n' := by
    intro m
    induction m with
    | zero =>
      intro c fu n f τ1 hc h1 hf hF hE
      obtain ⟨fu, rfl⟩ : ∃ k, fu = k + 1 := ⟨fu - 1, by omega⟩
      have hc16 : c = 16 := by omega
      subst hc16
      exact ⟨τ1, n, by rw [L_X4_layFirst_22, if_pos (by decide)], hF, hE⟩
    | succ m ih =>
      intro c fu n f τ1 hc h1 hf hF hE
      obtain ⟨fu, rfl⟩ : ∃ k, fu = k + 1 := ⟨fu - 1, by omega⟩
      obtain ⟨hK, h13, h12, hAB⟩ := hF
      have h2 : c ≤ 15 := by omega
      have hs := (sz_lo h1 h2).1
      have hz1 : zOK (mz τ1) := by rw [hK.mz]; exact hz
      have hw := m_winnerOf (τ := τ1) hz1 h1 h2
      have hl := m_lay (τ := τ1) (r := 0) hz1 h1 h2
      rw [hK.mz] at hw hl
      rw [L_X4_layFirst_22, if_neg (fun q : (15 : Int32) < nI c => absurd ((nI_lt_iff (a := 15) (by omega) (by omega)).mp q) (by omega)), hw, Option.bind_some, hl, Option.bind_some, nN_8]
      have hEs := ef_step h1 hE
      cases hk : ch (mz τ) c (0 + 1) with
      | none =>
        have e1 : efS (mz τ) f c = f := by unfold efS; rw [hk]
        have e2 : efN (mz τ) c f n = n := by unfold efN; rw [hk]
        rw [e1, e2] at hEs
        rw [if_pos (show enc none = -1 from rfl), Option.bind_some]
        show ∃ τ' n', L_X4_layFirst_22 fu (nI c + 1) _ = _ ∧ _
        rw [nI_1, efF, e1]
        refine ih (c + 1) fu n f _ (by omega) (by omega) (by omega) ⟨hK.tr (nN_keep _ _ _ _), by rw [nN_at _ (by omega) (by omega) (by omega)]; exact h13, by rw [nN_at _ (by omega) (by omega) (by omega)]; exact h12, ?_⟩ hEs
        cases f with
        | none => exact ⟨by rw [nN_at _ (by omega) (by omega) (by omega)]; exact hAB.1, by rw [nN_at _ (by omega) (by omega) (by omega)]; exact hAB.2⟩
        | some g => exact ⟨by rw [nN_at _ (by omega) (by omega) (by omega)]; exact hAB.1, by rw [nN_at _ (by omega) (by omega) (by omega)]; exact hAB.2⟩
      | some k =>
        have s1 := ch_slot hk
        obtain ⟨t1, t2, t3, t4⟩ := turn_bd hz h1 h2 hk
        rw [if_neg (show ¬ enc (some k) = -1 from nI_ne_m1 (by omega)), nN_at (k := 13) _ (by omega) (by omega) (by omega), nN_at (k := 11) _ (by omega) (by omega) (by omega), nN_at (k := 10) _ (by omega) (by omega) (by omega), nN_at (k := 12) _ (by omega) (by omega) (by omega), (nN_6 τ1 hk).1, (nN_6 τ1 hk).2, h13, h12]
        have r13 : ∀ v, (up2 (nN (mz τ) c (0 + 1) τ1).1 0 12 v) 0 13 = enc f := fun v => by rw [up2_nk _ (by omega), nN_at _ (by omega) (by omega) (by omega), h13]
        have r10 : ∀ v w, (up2 (up2 (nN (mz τ) c (0 + 1) τ1).1 0 12 v) 0 13 w) 0 10 = τ1.1 0 10 := fun v w => by rw [up2_nk _ (by omega), up2_nk _ (by omega), nN_at _ (by omega) (by omega) (by omega)]
        have r6 : ∀ v w, (up2 (up2 (nN (mz τ) c (0 + 1) τ1).1 0 12 v) 0 13 w) 0 6 = nI (mA (mz τ) c (0 + 1)).toNat := fun v w => by rw [up2_nk _ (by omega), up2_nk _ (by omega), (nN_6 τ1 hk).1]
        have r11 : ∀ v w u, (up2 (up2 (up2 (nN (mz τ) c (0 + 1) τ1).1 0 12 v) 0 13 w) 0 10 u) 0 11 = τ1.1 0 11 := fun v w u => by rw [up2_nk _ (by omega), up2_nk _ (by omega), up2_nk _ (by omega), nN_at _ (by omega) (by omega) (by omega)]
        have r7 : ∀ v w u, (up2 (up2 (up2 (nN (mz τ) c (0 + 1) τ1).1 0 12 v) 0 13 w) 0 10 u) 0 7 = nI (mB (mz τ) c (0 + 1)).toNat := fun v w u => by rw [up2_nk _ (by omega), up2_nk _ (by omega), up2_nk _ (by omega), (nN_6 τ1 hk).2]
        -- the three ways on
        have fin : ∀ (n' : Nat) (f' : Option Nat) (A B : Int32), efS (mz τ) f c = f' → efN (mz τ) c f n = n' → (match f' with | none => A = 0 ∧ B = 0 | some g => A = nI (mA (mz τ) g 1).toNat ∧ B = nI (mB (mz τ) g 1).toNat) → ∃ τ' n'', L_X4_layFirst_22 fu (nI c + 1) (up2 (up2 (up2 (up2 (nN (mz τ) c (0 + 1) τ1).1 0 12 (nI n')) 0 13 (enc f')) 0 10 A) 0 11 B, (nN (mz τ) c (0 + 1) τ1).2) = some τ' ∧ FI (mz τ) τ τ' (efF (mz τ) (m + 1) c f) n'' ∧ efI (mz τ) 16 (efF (mz τ) (m + 1) c f) n'' := by
          intro n' f' A B e1 e2 hAB'
          rw [nI_1, efF, e1]
          rw [e1, e2] at hEs
          refine ih (c + 1) fu n' f' _ (by omega) (by omega) (by omega) ⟨hK.tr ((nN_keep _ _ _ _).tr up4_keep), ?_, ?_, ?_⟩ hEs
          · show (up2 (up2 (up2 (up2 (nN (mz τ) c (0 + 1) τ1).1 0 12 (nI n')) 0 13 (enc f')) 0 10 A) 0 11 B) 0 13 = _
            unfold up2; simp
          · show (up2 (up2 (up2 (up2 (nN (mz τ) c (0 + 1) τ1).1 0 12 (nI n')) 0 13 (enc f')) 0 10 A) 0 11 B) 0 12 = _
            unfold up2; simp
          · have q1 : (up2 (up2 (up2 (up2 (nN (mz τ) c (0 + 1) τ1).1 0 12 (nI n')) 0 13 (enc f')) 0 10 A) 0 11 B) 0 10 = A := by unfold up2; simp
            have q2 : (up2 (up2 (up2 (up2 (nN (mz τ) c (0 + 1) τ1).1 0 12 (nI n')) 0 13 (enc f')) 0 10 A) 0 11 B) 0 11 = B := by unfold up2; simp
            cases f' with
            | none => exact ⟨q1.trans hAB'.1, q2.trans hAB'.2⟩
            | some g => exact ⟨q1.trans hAB'.1, q2.trans hAB'.2⟩
        cases f with
        | none =>
          rw [if_neg (fun h : ¬ enc none = -1 => h rfl), Option.bind_some]
          have hl : ¬ 0 ≤ lg_cmp (-1 : Int64) 0 := by decide
          simp only [hl, if_false, Option.bind_some, r6, r7]
          exact fin 1 (some c) _ _ (by unfold efS; rw [hk]) (by unfold efN; rw [hk]) ⟨rfl, rfl⟩
        | some g =>
          obtain ⟨g1, g2, ⟨kg, g3⟩, g4, g5⟩ := hE
          have sg := ch_slot g3
          obtain ⟨u1, u2, u3, u4⟩ := turn_bd hz g1 (by omega) g3
          simp only [Nat.zero_add] at u1 u2 u3 u4
          obtain ⟨hA, hB⟩ := hAB
          rw [if_pos (show ¬ enc (some g) = -1 from nI_ne_m1 (by omega)), hA, hB, Option.bind_some]
          have ea : (nI (mA (mz τ) c (0 + 1)).toNat).toInt64.toInt = mA (mz τ) c (0 + 1) := by rw [toL, nI_toInt (by omega)]; omega
          have eb : (nI (mB (mz τ) c (0 + 1)).toNat).toInt64.toInt = mB (mz τ) c (0 + 1) := by rw [toL, nI_toInt (by omega)]; omega
          have fa : (nI (mA (mz τ) g 1).toNat).toInt64.toInt = mA (mz τ) g 1 := by rw [toL, nI_toInt (by omega)]; omega
          have fb : (nI (mB (mz τ) g 1).toNat).toInt64.toInt = mB (mz τ) g 1 := by rw [toL, nI_toInt (by omega)]; omega
          obtain ⟨m1, n1⟩ := mulL (x := (nI (mA (mz τ) c (0 + 1)).toNat).toInt64) (y := (nI (mB (mz τ) g 1).toNat).toInt64) (B := 4000000) (C := 198) (by rw [ea]; omega) (by rw [fb]; omega) (by decide)
          obtain ⟨m2, n2⟩ := mulL (x := (nI (mA (mz τ) g 1).toNat).toInt64) (y := (nI (mB (mz τ) c (0 + 1)).toNat).toInt64) (B := 4000000) (C := 198) (by rw [fa]; omega) (by rw [eb]; omega) (by decide)
          have m3 := subL n1 n2 (by decide)
          rw [m1, m2, ea, eb, fa, fb] at m3
          have z0 : (0 : Int64).toInt = 0 := by decide
          simp only [lgc_ge, lgc_eq, m3, z0]
          by_cases h3 : mA (mz τ) c (0 + 1) * mB (mz τ) g 1 < mA (mz τ) g 1 * mB (mz τ) c (0 + 1)
          · have q : ¬ 0 ≤ mA (mz τ) c (0 + 1) * mB (mz τ) g 1 - mA (mz τ) g 1 * mB (mz τ) c (0 + 1) := by omega
            simp only [q, if_false, Option.bind_some, r6, r7]
            exact fin 1 (some c) _ _ (by unfold efS; rw [hk]; exact if_pos h3) (by unfold efN; rw [hk]; exact if_pos h3) ⟨rfl, rfl⟩
          · have q : 0 ≤ mA (mz τ) c (0 + 1) * mB (mz τ) g 1 - mA (mz τ) g 1 * mB (mz τ) c (0 + 1) := by omega
            by_cases h4 : mA (mz τ) c (0 + 1) * mB (mz τ) g 1 = mA (mz τ) g 1 * mB (mz τ) c (0 + 1)
            · have q2 : mA (mz τ) c (0 + 1) * mB (mz τ) g 1 - mA (mz τ) g 1 * mB (mz τ) c (0 + 1) = 0 := by omega
              simp only [q2, Int.le_refl, if_true, not_true_eq_false, if_false, Option.bind_some, r13, r10, r11, hA, hB]
              rw [show nI n + (1 : Int32) = nI (n + 1) from nI_1 n]
              exact fin (n + 1) (some g) _ _ (by unfold efS; rw [hk]; exact if_neg h3) (by unfold efN; rw [hk]; exact (if_neg h3).trans (if_pos h4)) ⟨rfl, rfl⟩
            · have q2 : ¬ mA (mz τ) c (0 + 1) * mB (mz τ) g 1 - mA (mz τ) g 1 * mB (mz τ) c (0 + 1) = 0 := by omega
              simp only [q, q2, if_true, not_false_eq_true, Option.bind_some, r13, r10, r11, hA, hB]
              exact fin n (some g) _ _ (by unfold efS; rw [hk]; exact if_neg h3) (by unfold efN; rw [hk]; exact (if_neg h3).trans (if_neg h4)) ⟨rfl, rfl⟩
  unfold F_X4_layFirst
  refine key 15 1 FU 0 none _ rfl (by omega) (by decide) ⟨?_, ?_, ?_, ?_, ?_⟩ ⟨rfl, fun d d1 d2 => by omega⟩
  · exact (Keep.up0 (k := 13) (by omega) (by omega) (by omega)).tr ((Keep.up0 (τ := (up2 τ.1 0 13 (-1), τ.2)) (k := 10) (by omega) (by omega) (by omega)).tr ((Keep.up0 (τ := (up2 (up2 τ.1 0 13 (-1)) 0 10 0, τ.2)) (k := 11) (by omega) (by omega) (by omega)).tr (Keep.up0 (τ := (up2 (up2 (up2 τ.1 0 13 (-1)) 0 10 0) 0 11 0, τ.2)) (k := 12) (by omega) (by omega) (by omega))))
  · show (up2 (up2 (up2 (up2 τ.1 0 13 (-1)) 0 10 0) 0 11 0) 0 12 0) 0 13 = -1
    unfold up2; simp
  · show (up2 (up2 (up2 (up2 τ.1 0 13 (-1)) 0 10 0) 0 11 0) 0 12 0) 0 12 = 0
    unfold up2; simp
  · show (up2 (up2 (up2 (up2 τ.1 0 13 (-1)) 0 10 0) 0 11 0) 0 12 0) 0 10 = 0
    unfold up2; simp
  · show (up2 (up2 (up2 (up2 τ.1 0 13 (-1)) 0 10 0) 0 11 0) 0 12 0) 0 11 = 0
    unfold up2; simp
/-- the reference's spans: the rows below r are laid -/
def Sp (z : Zf) (τ1 : Mem × Int64) (r : Nat) : Prop := τ1.1 0 20 = nI r ∧ ∀ i, i < r → ∃ w, ch z 1 i = some w ∧ τ1.1 6 i = nI w ∧ τ1.1 7 i = nI (mA z 1 i).toNat ∧ τ1.1 8 i = nI (mB z 1 i).toNat
theorem Sp.nN {z : Zf} {τ1 : Mem × Int64} {r : Nat} (h : Sp z τ1 r) (c k : Nat) (z' : Zf) : Sp z (nN z' c k τ1) r := by
  obtain ⟨h1, h2⟩ := h
  refine ⟨by rw [nN_at _ (by omega) (by omega) (by omega)]; exact h1, fun i hi => ?_⟩
  obtain ⟨w, a1, a2, a3, a4⟩ := h2 i hi
  exact ⟨w, a1, by rw [nN_x _ (by omega)]; exact a2, by rw [nN_x _ (by omega)]; exact a3, by rw [nN_x _ (by omega)]; exact a4⟩
theorem m_laySpans (hz : zOK (mz τ)) : ∃ τ' len, F_X4_laySpans τ = some τ' ∧ Keep τ τ' ∧ Sp (mz τ) τ' len ∧ ch (mz τ) 1 len = none ∧ len ≤ 16 := by
  have key : ∀ (m r fu : Nat) (τ1 : Mem × Int64), r + m = 16 → m < fu → Keep τ τ1 → Sp (mz τ) τ1 r → τ1.1 0 8 = enc (ch (mz τ) 1 r) → (∀ k, ch (mz τ) 1 r = some k → τ1.1 0 6 = nI (mA (mz τ) 1 r).toNat ∧ τ1.1 0 7 = nI (mB (mz τ) 1 r).toNat) →
      ∃ τ' len, L_X4_laySpans_24 fu τ1 = some τ' ∧ Keep τ τ' ∧ Sp (mz τ) τ' len ∧ ch (mz τ) 1 len = none ∧ len ≤ 16 := by
    intro m
    induction m with
    | zero =>
      intro r fu τ1 hr hf hK hS h8 h67
      obtain ⟨fu, rfl⟩ : ∃ k, fu = k + 1 := ⟨fu - 1, by omega⟩
      have hn : ch (mz τ) 1 r = none := by
        cases hc : ch (mz τ) 1 r with
        | none => rfl
        | some w => have := ch_len (by omega) (by omega) hc; omega
      exact ⟨τ1, r, by rw [L_X4_laySpans_24, h8, hn, if_pos (show enc none = -1 from rfl)], hK, hS, hn, by omega⟩
    | succ m ih =>
      intro r fu τ1 hr hf hK hS h8 h67
      obtain ⟨fu, rfl⟩ : ∃ k, fu = k + 1 := ⟨fu - 1, by omega⟩
      cases hc : ch (mz τ) 1 r with
      | none => exact ⟨τ1, r, by rw [L_X4_laySpans_24, h8, hc, if_pos (show enc none = -1 from rfl)], hK, hS, hc, by omega⟩
      | some w =>
        have s1 := ch_slot hc
        have hs := (sz_lo (c := 1) (by omega) (by omega)).1
        obtain ⟨h6, h7⟩ := h67 w hc
        obtain ⟨h20, hrow⟩ := hS
        have h8' : τ1.1 0 8 = nI w := by rw [h8, hc]; rfl
        obtain ⟨τ2, hτ2⟩ : ∃ t : Mem × Int64, t = (up2 (up2 (up2 (up2 τ1.1 6 r (nI w)) 7 r (nI (mA (mz τ) 1 r).toNat)) 8 r (nI (mB (mz τ) 1 r).toNat)) 0 20 (nI (r + 1)), τ1.2) := ⟨_, rfl⟩
        have hK2 : Keep τ1 τ2 := by
          rw [hτ2]
          exact (Keep.upx (x := 6) (by omega)).tr ((Keep.upx (τ := (up2 τ1.1 6 r (nI w), τ1.2)) (x := 7) (by omega)).tr ((Keep.upx (τ := (up2 (up2 τ1.1 6 r (nI w)) 7 r (nI (mA (mz τ) 1 r).toNat), τ1.2)) (x := 8) (by omega)).tr (Keep.up0 (τ := (up2 (up2 (up2 τ1.1 6 r (nI w)) 7 r (nI (mA (mz τ) 1 r).toNat)) 8 r (nI (mB (mz τ) 1 r).toNat), τ1.2)) (k := 20) (by omega) (by omega) (by omega))))
        have hS2 : Sp (mz τ) τ2 (r + 1) := by
          rw [hτ2]
          refine ⟨?_, fun i hi => ?_⟩
          · show (up2 (up2 (up2 (up2 τ1.1 6 r (nI w)) 7 r (nI (mA (mz τ) 1 r).toNat)) 8 r (nI (mB (mz τ) 1 r).toNat)) 0 20 (nI (r + 1))) 0 20 = _
            unfold up2; simp
          · by_cases e : i = r
            · subst e
              refine ⟨w, hc, ?_, ?_, ?_⟩
              · show (up2 (up2 (up2 (up2 τ1.1 6 i (nI w)) 7 i (nI (mA (mz τ) 1 i).toNat)) 8 i (nI (mB (mz τ) 1 i).toNat)) 0 20 (nI (i + 1))) 6 i = _
                unfold up2; simp
              · show (up2 (up2 (up2 (up2 τ1.1 6 i (nI w)) 7 i (nI (mA (mz τ) 1 i).toNat)) 8 i (nI (mB (mz τ) 1 i).toNat)) 0 20 (nI (i + 1))) 7 i = _
                unfold up2; simp
              · show (up2 (up2 (up2 (up2 τ1.1 6 i (nI w)) 7 i (nI (mA (mz τ) 1 i).toNat)) 8 i (nI (mB (mz τ) 1 i).toNat)) 0 20 (nI (i + 1))) 8 i = _
                unfold up2; simp
            · obtain ⟨v, b1, b2, b3, b4⟩ := hrow i (by omega)
              refine ⟨v, b1, ?_, ?_, ?_⟩
              · show (up2 (up2 (up2 (up2 τ1.1 6 r (nI w)) 7 r (nI (mA (mz τ) 1 r).toNat)) 8 r (nI (mB (mz τ) 1 r).toNat)) 0 20 (nI (r + 1))) 6 i = _
                rw [← b2]; unfold up2; simp [e]
              · show (up2 (up2 (up2 (up2 τ1.1 6 r (nI w)) 7 r (nI (mA (mz τ) 1 r).toNat)) 8 r (nI (mB (mz τ) 1 r).toNat)) 0 20 (nI (r + 1))) 7 i = _
                rw [← b3]; unfold up2; simp [e]
              · show (up2 (up2 (up2 (up2 τ1.1 6 r (nI w)) 7 r (nI (mA (mz τ) 1 r).toNat)) 8 r (nI (mB (mz τ) 1 r).toNat)) 0 20 (nI (r + 1))) 8 i = _
                rw [← b4]; unfold up2; simp [e]
        have hKK := hK.tr hK2
        have hz2 : zOK (mz τ2) := by rw [hKK.mz]; exact hz
        have hl := m_lay (τ := τ2) (c := 1) (r := r) hz2 (by omega) (by omega)
        rw [hKK.mz, hc] at hl
        have hl' : F_X4_layNext 1 (nI w) τ2 = some (nN (mz τ) 1 (r + 1) τ2) := hl
        rw [L_X4_laySpans_24, if_neg (by rw [h8']; exact nI_ne_m1 (by omega))]
        have u20 : ∀ (x k : Nat) (v : Int32), x ≠ 0 → (up2 τ1.1 x k v) 0 20 = nI r := fun x k v hx => by rw [up2_ne _ (Ne.symm hx), h20]
        have u20b : ∀ (x k : Nat) (v : Int32) (x' k' : Nat) (v' : Int32), x ≠ 0 → x' ≠ 0 → (up2 (up2 τ1.1 x k v) x' k' v') 0 20 = nI r := fun x k v x' k' v' hx hx' => by rw [up2_ne _ (Ne.symm hx'), up2_ne _ (Ne.symm hx), h20]
        have u20c : ∀ (x k : Nat) (v : Int32) (x' k' : Nat) (v' : Int32) (x'' k'' : Nat) (v'' : Int32), x ≠ 0 → x' ≠ 0 → x'' ≠ 0 → (up2 (up2 (up2 τ1.1 x k v) x' k' v') x'' k'' v'') 0 20 = nI r := fun x k v x' k' v' x'' k'' v'' hx hx' hx'' => by rw [up2_ne _ (Ne.symm hx''), up2_ne _ (Ne.symm hx'), up2_ne _ (Ne.symm hx), h20]
        have u6 : ∀ (x k : Nat) (v : Int32), x ≠ 0 → (up2 τ1.1 x k v) 0 6 = nI (mA (mz τ) 1 r).toNat := fun x k v hx => by rw [up2_ne _ (Ne.symm hx), h6]
        have u7 : ∀ (x k : Nat) (v : Int32) (x' k' : Nat) (v' : Int32), x ≠ 0 → x' ≠ 0 → (up2 (up2 τ1.1 x k v) x' k' v') 0 7 = nI (mB (mz τ) 1 r).toNat := fun x k v x' k' v' hx hx' => by rw [up2_ne _ (Ne.symm hx'), up2_ne _ (Ne.symm hx), h7]
        have u8 : ∀ (σ : Mem) (v : Int32), (up2 σ 0 20 v) 0 8 = σ 0 8 := fun σ v => by rw [up2_nk _ (by omega)]
        have u8c : ∀ (x k : Nat) (v : Int32) (x' k' : Nat) (v' : Int32) (x'' k'' : Nat) (v'' : Int32), x ≠ 0 → x' ≠ 0 → x'' ≠ 0 → (up2 (up2 (up2 τ1.1 x k v) x' k' v') x'' k'' v'') 0 8 = nI w := fun x k v x' k' v' x'' k'' v'' hx hx' hx'' => by rw [up2_ne _ (Ne.symm hx''), up2_ne _ (Ne.symm hx'), up2_ne _ (Ne.symm hx), h8']
        rw [h20, h8', nI_clamp (show r < 2 ^ 31 by omega)]
        rw [u20 6 r _ (by omega), nI_clamp (show r < 2 ^ 31 by omega), u6 6 r _ (by omega)]
        rw [u20b 6 r _ 7 r _ (by omega) (by omega), nI_clamp (show r < 2 ^ 31 by omega), u7 6 r _ 7 r _ (by omega) (by omega)]
        rw [u20c 6 r _ 7 r _ 8 r _ (by omega) (by omega) (by omega), u8, u8c 6 r _ 7 r _ 8 r _ (by omega) (by omega) (by omega)]
        have hin := inb_nI (i := r) (N := 16) (by omega) (by decide)
        rw [if_pos hin, if_pos hin, if_pos hin]
        rw [show nI r + (1 : Int32) = nI (r + 1) from nI_1 r, ← hτ2, hl', Option.bind_some]
        exact ih (r + 1) fu _ (by omega) (by omega) (hKK.tr (nN_keep _ _ _ _)) (hS2.nN _ _ _) (nN_8 _ _ _ _) (fun k hk => nN_6 τ2 hk)
  unfold F_X4_laySpans
  have hK0 : Keep τ (up2 τ.1 0 20 0, τ.2) := Keep.up0 (by omega) (by omega) (by omega)
  have hw := m_winnerOf (τ := (up2 τ.1 0 20 0, τ.2)) (c := 1) (by rw [hK0.mz]; exact hz) (by omega) (by omega)
  rw [hK0.mz] at hw
  have hw' : F_X4_winnerOf 1 (up2 τ.1 0 20 0, τ.2) = some (enc (ch (mz τ) 1 0)) := hw
  rw [hw', Option.bind_some]
  refine key 16 0 FU _ rfl (by decide) ?_ ⟨?_, fun i hi => by omega⟩ ?_ (fun k hk => ⟨?_, ?_⟩)
  · exact hK0.tr ((Keep.up0 (τ := (up2 τ.1 0 20 0, τ.2)) (k := 8) (by omega) (by omega) (by omega)).tr ((Keep.up0 (τ := (up2 (up2 τ.1 0 20 0) 0 8 (enc (ch (mz τ) 1 0)), τ.2)) (k := 6) (by omega) (by omega) (by omega)).tr (Keep.up0 (τ := (up2 (up2 (up2 τ.1 0 20 0) 0 8 (enc (ch (mz τ) 1 0))) 0 6 0, τ.2)) (k := 7) (by omega) (by omega) (by omega))))
  · show (up2 (up2 (up2 (up2 τ.1 0 20 0) 0 8 (enc (ch (mz τ) 1 0))) 0 6 0) 0 7 1) 0 20 = 0
    unfold up2; simp
  · show (up2 (up2 (up2 (up2 τ.1 0 20 0) 0 8 (enc (ch (mz τ) 1 0))) 0 6 0) 0 7 1) 0 8 = _
    unfold up2; simp
  · show (up2 (up2 (up2 (up2 τ.1 0 20 0) 0 8 (enc (ch (mz τ) 1 0))) 0 6 0) 0 7 1) 0 6 = 0
    unfold up2; simp
  · show (up2 (up2 (up2 (up2 τ.1 0 20 0) 0 8 (enc (ch (mz τ) 1 0))) 0 6 0) 0 7 1) 0 7 = 1
    unfold up2; simp
theorem m_spanOf {i : Nat} (hz : zOK (mz τ)) (hi : i < 16) : ∃ τ' len, F_X4_spanOf (nI i) τ = some (enc (ro (mz τ) 1 i), τ') ∧ Keep τ τ' ∧ Sp (mz τ) τ' len ∧ ch (mz τ) 1 len = none ∧ len ≤ 16 := by
  obtain ⟨τ', len, h1, h2, h3, h4, h5⟩ := m_laySpans hz
  refine ⟨τ', len, ?_, h2, h3, h4, h5⟩
  have hs := (sz_lo (c := 1) (by omega) (by omega)).1
  have key : ∀ (m r fu : Nat), r + m = 16 → m < fu → L_X4_spanOf_6 (nI i) τ' fu (nI r) = some (enc (rof (mz τ) 1 i (m + 1) r), τ') := by
    intro m
    induction m with
    | zero =>
      intro r fu hr hf
      obtain ⟨fu, rfl⟩ : ∃ k, fu = k + 1 := ⟨fu - 1, by omega⟩
      have : ch (mz τ) 1 r = none := by
        cases hc : ch (mz τ) 1 r with
        | none => rfl
        | some w => have := ch_len (by omega) (by omega) hc; omega
      rw [L_X4_spanOf_6, h3.1, if_pos ((nI_le_iff (by omega) (by omega)).mpr (by omega)), rof, this]; rfl
    | succ m ih =>
      intro r fu hr hf
      obtain ⟨fu, rfl⟩ : ∃ k, fu = k + 1 := ⟨fu - 1, by omega⟩
      rw [L_X4_spanOf_6, h3.1]
      by_cases hl : r < len
      · obtain ⟨w, e1, e2, -, -⟩ := h3.2 r hl
        have hsl := ch_slot e1
        rw [if_neg (fun q => absurd ((nI_le_iff (by omega) (by omega)).mp q) (by omega)), if_pos (inb_nI (by omega) (by decide)), nI_clamp (by omega), e2, rof, e1]
        simp only [nI_eq_iff (show w < 2 ^ 31 by omega) (show i < 2 ^ 31 by omega)]
        by_cases e : w = i
        · simp [e, enc]
        · simp only [e, not_false_eq_true, if_true, if_false]
          show L_X4_spanOf_6 (nI i) τ' fu (nI r + 1) = _
          rw [nI_1]
          exact ih (r + 1) fu (by omega) (by omega)
      · rw [if_pos ((nI_le_iff (by omega) (by omega)).mpr (by omega)), rof, ch_end h4 r (by omega)]; rfl
  unfold F_X4_spanOf
  rw [h1, Option.bind_some]
  exact key 16 0 FU (by omega) (by decide)
end M3
