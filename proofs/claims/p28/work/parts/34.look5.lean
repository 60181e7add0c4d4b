/-! overtakes and leastSpeed -/
def otS (z : Zf) (i j k : Nat) : Int32 :=
  if ah z 0 1 i j = true then (if k = 0 then z 0 else 1)
  else if sp z i - sp z j ≤ 0 then 0
  else if k = 0 then z 0 * nI ((sp z i - sp z j).toNat / Nat.gcd (vv z j - vv z i).toNat (sp z i - sp z j).toNat) + nI ((vv z j - vv z i).toNat / Nat.gcd (vv z j - vv z i).toNat (sp z i - sp z j).toNat)
  else nI ((sp z i - sp z j).toNat / Nat.gcd (vv z j - vv z i).toNat (sp z i - sp z j).toNat)
theorem gap_pos {z : Zf} {i j : Nat} (h : ah z 0 1 i j = false) (hs : 0 < sp z i - sp z j) : 0 < vv z j - vv z i := by
  have h1 : ¬ ah z 0 1 i j = true := by rw [h]; decide
  rw [ah_iff] at h1
  have e1 : (vv z i - vv z j) * 1 = vv z i - vv z j := Int.mul_one _
  have e2 : (sp z i - sp z j) * 0 = 0 := Int.mul_zero _
  rw [e1, e2] at h1
  omega
section S34
variable {σ : Mem} {τ : Mem × Int64}
theorem s_ot {i j k : Nat} (hz : zOK (zv σ 6)) (hi : i < 16) (hj : j < 16) (hk : k ≤ 1) : Option.bind (F_X1_isAhead 6 (nI i) (nI j) (0 : Int32) σ) (fun r58 => (if r58 = 0 then Option.bind (F_X1_speedOf 6 (nI i) σ) (fun r85 => Option.bind (F_X1_speedOf 6 (nI j) σ) (fun r93 => (if 0 < (r85 - r93) then Option.bind (F_X1_valueOf 6 (nI j) σ) (fun r111 => Option.bind (F_X1_valueOf 6 (nI i) σ) (fun r119 => Option.bind (F_X3_reduced (r85 - r93) (r111 - r119)) (fun r129 => (if ¬ nI k = 0 then some r129 else Option.bind (F_X3_reduced (r111 - r119) (r85 - r93)) (fun r152 => some (((σ 6 5) * r129) + r152)))))) else some (0 : Int32)))) else (if ¬ nI k = 0 then some (1 : Int32) else some (σ 6 5)))) = some (otS (zv σ 6) i j k) := by
  rw [s_isAhead (x := 0) hz hi hj (by decide), Option.bind_some]
  unfold otS
  have hx : (0 : Int32).toInt = 0 := by decide
  rw [hx]
  have si := hz.s hi
  have sj := hz.s hj
  have vi := hz.v hi
  have vj := hz.v hj
  have ei := zv_sp σ 6 hi
  have ej := zv_sp σ 6 hj
  have fi := zv_vv σ 6 hi
  have fj := zv_vv σ 6 hj
  cases hA : ah (zv σ 6) 0 1 i j with
  | true =>
    rw [if_b1, if_pos rfl]
    rcases lt2 hk with rfl | rfl
    · rw [if_neg (by decide)]; rfl
    · rw [if_pos (by decide)]; rfl
  | false =>
    rw [if_b0, if_neg (by decide), s_speed hi, Option.bind_some, s_speed hj, Option.bind_some]
    have hs : (σ (6 + 3) i - σ (6 + 3) j).toInt = sp (zv σ 6) i - sp (zv σ 6) j := by
      rw [m_sub (B := 99) (C := 99) (by rw [← ei]; exact si) (by rw [← ej]; exact sj) (by decide), ei, ej]
    by_cases hp : sp (zv σ 6) i - sp (zv σ 6) j ≤ 0
    · rw [if_neg (fun q => by rw [i32_lt, hs, hx] at q; omega), if_pos hp]
    · have hg := gap_pos hA (by omega)
      have hv : (σ (6 + 2) j - σ (6 + 2) i).toInt = vv (zv σ 6) j - vv (zv σ 6) i := by
        rw [m_sub (B := 2000000) (C := 2000000) (by rw [← fj]; exact vj) (by rw [← fi]; exact vi) (by decide), fi, fj]
      have nc : σ (6 + 3) i - σ (6 + 3) j = nI (sp (zv σ 6) i - sp (zv σ 6) j).toNat := i_nI (by rw [hs]; omega)
      have nv : σ (6 + 2) j - σ (6 + 2) i = nI (vv (zv σ 6) j - vv (zv σ 6) i).toNat := i_nI (by rw [hv]; omega)
      rw [if_pos (by rw [i32_lt, hs, hx]; omega), if_neg hp, s_value hj, Option.bind_some, s_value hi, Option.bind_some, nc, nv, s_reduced (by omega) (by omega) (by omega) (by omega), Option.bind_some, s_reduced (by omega) (by omega) (by omega) (by omega), Option.bind_some]
      rw [Nat.gcd_comm (sp (zv σ 6) i - sp (zv σ 6) j).toNat]
      rcases lt2 hk with rfl | rfl
      · rw [if_neg (by decide)]; rfl
      · rw [if_pos (by decide)]; rfl
end S34
/-! the least speed -/
def rv (z : Zf) (x : Int) (i : Nat) : Option Nat := fo (fun k => tk z k && !decide (nI k = nI i)) (ah z x 1) 16 0 none
def lsP (z : Zf) (x : Int) (i : Nat) (t : Int) : Bool := match rv z x i with
  | none => true
  | some j => wb z t x i j
def LSp (p : Int → Bool) (v : Int) : Prop := (-99 ≤ v ∧ v ≤ 99 ∧ p v = true ∧ ∀ u, -99 ≤ u → u < v → p u = false) ∨ (v = -100 ∧ ∀ u, -99 ≤ u → u ≤ 99 → p u = false)
theorem LSp.one {p : Int → Bool} {v w : Int} (h : LSp p v) (g : LSp p w) : v = w := by
  rcases h with ⟨a1, a2, a3, a4⟩ | ⟨a1, a2⟩
  · rcases g with ⟨b1, b2, b3, b4⟩ | ⟨b1, b2⟩
    · rcases Int.lt_or_le v w with q | q
      · rw [b4 v a1 q] at a3; cases a3
      · rcases Int.lt_or_le w v with r | r
        · rw [a4 w b1 r] at b3; cases b3
        · omega
    · rw [b2 v a1 a2] at a3; cases a3
  · rcases g with ⟨b1, b2, b3, b4⟩ | ⟨b1, b2⟩
    · rw [a2 w b1 b2] at b3; cases b3
    · omega
theorem rv_some {z : Zf} {x : Int} {i j : Nat} (hi : i < 16) (h : rv z x i = some j) : j < 16 ∧ j ≠ i ∧ tk z j = true ∧ ∀ k, k < 16 → k ≠ i → k ≠ j → tk z k = true → ah z x 1 j k = true := by
  have B := fo_best (t := fun k => tk z k && !decide (nI k = nI i)) (g := ah z x 1) (fun i j _ _ h q => lx_tot h q) (fun i j k _ _ _ p q => lx_tr p q) 16 0
  rw [show fo (fun k => tk z k && !decide (nI k = nI i)) (ah z x 1) 16 0 none = some j from h] at B
  obtain ⟨b1, b2, b3, b4⟩ := B
  have hj : tk z j = true ∧ ¬ nI j = nI i := by simpa using b3
  refine ⟨by omega, fun e => hj.2 (by rw [e]), hj.1, fun k k1 k2 k3 k4 => b4 k (by omega) (by omega) ?_ k3⟩
  have : ¬ nI k = nI i := fun e => k2 ((nI_eq_iff (by omega) (by omega)).mp e)
  simp [k4, this]
theorem rv_none {z : Zf} {x : Int} {i : Nat} (hi : i < 16) (h : rv z x i = none) : ∀ k, k < 16 → k ≠ i → tk z k = false := by
  have B := fo_best (t := fun k => tk z k && !decide (nI k = nI i)) (g := ah z x 1) (fun i j _ _ h q => lx_tot h q) (fun i j k _ _ _ p q => lx_tr p q) 16 0
  rw [show fo (fun k => tk z k && !decide (nI k = nI i)) (ah z x 1) 16 0 none = none from h] at B
  intro k k1 k2
  have := B k (by omega) (by omega)
  have hn : ¬ nI k = nI i := fun e => k2 ((nI_eq_iff (by omega) (by omega)).mp e)
  simpa [hn] using this
theorem wb_mono {z : Zf} {t u x : Int} {i j : Nat} (hx : 0 ≤ x) (htu : t ≤ u) (h : wb z t x i j = true) : wb z u x i j = true := by
  unfold wb at *
  have hd : (t - sp z j) * x ≤ (u - sp z j) * x := mul_le_l (by omega) hx
  by_cases hu : t = u
  · rw [← hu]; exact h
  · generalize (t - sp z j) * x = p at *
    generalize (u - sp z j) * x = q at *
    by_cases h1 : vv z i - vv z j + p = 0
    · rw [if_pos h1] at h
      have h2 : 0 ≤ t - sp z j := by
        by_cases e : t - sp z j = 0
        · omega
        · rw [if_neg e, decide_eq_true_eq] at h; omega
      by_cases h3 : vv z i - vv z j + q = 0
      · rw [if_pos h3, if_neg (by omega), decide_eq_true_eq]; omega
      · rw [if_neg h3, decide_eq_true_eq]; omega
    · rw [if_neg h1, decide_eq_true_eq] at h
      rw [if_neg (by omega), decide_eq_true_eq]; omega
def iS (l : Nat) : Int32 := nI l - 99
theorem iS_toInt : ∀ l, l < 200 → (iS l).toInt = (l : Int) - 99 := by decide +kernel
theorem iS_add (l h : Nat) : iS l + iS h = nI (l + h) - 198 := by
  unfold iS
  rw [← nI_add]
  simp only [Int32.sub_eq_add_neg]
  have e : (-198 : Int32) = -99 + -99 := by decide
  rw [e]
  ac_rfl
theorem iS_1 (l : Nat) : iS l + 1 = iS (l + 1) := by
  unfold iS
  rw [← nI_1 l]
  simp only [Int32.sub_eq_add_neg]
  rw [Int32.add_assoc, Int32.add_comm (-99) 1, ← Int32.add_assoc]
/-- the row with another speed -/
theorem sp_z {z : Zf} {i j : Nat} {s : Int32} : sp (up1 z (20 + 4 * i + 2) s) j = if j = i then s.toInt else sp z j := by
  unfold sp up1
  by_cases e : j = i
  · rw [e, if_pos rfl, if_pos rfl]
  · rw [if_neg e, if_neg (by omega)]
theorem vv_z {z : Zf} {i j : Nat} {s : Int32} : vv (up1 z (20 + 4 * i + 2) s) j = vv z j := by
  unfold vv up1
  rw [if_neg (by omega)]
theorem tk_z {z : Zf} {i j : Nat} {s : Int32} : tk (up1 z (20 + 4 * i + 2) s) j = tk z j := by
  unfold tk up1
  rw [if_neg (by omega)]
theorem up_z {z : Zf} {i : Nat} {s : Int32} : up (up1 z (20 + 4 * i + 2) s) = up z := by
  unfold up up1
  rw [if_neg (by omega)]
theorem zOK_sp {z : Zf} {i : Nat} {s : Int32} (hz : zOK z) (hs : -99 ≤ s.toInt ∧ s.toInt ≤ 99) : zOK (up1 z (20 + 4 * i + 2) s) := by
  have e0 : ∀ k, k < 3 → up1 z (20 + 4 * i + 2) s k = z k := fun k hk => by unfold up1; rw [if_neg (by omega)]
  refine ⟨fun k hk => ?_, fun k hk => ?_, fun k hk => ?_, ?_, ?_, ?_⟩
  · have := hz.1 k hk
    unfold up1; rw [if_neg (by omega)]; exact this
  · rw [vv_z, e0 0 (by omega)]; exact hz.2.1 k hk
  · rw [sp_z]; split
    · exact hs
    · exact hz.s hk
  · rw [e0 1 (by omega)]; exact hz.2.2.2.1
  · rw [e0 0 (by omega)]; exact hz.2.2.2.2.1
  · rw [e0 2 (by omega)]; exact hz.2.2.2.2.2
theorem ls_win {z : Zf} {x : Int} {i : Nat} {s : Int32} (hi : i < 16) (ht : tk z i = true) : win (up1 z (20 + 4 * i + 2) s) x 1 1 = some i ↔ lsP z x i s.toInt = true := by
  have hwb : ∀ j, j ≠ i → ah (up1 z (20 + 4 * i + 2) s) x 1 i j = wb z s.toInt x i j := fun j hj => by
    rw [← wb_ah]
    unfold wb ord
    rw [vv_z, vv_z, sp_z, sp_z, if_pos rfl, if_neg hj, up_z]
  have hah : ∀ j k, j ≠ i → k ≠ i → ah (up1 z (20 + 4 * i + 2) s) x 1 j k = ah z x 1 j k := fun j k hj hk => by
    rw [← wb_ah, ← wb_ah]
    unfold wb ord
    rw [vv_z, vv_z, sp_z, sp_z, if_neg hj, if_neg hk, up_z]
  have hl : lo 1 = 0 ∧ sz 1 = 16 := by decide
  rw [← lead_win]
  unfold Lead lsP
  rw [hl.1, hl.2]
  cases hr : rv z x i with
  | none =>
    have hn := rv_none hi hr
    constructor
    · intro _; rfl
    · intro _
      refine ⟨by omega, by omega, by rw [tk_z]; exact ht, fun j j1 j2 j3 j4 => ?_⟩
      rw [tk_z, hn j (by omega) j4] at j3; cases j3
  | some r =>
    obtain ⟨r1, r2, r3, r4⟩ := rv_some hi hr
    constructor
    · intro h
      have := h.2.2.2 r (by omega) (by omega) (by rw [tk_z]; exact r3) r2
      rw [hwb r r2] at this
      exact this
    · intro h
      refine ⟨by omega, by omega, by rw [tk_z]; exact ht, fun j j1 j2 j3 j4 => ?_⟩
      rw [tk_z] at j3
      by_cases e : j = r
      · rw [e, hwb r r2]; exact h
      · have h1 : ah (up1 z (20 + 4 * i + 2) s) x 1 i r = true := by rw [hwb r r2]; exact h
        have h2 : ah (up1 z (20 + 4 * i + 2) s) x 1 r j = true := by rw [hah r j r2 j4]; exact r4 j (by omega) j4 e j3
        exact lx_tr h1 h2
