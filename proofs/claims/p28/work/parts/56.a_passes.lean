/-! passes: turns counted, values moved on; bounds of the values -/
theorem lz_up0 (μ : Mem) {k : Nat} {v : Int32} (h : k < 19) (h3 : k ≠ 3) : lz (up2 μ 0 k v) = up1 (lz μ) k v := by
  funext x
  unfold lz up1 up2
  dsimp only
  by_cases hx : x = k
  · subst hx
    rw [if_neg (by omega), if_pos (by omega), if_pos ⟨rfl, rfl⟩, if_pos rfl]
  · rw [if_neg hx]
    by_cases h1 : x = 3 ∨ x = 19 ∨ 84 ≤ x
    · rw [if_pos h1, if_pos h1]
    · rw [if_neg h1, if_neg h1]
      by_cases h2 : x < 19
      · rw [if_pos h2, if_pos h2, if_neg (fun q => hx q.2)]
      · rw [if_neg h2, if_neg h2, if_neg (fun q => by omega)]
theorem lz_up1 (μ : Mem) {i : Nat} {v : Int32} (h : i < 64) : lz (up2 μ 1 i v) = up1 (lz μ) (20 + i) v := by
  funext x
  unfold lz up1 up2
  dsimp only
  by_cases hx : x = 20 + i
  · subst hx
    rw [if_neg (by omega), if_neg (by omega), if_pos ⟨rfl, by omega⟩, if_pos rfl]
  · rw [if_neg hx]
    by_cases h1 : x = 3 ∨ x = 19 ∨ 84 ≤ x
    · rw [if_pos h1, if_pos h1]
    · rw [if_neg h1, if_neg h1]
      by_cases h2 : x < 19
      · rw [if_pos h2, if_pos h2, if_neg (fun q => by omega)]
      · rw [if_neg h2, if_neg h2, if_neg (fun q => by omega)]
theorem lz_upS (μ : Mem) {k j : Nat} {v : Int32} (h1 : k < 16) (h2 : j < 4) : lz (up2 μ 1 (4 * k + j) v) = up1 (lz μ) (20 + 4 * k + j) v := by
  rw [lz_up1 μ (by omega), show 20 + (4 * k + j) = 20 + 4 * k + j by omega]
section PS
variable {σ μ : Mem}
theorem l_passes6 (hz : zOK (lz μ)) {x : Int32} (hx : 0 ≤ x.toInt ∧ x.toInt ≤ 9999) (S9 : Int32) : ∀ (m c fu : Nat) (μ1 : Mem) (lam : MemL) (a : Int32), c + m = 16 → 1 ≤ c → m < fu → lz μ1 = tzf (lz μ) x.toInt c → sumT (fun c => nI (tw (lz μ) c x.toInt)) m c a = S9 →
    ∃ μ' lam', L_L_passes_6 x fu a (nI c) (σ, (μ1, lam)) = some (S9, (σ, (μ', lam'))) ∧ lz μ' = tzf (lz μ) x.toInt 16 := by
  intro m
  induction m with
  | zero =>
    intro c fu μ1 lam a hc h1 hf hl hS
    obtain ⟨fu, rfl⟩ : ∃ g, fu = g + 1 := ⟨fu - 1, by omega⟩
    have hc' : c = 16 := by omega
    subst hc'
    refine ⟨μ1, lam, ?_, hl⟩
    rw [L_L_passes_6, if_pos e16, show a = S9 from hS]
  | succ m ih =>
    intro c fu μ1 lam a hc h1 hf hl hS
    obtain ⟨fu, rfl⟩ : ∃ g, fu = g + 1 := ⟨fu - 1, by omega⟩
    have h2 : c ≤ 15 := by omega
    obtain ⟨o1, o2, o3⟩ := tzf_ok (y := x.toInt) (c := c) hz (by omega)
    have etw : ∀ d, tw (lz μ1) d x.toInt = tw (lz μ) d x.toInt := fun d => by rw [hl]; exact (ra_cong o2 o3).2 d _
    obtain ⟨lam1, e1, -⟩ := l_turns (σ := σ) (μ := μ1) (lam := lam) (c := c) (by rw [hl]; exact o1) h1 h2 hx
    rw [etw] at e1
    have i3 : (3 : Int32) + nI c = nI (3 + c) := nI_add 3 c
    have ii : inb (nI (3 + c)) 19 = true := inb_nI (by omega) (by decide)
    have hv : μ1 0 (3 + c) = tzf (lz μ) x.toInt c (3 + c) := by rw [← lz_t μ1 h1 h2, hl]
    obtain ⟨μ', lam', e9, e10⟩ := ih (c + 1) fu (up2 μ1 0 (3 + c) (μ1 0 (3 + c) + nI (tw (lz μ) c x.toInt))) lam1 (a + nI (tw (lz μ) c x.toInt)) (by omega) (by omega) (by omega) (by rw [lz_up0 μ1 (by omega) (by omega), hl, hv, tzf_s h1]) hS
    refine ⟨μ', lam', ?_, e10⟩
    rw [L_L_passes_6, if_neg (d16 (by omega)), e1, Option.bind_some, i3, if_pos ii, if_pos ii, nI_clamp (by omega), nI_1]
    exact e9
theorem l_passes66 {z : Zf} (x a6 : Int32) (lam : MemL) : ∀ (m k fu : Nat) (μ1 : Mem), k + m = 16 → m < fu → lz μ1 = mvf z x k → ∃ μ', L_L_passes_66 x a6 fu (nI k) (σ, (μ1, lam)) = some (σ, (μ', lam)) ∧ lz μ' = mvf z x 16 := by
  intro m
  induction m with
  | zero =>
    intro k fu μ1 hk hf hl
    obtain ⟨fu, rfl⟩ : ∃ g, fu = g + 1 := ⟨fu - 1, by omega⟩
    have hk' : k = 16 := by omega
    subst hk'
    exact ⟨μ1, by rw [L_L_passes_66, if_pos e16], hl⟩
  | succ m ih =>
    intro k fu μ1 hk hf hl
    obtain ⟨fu, rfl⟩ : ∃ g, fu = g + 1 := ⟨fu - 1, by omega⟩
    have hk16 : k < 16 := by omega
    have v1 : μ1 1 (4 * k + 1) = z (20 + 4 * k + 1) := by rw [← lz_s μ1 hk16 (by omega), hl]; exact (mvf_at (b := x)).1
    have v2 : μ1 1 (4 * k + 2) = z (20 + 4 * k + 2) := by rw [← lz_s μ1 hk16 (by omega), hl]; exact (mvf_at (b := x)).2
    obtain ⟨μ', e9, e10⟩ := ih (k + 1) fu (up2 μ1 1 (4 * k + 1) (μ1 1 (4 * k + 1) + x * μ1 1 (4 * k + 2))) (by omega) (by omega) (by rw [lz_upS μ1 hk16 (by omega), hl, v1, v2, Int32.mul_comm x, mvf_s])
    refine ⟨μ', ?_, e10⟩
    rw [L_L_passes_66, if_neg (d16 hk16), if_pos (x41 hk16).1, if_pos (x42 hk16).1, if_pos (x41 hk16).1, nI_1]
    simp only [(x41 hk16).2, (x42 hk16).2]
    exact e9
theorem l_passes (R : RM σ) (hzv : zv σ 6 = lz μ) (lam : MemL) {a : Int32} (ha : 1 ≤ a.toInt ∧ a.toInt ≤ 99) (hl : (lz μ 0).toInt + a.toInt ≤ 9999) : ∃ σ' μ' lam', F_L_passes a (σ, (μ, lam)) = some ((1 : Int32), (σ', (μ', lam'))) ∧ RM1 σ' ∧ zv σ' 6 = lz μ' ∧ lz μ' = up1 (mvf (tzf (lz μ) a.toInt 16) a 16) 0 (lz μ 0 + a) := by
  have hz : zOK (lz μ) := by rw [← hzv]; exact R.1.1
  obtain ⟨σ', s1, s2, s3⟩ := q_pass R ha (by rw [hzv]; exact hl)
  have s4 := q_turnsIn (σ := σ) (x := a) R.1 (by omega)
  rw [hzv] at s1 s3 s4
  obtain ⟨μ1, lam1, e1, e2⟩ := l_passes6 (σ := σ) hz (x := a) (by omega) (sumT (fun c => nI (tw (lz μ) c a.toInt)) 15 1 0) 15 1 FU μ lam 0 (by omega) (by omega) (by decide) (by rw [tzf_1]) rfl
  obtain ⟨μ2, e3, e4⟩ := l_passes66 (σ := σ) (z := tzf (lz μ) a.toInt 16) a (sumT (fun c => nI (tw (lz μ) c a.toInt)) 15 1 0) lam1 16 0 FU μ1 (by omega) (by decide) (by rw [e2, mvf_0])
  have v0 : μ2 0 0 = lz μ 0 := by
    rw [← lz_lo μ2 (by omega), e4]
    show mvf (tzf (lz μ) a.toInt 16) a 16 0 = _
    rw [show mvf (tzf (lz μ) a.toInt 16) a 16 0 = tzf (lz μ) a.toInt 16 0 from if_neg (fun q => by omega)]
    exact if_neg (fun q => by omega)
  have e5 : lz (up2 μ2 0 0 (μ2 0 0 + a)) = up1 (mvf (tzf (lz μ) a.toInt 16) a 16) 0 (lz μ 0 + a) := by rw [lz_up0 μ2 (by omega) (by omega), e4, v0]
  refine ⟨σ', up2 μ2 0 0 (μ2 0 0 + a), lam1, ?_, s2, by rw [s3, e5], e5⟩
  have e1 : L_L_passes_6 a FU (0 : Int32) (1 : Int32) (σ, (μ, lam)) = some (sumT (fun c => nI (tw (lz μ) c a.toInt)) 15 1 0, (σ, (μ1, lam1))) := e1
  have e3 : L_L_passes_66 a (sumT (fun c => nI (tw (lz μ) c a.toInt)) 15 1 0) FU (0 : Int32) (σ, (μ1, lam1)) = some (σ, (μ2, lam1)) := e3
  unfold F_L_passes
  rw [e1, Option.bind_some, s4, oR_inr, if_pos rfl]
  show Option.bind (L_L_passes_66 a (sumT (fun c => nI (tw (lz μ) c a.toInt)) 15 1 0) FU (0 : Int32) (σ, (μ1, lam1))) _ = _
  rw [e3, Option.bind_some]
  show oR (F_X3_pass a σ) _ = _
  rw [s1, oR_inr, if_neg (fun q => q rfl)]
end PS
/-- how far values and time can have come behind T actions -/
def Bd (T : Nat) (z : Zf) : Prop := (z 0).toInt ≤ 99 * T ∧ ∀ k, k < 16 → -(9999 * T) ≤ vv z k ∧ vv z k ≤ 9999 * T
theorem Bd.up {T : Nat} {z : Zf} (h : Bd T z) : Bd (T + 1) z := ⟨by have := h.1; omega, fun k hk => by have := h.2 k hk; omega⟩
theorem Bd.pass {T : Nat} {z : Zf} {a : Int32} (hz : zOK z) (h : Bd T z) (hT : T < 40) (ha : 1 ≤ a.toInt ∧ a.toInt ≤ 99) : Bd (T + 1) (up1 (mvf (tzf z a.toInt 16) a 16) 0 (z 0 + a)) := by
  have h0 := hz.2.2.2.2.1
  have e0 : (z 0 + a).toInt = (z 0).toInt + a.toInt := fb_addI (by omega) (by have := h.1; omega)
  refine ⟨?_, fun k hk => ?_⟩
  · have : up1 (mvf (tzf z a.toInt 16) a 16) 0 (z 0 + a) 0 = z 0 + a := if_pos rfl
    rw [this, e0]; have := h.1; omega
  · have t1 : tzf z a.toInt 16 (20 + 4 * k + 1) = z (20 + 4 * k + 1) := if_neg (fun q => by omega)
    have t2 : tzf z a.toInt 16 (20 + 4 * k + 2) = z (20 + 4 * k + 2) := if_neg (fun q => by omega)
    have ev : up1 (mvf (tzf z a.toInt 16) a 16) 0 (z 0 + a) (20 + 4 * k + 1) = z (20 + 4 * k + 1) + z (20 + 4 * k + 2) * a := by
      unfold up1
      rw [if_neg (by omega), ← t1, ← t2]
      exact if_pos ⟨by omega, by omega, by omega⟩
    have b := h.2 k hk
    have s1 := hz.2.2.1 k hk
    have hm := mul_bd (x := sp z k) (y := a.toInt) (B := 99) (C := 99) ⟨by omega, by omega⟩ ⟨by omega, by omega⟩
    have em : (z (20 + 4 * k + 2) * a).toInt = sp z k * a.toInt := fb_mulI (by show _ ≤ sp z k * a.toInt; omega) (by show sp z k * a.toInt < _; omega)
    have es : (z (20 + 4 * k + 1) + z (20 + 4 * k + 2) * a).toInt = vv z k + sp z k * a.toInt := by
      rw [fb_addI, em]
      · rfl
      · rw [em]; show _ ≤ vv z k + _; omega
      · rw [em]; show vv z k + _ < _; omega
    unfold vv at b ⊢
    rw [ev, es]
    unfold vv
    omega
theorem Bd.row {T : Nat} {z z' : Zf} {i : Nat} (h : Bd T z) (h0 : z' 0 = z 0) (ho : ∀ k, k < 16 → k ≠ i → z' (20 + 4 * k + 1) = z (20 + 4 * k + 1)) (hi : -(9999 * (T + 1 : Nat)) ≤ (z' (20 + 4 * i + 1)).toInt ∧ (z' (20 + 4 * i + 1)).toInt ≤ 9999 * (T + 1 : Nat)) : Bd (T + 1) z' := by
  refine ⟨by rw [h0]; have := h.1; omega, fun k hk => ?_⟩
  by_cases e : k = i
  · subst e; exact hi
  · have := h.2 k hk
    unfold vv at this ⊢
    rw [ho k hk e]; omega
