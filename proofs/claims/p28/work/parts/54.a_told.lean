/-! told: what the class shows, beside the law's own: spans, ranks, movers -/
theorem oR_inr {α β : Type} (a : α) (f : α → Option β) : oR (some (.inr a)) f = f a := rfl
theorem lo1 : lo 1 = 0 := by decide
theorem sz1 : sz 1 = 16 := by decide
/-- the row of moments of a leader -/
def RW (z : Zf) (lam : MemL) (x r : Nat) : Prop := 0 ≤ (lam 0 (4 * x)).toInt ∧ (lam 0 (4 * x)).toInt ≤ 4000000 ∧ 1 ≤ (lam 0 (4 * x + 1)).toInt ∧ (lam 0 (4 * x + 1)).toInt ≤ 198 ∧ (lam 0 (4 * x)).toInt * mB z 1 r = mA z 1 r * (lam 0 (4 * x + 1)).toInt
theorem mv4 {z : Zf} {x r : Nat} (h : ch z 1 r = some x) : mvS z x 4 = wnum z 1 r (z 0) ∧ mvS z x 5 = wden z 1 r := by
  have e := ro_of (by omega) (by omega) h
  unfold mvS
  simp [e]
theorem mv4n {z : Zf} {x : Nat} (h : ∀ r, ch z 1 r ≠ some x) : mvS z x 4 = 0 ∧ mvS z x 5 = 0 := by
  have e : ro z 1 x = none := by
    cases hr : ro z 1 x with
    | none => rfl
    | some r => exact (h r (ro_ch hr)).elim
  unfold mvS
  simp [e]
section TD
variable {σ μ : Mem} {lam : MemL}
theorem l_spans_loop (hC : CA σ) (hzv : zv σ 6 = lz μ) {len : Nat} (hle : len ≤ 16) (h48 : σ 48 5 = nI len) (hch : ∀ r, r < len → ∃ w, ch (lz μ) 1 r = some w) (hR : ∀ r x, ch (lz μ) 1 r = some x → RW (lz μ) lam x r) : ∀ (m k fu : Nat), k + m = len → m < fu → L_L_spans_14 (nI len) (σ, (μ, lam)) fu (nI k) = some 1 := by
  intro m
  induction m with
  | zero =>
    intro k fu hk hf
    obtain ⟨f, rfl⟩ : ∃ f, fu = f + 1 := ⟨fu - 1, by omega⟩
    rw [L_L_spans_14, if_pos ((nI_le_iff (by omega) (by omega)).mpr (by omega))]
  | succ m ih =>
    intro k fu hk hf
    obtain ⟨f, rfl⟩ : ∃ f, fu = f + 1 := ⟨fu - 1, by omega⟩
    obtain ⟨x, hx⟩ := hch k (by omega)
    have hsl := ch_slot hx
    rw [lo1, sz1] at hsl
    have hx16 : x < 16 := by omega
    obtain ⟨b0, b0', b1, b1', er⟩ := hR k x hx
    have n1 := ih (k + 1) f (by omega) (by omega)
    have s0 : F_X3_span (nI k) (0 : Int32) σ = some (.inr (nI x)) := by
      have := q_span (r := k) (k := 0) hC hle h48 (by omega) (by omega)
      rw [hzv] at this
      rw [show (0 : Int32) = nI 0 from rfl, this]
      show some (Sum.inr (enc (ch (lz μ) 1 k))) = _
      rw [hx]; rfl
    have s1 : F_X3_span (nI k) (1 : Int32) σ = some (.inr (wnum (lz μ) 1 k (lz μ 0))) := by
      have := q_span (r := k) (k := 1) hC hle h48 (by omega) (by omega)
      rw [hzv] at this
      exact this
    have s2 : F_X3_span (nI k) (2 : Int32) σ = some (.inr (wden (lz μ) 1 k)) := by
      have := q_span (r := k) (k := 2) hC hle h48 (by omega) (by omega)
      rw [hzv] at this
      exact this
    obtain ⟨v4, v5⟩ := mv4 hx
    have m4 : F_X3_mover (nI x) (4 : Int32) σ = some (.inr (wnum (lz μ) 1 k (lz μ 0))) := by
      have := s_mover (i := x) (k := 4) hC hx16 (by omega) (by rw [hzv]; exact hsl.2.2)
      rw [hzv, v4] at this
      exact this
    have m5 : F_X3_mover (nI x) (5 : Int32) σ = some (.inr (wden (lz μ) 1 k)) := by
      have := s_mover (i := x) (k := 5) hC hx16 (by omega) (by rw [hzv]; exact hsl.2.2)
      rw [hzv, v5] at this
      exact this
    have hz0 := row_zero hx b1 b0 er
    rw [L_L_spans_14, if_neg (fun q => absurd ((nI_le_iff (by omega) (by omega)).mp q) (by omega)), s0, oR_inr, s1, oR_inr, m4, oR_inr, if_neg (fun q => q rfl), s2, oR_inr, m5, oR_inr, if_neg (fun q => q rfl)]
    by_cases hk0 : k = 0
    · subst hk0
      rw [if_neg (fun q : ¬ nI 0 = 0 => q rfl), if_pos (x4 hx16).1]
      simp only [(x4 hx16).2]
      rw [if_pos (lgc_eq.mpr (by rw [hz0.mpr rfl, L0])), if_pos (show nI 0 ≤ (0 : Int32) by decide), show nI 0 + (1 : Int32) = nI (0 + 1) from nI_1 0]
      exact n1
    · obtain ⟨w, hw⟩ := hch (k - 1) (by omega)
      have hwl := ch_slot hw
      rw [lo1, sz1] at hwl
      have hw16 : w < 16 := by omega
      obtain ⟨c0, c0', c1, c1', ew⟩ := hR (k - 1) w hw
      have p0 : F_X3_span (nI k - (1 : Int32)) (0 : Int32) σ = some (.inr (nI w)) := by
        have := q_span (r := k - 1) (k := 0) hC hle h48 (by omega) (by omega)
        rw [hzv] at this
        rw [show nI k - (1 : Int32) = nI (k - 1) from pk_sub (b := 1) (by omega), show (0 : Int32) = nI 0 from rfl, this]
        show some (Sum.inr (enc (ch (lz μ) 1 (k - 1)))) = _
        rw [hw]; rfl
      have hlt := (row_cmp hw hx c1 b1 ew er).mpr (by omega)
      have p1 := (mulL (x := lam 0 (4 * x)) (y := lam 0 (4 * w + 1)) (B := 4000000) (C := 198) (by omega) (by omega) (by decide)).1
      have p2 := (mulL (x := lam 0 (4 * w)) (y := lam 0 (4 * x + 1)) (B := 4000000) (C := 198) (by omega) (by omega) (by decide)).1
      rw [if_pos (nI_ne0 (by omega) (by omega)), if_neg (fun q : nI k ≤ (0 : Int32) => absurd ((nI_le_iff (b := 0) (by omega) (by omega)).mp q) (by omega)), if_pos (x4 hx16).1, p0, oR_inr, if_pos (x41 hw16).1, oR_inr, if_pos (x4 hw16).1, if_pos (x41 hx16).1]
      simp only [(x4 hx16).2, (x41 hx16).2, (x4 hw16).2, (x41 hw16).2]
      rw [if_pos (lgc_gt.mpr (by rw [p1, p2]; exact hlt)), nI_1]
      exact n1
theorem l_spans (hC : CA σ) (hzv : zv σ 6 = lz μ) {len : Nat} (hle : len ≤ 16) (h48 : σ 48 5 = nI len) (hch : ∀ r, r < len → ∃ w, ch (lz μ) 1 r = some w) (hR : ∀ r x, ch (lz μ) 1 r = some x → RW (lz μ) lam x r) : F_L_spans (nI len) (σ, (μ, lam)) = some 1 := by
  unfold F_L_spans
  rw [show F_X3_span (nI len) (0 : Int32) (σ, (μ, lam)).1 = _ from q_spanE hle h48, oR_inr, if_pos rfl]
  exact l_spans_loop hC hzv hle h48 hch hR len 0 FU (by omega) (by show len < 1000; omega)
theorem l_rank (hz : zOK (lz μ)) {x : Nat} (hx : x < 16) (a5 a6 a13 : Int32) : ∀ (m k fu : Nat), k + m = 16 → m < fu → L_L_told_319 a5 a6 a13 (nI x) (σ, (μ, lam)) fu (nI (fb_ct (rkP (lz μ) x) k)) (nI k) = some (nI (fb_ct (rkP (lz μ) x) 16)) := by
  intro m
  induction m with
  | zero =>
    intro k fu hk hf
    obtain ⟨f, rfl⟩ : ∃ f, fu = f + 1 := ⟨fu - 1, by omega⟩
    rw [L_L_told_319, if_pos (show (16 : Int32) ≤ nI k by rw [show k = 16 by omega]; exact e16), show k = 16 by omega]
  | succ m ih =>
    intro k fu hk hf
    obtain ⟨f, rfl⟩ : ∃ f, fu = f + 1 := ⟨fu - 1, by omega⟩
    have hk16 : k < 16 := by omega
    have key : (if nI k = nI x then some (0 : Int32) else if inb ((4 : Int32) * nI k) 64 then (if ¬ μ 1 (((4 : Int32) * nI k).toNatClampNeg) = (1 : Int32) then some (0 : Int32) else Option.bind (F_L_first (nI k) (nI x) (σ, (μ, lam))) (fun r351 => if r351 = 0 then some (0 : Int32) else some (1 : Int32))) else none) = some (b2i (rkP (lz μ) x k)) := by
      by_cases e : k = x
      · subst e
        rw [if_pos rfl]
        have : rkP (lz μ) k k = false := by unfold rkP; rw [ah_irr, Bool.and_false]
        rw [this]; rfl
      · rw [if_neg (fun q => e ((nI_sj hk16 hx).mp q)), if_pos (x4 hk16).1, (x4 hk16).2, lz_tk hz hk16]
        cases ht : tk (lz μ) k with
        | false =>
          have : rkP (lz μ) x k = false := by unfold rkP; rw [ht, Bool.false_and]
          rw [this, if_pos (show ¬ b2i false = (1 : Int32) by decide)]; rfl
        | true =>
          have : rkP (lz μ) x k = ah (lz μ) 0 1 k x := by unfold rkP; rw [ht, Bool.true_and]
          rw [this, if_neg (show ¬ ¬ b2i true = (1 : Int32) from fun q => q rfl), l_first (τ := (σ, (μ, lam))) hz hk16 hx e, Option.bind_some]
          show (if b2i (ah (lz μ) 0 1 k x) = 0 then some (0 : Int32) else some (1 : Int32)) = _
          cases ah (lz μ) 0 1 k x <;> rfl
    rw [L_L_told_319, if_neg (d16 hk16)]
    show Option.bind (if nI k = nI x then some (0 : Int32) else if inb ((4 : Int32) * nI k) 64 then (if ¬ μ 1 (((4 : Int32) * nI k).toNatClampNeg) = (1 : Int32) then some (0 : Int32) else Option.bind (F_L_first (nI k) (nI x) (σ, (μ, lam))) (fun r351 => if r351 = 0 then some (0 : Int32) else some (1 : Int32))) else none) _ = _
    rw [key, Option.bind_some, ct_up, nI_1]
    exact ih (k + 1) f (by omega) (by omega)
/-- the looks that end told -/
theorem l_told_end (hC : CA σ) (hzv : zv σ 6 = lz μ) {len : Nat} (hle : len ≤ 16) (h48 : σ 48 5 = nI len) (hch : ∀ r, r < len → ∃ w, ch (lz μ) 1 r = some w) (hR : ∀ r x, ch (lz μ) 1 r = some x → RW (lz μ) lam x r) (f : Nat) : L_L_told_291 (sumT (fun c => lz μ (3 + c)) 15 1 0) (f + 1) (nI (fb_ct (tk (lz μ)) 16)) (nI len) (nI 16) (σ, (μ, lam)) = some ((1 : Int32), (σ, (μ, lam))) := by
  have cn : ∀ k, k ≤ 5 → F_X3_count (nI k) σ = some (.inr (cnS (lz μ) len k)) := fun k hk => by
    have := q_count (k := k) hC h48 hk
    rw [hzv] at this; exact this
  have c0 : F_X3_count (0 : Int32) σ = some (.inr (μ 0 0)) := by rw [show (0 : Int32) = nI 0 from rfl, cn 0 (by omega)]; show some (Sum.inr (lz μ 0)) = _; rw [lz_lo μ (by omega)]
  have c1 : F_X3_count (1 : Int32) σ = some (.inr (nI (fb_ct (tk (lz μ)) 16))) := cn 1 (by omega)
  have c2 : F_X3_count (2 : Int32) σ = some (.inr (nI len)) := cn 2 (by omega)
  have c3 : F_X3_count (3 : Int32) σ = some (.inr (sumT (fun c => lz μ (3 + c)) 15 1 0)) := cn 3 (by omega)
  have c4 : F_X3_count (4 : Int32) σ = some (.inr (μ 0 4)) := by
    have := cn 4 (by omega)
    rw [show (4 : Int32) = nI 4 from rfl, this]
    show some (Sum.inr (lz μ (3 + 1))) = _
    rw [lz_t μ (by omega) (by omega)]
  have c5 : F_X3_count (5 : Int32) σ = some (.inr (nI (fb_ct (tk (lz μ)) 16) - nI len)) := cn 5 (by omega)
  have t0 : F_X3_setting (0 : Int32) σ = some (.inr (μ 0 1)) := by
    have := q_setting (σ := σ) (k := 0) (by omega)
    rw [hzv, lz_lo μ (by omega)] at this; exact this
  have t1 : F_X3_setting (1 : Int32) σ = some (.inr (μ 0 2)) := by
    have := q_setting (σ := σ) (k := 1) (by omega)
    rw [hzv, lz_lo μ (by omega)] at this; exact this
  have sp9 := l_spans (lam := lam) hC hzv hle h48 hch hR
  rw [L_L_told_291, if_pos e16]
  simp only [c0, c1, c2, c3, c4, c5, t0, t1, oR_inr, not_true_eq_false, if_false, sp9, Option.bind_some]
  rw [if_neg (show ¬ (1 : Int32) = 0 by decide)]
end TD
