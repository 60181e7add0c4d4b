/-! from when on and up to when a mover is ahead of all others of some places, found by pairs -/
def AhA (z : Zf) (l h : Nat) (a b : Int) (x : Nat) : Prop := ∀ y, l ≤ y → y < h → tk z y = true → y ≠ x → ah z a b x y = true
def WI (z : Zf) (x l k : Nat) (f0 f1 f2 f3 : Int) : Prop :=
  (0 ≤ f0 ∧ f0 ≤ 4000000 ∧ 1 ≤ f1 ∧ f1 ≤ 198 ∧ -4000000 ≤ f2 ∧ f2 ≤ 4000000 ∧ 0 ≤ f3 ∧ f3 ≤ 198) ∧
  (∀ y, l ≤ y → y < k → tk z y = true → y ≠ x → sp z y < sp z x → (vv z y - vv z x) * f1 ≤ f0 * (sp z x - sp z y)) ∧
  ((f0 = 0 ∧ f1 = 1) ∨ ∃ y, l ≤ y ∧ y < k ∧ tk z y = true ∧ y ≠ x ∧ sp z y < sp z x ∧ f0 = vv z y - vv z x ∧ f1 = sp z x - sp z y) ∧
  (f3 = 0 → ∀ y, l ≤ y → y < k → tk z y = true → y ≠ x → ¬ sp z x < sp z y) ∧
  (0 < f3 → (∃ y, l ≤ y ∧ y < k ∧ tk z y = true ∧ y ≠ x ∧ sp z x < sp z y ∧ f2 = vv z x - vv z y ∧ f3 = sp z y - sp z x) ∧ ∀ y, l ≤ y → y < k → tk z y = true → y ≠ x → sp z x < sp z y → f2 * (sp z y - sp z x) ≤ (vv z x - vv z y) * f3) ∧
  (∀ y, l ≤ y → y < k → tk z y = true → y ≠ x → sp z y = sp z x → ah z 0 1 x y = true)
theorem ah_same {z : Zf} {a b a' b' : Int} {x y : Nat} (hs : sp z y = sp z x) (hb : 0 < b) (hb' : 0 < b') (h : ah z a b x y = true) : ah z a' b' x y = true := by
  rw [ah_iff] at h ⊢
  have e : sp z x - sp z y = 0 := by omega
  rw [e, Int.zero_mul, Int.add_zero] at h ⊢
  rcases h with h | ⟨h1, h2⟩
  · exact Or.inl (Int.mul_pos (pos_of_mul h hb) hb')
  · right
    have : vv z x - vv z y = 0 := zero_of_mul h1 hb
    rw [this, Int.zero_mul]
    exact ⟨rfl, h2⟩
theorem WI.z0 (z : Zf) (x l : Nat) : WI z x l l 0 1 1 0 :=
  ⟨by omega, fun y h1 h2 => by omega, Or.inl ⟨rfl, rfl⟩, fun _ y h1 h2 => by omega, fun h => by omega, fun y h1 h2 => by omega⟩
section WIs
variable {z : Zf} {x l k : Nat} {f0 f1 f2 f3 : Int}
theorem lt_cases {y k : Nat} (h : y < k + 1) : y < k ∨ y = k := by omega
theorem WI.skip (h : WI z x l k f0 f1 f2 f3) (hk : k = x ∨ tk z k = false) : WI z x l (k + 1) f0 f1 f2 f3 := by
  obtain ⟨h0, hA, hA', hB, hB', hC⟩ := h
  have no : ∀ y, y = k → tk z y = true → y ≠ x → False := fun y e ht hx => by
    subst e
    rcases hk with q | q
    · exact hx q
    · rw [ht] at q; cases q
  refine ⟨h0, fun y h1 h2 h3 h4 h5 => ?_, ?_, fun q y h1 h2 h3 h4 => ?_, fun q => ⟨?_, fun y h1 h2 h3 h4 h5 => ?_⟩, fun y h1 h2 h3 h4 h5 => ?_⟩
  · rcases lt_cases h2 with q | q
    · exact hA y h1 q h3 h4 h5
    · exact (no y q h3 h4).elim
  · rcases hA' with q | ⟨y, q1, q2, q3⟩
    · exact Or.inl q
    · exact Or.inr ⟨y, q1, by omega, q3⟩
  · rcases lt_cases h2 with r | r
    · exact hB q y h1 r h3 h4
    · exact (no y r h3 h4).elim
  · obtain ⟨y, q1, q2, q3⟩ := (hB' q).1
    exact ⟨y, q1, by omega, q3⟩
  · rcases lt_cases h2 with r | r
    · exact (hB' q).2 y h1 r h3 h4 h5
    · exact (no y r h3 h4).elim
  · rcases lt_cases h2 with r | r
    · exact hC y h1 r h3 h4 h5
    · exact (no y r h3 h4).elim
theorem WI.same (h : WI z x l k f0 f1 f2 f3) (hs : sp z k = sp z x) (ha : ah z 0 1 x k = true) : WI z x l (k + 1) f0 f1 f2 f3 := by
  obtain ⟨h0, hA, hA', hB, hB', hC⟩ := h
  refine ⟨h0, fun y h1 h2 h3 h4 h5 => ?_, ?_, fun q y h1 h2 h3 h4 => ?_, fun q => ⟨?_, fun y h1 h2 h3 h4 h5 => ?_⟩, fun y h1 h2 h3 h4 h5 => ?_⟩
  · rcases lt_cases h2 with q | q
    · exact hA y h1 q h3 h4 h5
    · subst q; omega
  · rcases hA' with q | ⟨y, q1, q2, q3⟩
    · exact Or.inl q
    · exact Or.inr ⟨y, q1, by omega, q3⟩
  · rcases lt_cases h2 with r | r
    · exact hB q y h1 r h3 h4
    · subst r; omega
  · obtain ⟨y, q1, q2, q3⟩ := (hB' q).1
    exact ⟨y, q1, by omega, q3⟩
  · rcases lt_cases h2 with r | r
    · exact (hB' q).2 y h1 r h3 h4 h5
    · subst r; omega
  · rcases lt_cases h2 with r | r
    · exact hC y h1 r h3 h4 h5
    · subst r; exact ha
theorem WI.slowN (h : WI z x l k f0 f1 f2 f3) (hs : sp z k < sp z x) (hn : (vv z k - vv z x) * f1 ≤ f0 * (sp z x - sp z k)) : WI z x l (k + 1) f0 f1 f2 f3 := by
  obtain ⟨h0, hA, hA', hB, hB', hC⟩ := h
  refine ⟨h0, fun y h1 h2 h3 h4 h5 => ?_, ?_, fun q y h1 h2 h3 h4 => ?_, fun q => ⟨?_, fun y h1 h2 h3 h4 h5 => ?_⟩, fun y h1 h2 h3 h4 h5 => ?_⟩
  · rcases lt_cases h2 with q | q
    · exact hA y h1 q h3 h4 h5
    · subst q; exact hn
  · rcases hA' with q | ⟨y, q1, q2, q3⟩
    · exact Or.inl q
    · exact Or.inr ⟨y, q1, by omega, q3⟩
  · rcases lt_cases h2 with r | r
    · exact hB q y h1 r h3 h4
    · subst r; omega
  · obtain ⟨y, q1, q2, q3⟩ := (hB' q).1
    exact ⟨y, q1, by omega, q3⟩
  · rcases lt_cases h2 with r | r
    · exact (hB' q).2 y h1 r h3 h4 h5
    · subst r; omega
  · rcases lt_cases h2 with r | r
    · exact hC y h1 r h3 h4 h5
    · subst r; omega
theorem WI.slowY (hz : zOK z) (hx : x < 16) (hk : k < 16) (hl : l ≤ k) (h : WI z x l k f0 f1 f2 f3) (ht : tk z k = true) (hkx : k ≠ x) (hs : sp z k < sp z x) (hn : f0 * (sp z x - sp z k) < (vv z k - vv z x) * f1) : WI z x l (k + 1) (vv z k - vv z x) (sp z x - sp z k) f2 f3 := by
  obtain ⟨h0, hA, hA', hB, hB', hC⟩ := h
  have v1 := hz.v hx
  have v2 := hz.v hk
  have s1 := hz.s hx
  have s2 := hz.s hk
  have hg : 0 ≤ vv z k - vv z x := by
    have : 0 ≤ f0 * (sp z x - sp z k) := Int.mul_nonneg h0.1 (by omega)
    exact nonneg_of_mul (c := f1) (by omega) (by omega)
  refine ⟨by omega, fun y h1 h2 h3 h4 h5 => ?_, Or.inr ⟨k, hl, by omega, ht, hkx, hs, rfl, rfl⟩, fun q y h1 h2 h3 h4 => ?_, fun q => ⟨?_, fun y h1 h2 h3 h4 h5 => ?_⟩, fun y h1 h2 h3 h4 h5 => ?_⟩
  · rcases lt_cases h2 with q | q
    · exact (@fr_tr (vv z y - vv z x) (sp z x - sp z y) f0 f1 (vv z k - vv z x) (sp z x - sp z k) (by omega) (by omega) (by omega) (hA y h1 q h3 h4 h5) (by omega)).1
    · subst q; exact Int.le_refl _
  · rcases lt_cases h2 with r | r
    · exact hB q y h1 r h3 h4
    · subst r; omega
  · obtain ⟨y, q1, q2, q3⟩ := (hB' q).1
    exact ⟨y, q1, by omega, q3⟩
  · rcases lt_cases h2 with r | r
    · exact (hB' q).2 y h1 r h3 h4 h5
    · subst r; omega
  · rcases lt_cases h2 with r | r
    · exact hC y h1 r h3 h4 h5
    · subst r; omega
theorem WI.fastN (h : WI z x l k f0 f1 f2 f3) (hs : sp z x < sp z k) (h3 : 0 < f3) (hn : f2 * (sp z k - sp z x) ≤ (vv z x - vv z k) * f3) : WI z x l (k + 1) f0 f1 f2 f3 := by
  obtain ⟨h0, hA, hA', hB, hB', hC⟩ := h
  refine ⟨h0, fun y h1 h2 h3 h4 h5 => ?_, ?_, fun q y h1 h2 h3 h4 => ?_, fun q => ⟨?_, fun y h1 h2 h3 h4 h5 => ?_⟩, fun y h1 h2 h3 h4 h5 => ?_⟩
  · rcases lt_cases h2 with q | q
    · exact hA y h1 q h3 h4 h5
    · subst q; omega
  · rcases hA' with q | ⟨y, q1, q2, q3⟩
    · exact Or.inl q
    · exact Or.inr ⟨y, q1, by omega, q3⟩
  · omega
  · obtain ⟨y, q1, q2, q3⟩ := (hB' q).1
    exact ⟨y, q1, by omega, q3⟩
  · rcases lt_cases h2 with r | r
    · exact (hB' q).2 y h1 r h3 h4 h5
    · subst r; exact hn
  · rcases lt_cases h2 with r | r
    · exact hC y h1 r h3 h4 h5
    · subst r; omega
theorem WI.fastY (hz : zOK z) (hx : x < 16) (hk : k < 16) (hl : l ≤ k) (h : WI z x l k f0 f1 f2 f3) (ht : tk z k = true) (hkx : k ≠ x) (hs : sp z x < sp z k) (hn : f3 = 0 ∨ (vv z x - vv z k) * f3 < f2 * (sp z k - sp z x)) : WI z x l (k + 1) f0 f1 (vv z x - vv z k) (sp z k - sp z x) := by
  obtain ⟨h0, hA, hA', hB, hB', hC⟩ := h
  have v1 := hz.v hx
  have v2 := hz.v hk
  have s1 := hz.s hx
  have s2 := hz.s hk
  refine ⟨by omega, fun y h1 h2 h3 h4 h5 => ?_, ?_, fun q y h1 h2 h3 h4 => by omega, fun q => ⟨⟨k, hl, by omega, ht, hkx, hs, rfl, rfl⟩, fun y h1 h2 h3 h4 h5 => ?_⟩, fun y h1 h2 h3 h4 h5 => ?_⟩
  · rcases lt_cases h2 with q | q
    · exact hA y h1 q h3 h4 h5
    · subst q; omega
  · rcases hA' with q | ⟨y, q1, q2, q3⟩
    · exact Or.inl q
    · exact Or.inr ⟨y, q1, by omega, q3⟩
  · rcases lt_cases h2 with r | r
    · rcases hn with q0 | q0
      · exact (hB q0 y h1 r h3 h4 h5).elim
      · rcases Int.lt_or_eq_of_le h0.2.2.2.2.2.2.1 with q3 | q3
        · exact (@fr_tr (vv z x - vv z k) (sp z k - sp z x) f2 f3 (vv z x - vv z y) (sp z y - sp z x) (by omega) q3 (by omega) (by omega) ((hB' q3).2 y h1 r h3 h4 h5)).1
        · exact (hB q3.symm y h1 r h3 h4 h5).elim
    · subst r; exact Int.le_refl _
  · rcases lt_cases h2 with r | r
    · exact hC y h1 r h3 h4 h5
    · subst r; omega
theorem WI.lead (h : WI z x l k f0 f1 f2 f3) (hn : f3 = 0 ∨ f0 * f3 < f2 * f1) : AhA z l k f0 f1 x := by
  obtain ⟨h0, hA, hA', hB, hB', hC⟩ := h
  intro y h1 h2 h3 h4
  rcases Int.lt_trichotomy (sp z y) (sp z x) with q | q | q
  · have hq := hA y h1 h2 h3 h4 q
    rw [ah_iff]
    have e : (vv z x - vv z y) * f1 = -((vv z y - vv z x) * f1) := by rw [← Int.neg_mul]; congr 1; omega
    rw [e, Int.mul_comm (sp z x - sp z y) f0]
    rcases Int.lt_or_eq_of_le hq with r | r
    · left; omega
    · right; exact ⟨by omega, Or.inl q⟩
  · exact ah_same q (by omega) (by omega) (hC y h1 h2 h3 h4 q)
  · have hf : 0 < f3 := by
      rcases Int.lt_or_eq_of_le h0.2.2.2.2.2.2.1 with r | r
      · exact r
      · exact (hB r.symm y h1 h2 h3 h4 q).elim
    have hq := (hB' hf).2 y h1 h2 h3 h4 q
    have hn' : f0 * f3 < f2 * f1 := by
      rcases hn with r | r
      · omega
      · exact r
    have F := (@fr_tr f0 f1 f2 f3 (vv z x - vv z y) (sp z y - sp z x) (by omega) hf (by omega) (by omega) hq).2 (Or.inl hn')
    rw [ah_iff]
    left
    have e : (sp z x - sp z y) * f0 = -(f0 * (sp z y - sp z x)) := by rw [Int.mul_comm, ← Int.mul_neg]; congr 1; omega
    rw [e]; omega
theorem AhA.slow {a b : Int} {y : Nat} (h : AhA z l k a b x) (h1 : l ≤ y) (h2 : y < k) (h3 : tk z y = true) (h4 : y ≠ x) : (vv z y - vv z x) * b ≤ a * (sp z x - sp z y) := by
  have hq := ah_iff.mp (h y h1 h2 h3 h4)
  have e : (vv z x - vv z y) * b = -((vv z y - vv z x) * b) := by rw [← Int.neg_mul]; congr 1; omega
  rw [e, Int.mul_comm (sp z x - sp z y) a] at hq
  rcases hq with r | ⟨r, -⟩ <;> omega
theorem AhA.fast {a b : Int} {y : Nat} (h : AhA z l k a b x) (h1 : l ≤ y) (h2 : y < k) (h3 : tk z y = true) (h4 : y ≠ x) (hs : sp z x < sp z y) : a * (sp z y - sp z x) < (vv z x - vv z y) * b := by
  have hq := ah_iff.mp (h y h1 h2 h3 h4)
  have e : (sp z x - sp z y) * a = -(a * (sp z y - sp z x)) := by rw [Int.mul_comm, ← Int.mul_neg]; congr 1; omega
  rw [e] at hq
  rcases hq with r | ⟨-, r | ⟨r, -⟩⟩ <;> omega
theorem WI.frm {a b : Int} (h : WI z x l k f0 f1 f2 f3) (ha : 0 ≤ a) (hb : 0 < b) (hL : AhA z l k a b x) : f0 * b ≤ a * f1 := by
  obtain ⟨h0, hA, hA', hB, hB', hC⟩ := h
  rcases hA' with ⟨rfl, rfl⟩ | ⟨y, q1, q2, q3, q4, q5, q6, q7⟩
  · omega
  · rw [q6, q7]
    exact hL.slow q1 q2 q3 q4
theorem WI.no {a b : Int} (h : WI z x l k f0 f1 f2 f3) (hn : ¬ (f3 = 0 ∨ f0 * f3 < f2 * f1)) (ha : 0 ≤ a) (hb : 0 < b) (hL : AhA z l k a b x) : False := by
  have hf := h.frm ha hb hL
  obtain ⟨h0, hA, hA', hB, hB', hC⟩ := h
  have h3 : 0 < f3 := by omega
  obtain ⟨y, q1, q2, q3, q4, q5, q6, q7⟩ := (hB' h3).1
  have hg := hL.fast q1 q2 q3 q4 q5
  rw [← q6, ← q7] at hg
  have := (@fr_tr f0 f1 a b f2 f3 (by omega) hb h3 hf (by omega)).2 (Or.inr hg)
  omega
end WIs
/-! the moments one behind another, and the row of a winner -/
theorem ch_lt {z : Zf} {c : Nat} : ∀ {n r k : Nat}, ch z c n = some k → r < n → mA z c r * mB z c n < mA z c n * mB z c r := by
  intro n
  induction n with
  | zero => intro r k _ h; omega
  | succ n ih =>
    intro r k h hr
    obtain ⟨hm, w, hw, -⟩ := ch_mono h
    by_cases e : r = n
    · subst e; exact hm
    · have h1 := ih hw (show r < n by omega)
      obtain ⟨v, hv⟩ := ch_prev hw (show r ≤ n by omega)
      obtain ⟨i1, -, -⟩ := ch_lead hw
      obtain ⟨j1, -, -⟩ := ch_lead h
      obtain ⟨k1, -, -⟩ := ch_lead hv
      exact (@fr_tr (mA z c r) (mB z c r) (mA z c n) (mB z c n) (mA z c (n + 1)) (mB z c (n + 1)) k1 i1 j1 (by omega) (by omega)).2 (Or.inl h1)
theorem ch_inj {z : Zf} {c r n k : Nat} (h1 : ch z c r = some k) (h2 : ch z c n = some k) : r = n := by
  rcases Nat.lt_trichotomy r n with q | q | q
  · have := ch_faster h2 h1 q; omega
  · exact q
  · have := ch_faster h1 h2 q; omega
/-- the last row that has begun at a by b -/
theorem ch_last {z : Zf} {c : Nat} {a b : Int} (hb : 0 < b) (h1 : 1 ≤ c) (h2 : c ≤ 15) : ∀ (f r w : Nat), 16 ≤ r + f → ch z c r = some w → mA z c r * b ≤ a * mB z c r → ∃ n w', ch z c n = some w' ∧ mA z c n * b ≤ a * mB z c n ∧ ∀ k, ch z c (n + 1) = some k → a * mB z c (n + 1) < mA z c (n + 1) * b := by
  intro f
  induction f with
  | zero => intro r w hr h _; have := ch_len h1 h2 h; omega
  | succ f ih =>
    intro r w hr h hm
    cases hk : ch z c (r + 1) with
    | none => exact ⟨r, w, h, hm, fun k q => by rw [hk] at q; cases q⟩
    | some k =>
      by_cases hq : mA z c (r + 1) * b ≤ a * mB z c (r + 1)
      · exact ih (r + 1) k (by omega) hk hq
      · exact ⟨r, w, h, hm, fun k' _ => by omega⟩
theorem lead_row {z : Zf} {c x : Nat} {a b : Int} (ha : 0 ≤ a) (hb : 0 < b) (h1 : 1 ≤ c) (h2 : c ≤ 15) (hL : Lead z c a b x) : ∃ r, ch z c r = some x ∧ mA z c r * b ≤ a * mB z c r := by
  obtain ⟨w, hw⟩ : ∃ w, ch z c 0 = some w := by
    cases hc : ch z c 0 with
    | some w => exact ⟨w, rfl⟩
    | none =>
      have := win_none (x := a) (y := b) (show win z 0 1 c = none from hc)
      rw [lead_win.mp hL] at this; cases this
  obtain ⟨n, w', g1, g2, g3⟩ := ch_last (a := a) hb h1 h2 16 0 w (by omega) hw (by show 0 * b ≤ a * 1; omega)
  obtain ⟨i1, -, i3⟩ := ch_lead g1
  have hL' : Lead z c a b w' := lead_hold i1 hb i3 g2 (fun k hk => by
    have hc : ch z c (n + 1) = some k := by rw [ch, g1]; exact hk
    obtain ⟨w2, e1, -, e3, e4⟩ := ch_succ hc
    rw [g1] at e1; cases e1
    have := g3 k hc
    rw [e3, e4] at this; exact this)
  have e : some x = some w' := (lead_win.mp hL).symm.trans (lead_win.mp hL')
  cases e
  exact ⟨n, g1, g2⟩
/-- what the pairs find: that x wins at some time, and from when on -/
theorem wi_row {z : Zf} {c x : Nat} {f0 f1 f2 f3 : Int} (h1 : 1 ≤ c) (h2 : c ≤ 15) (hx : lo c ≤ x) (hx2 : x < lo c + sz c) (ht : tk z x = true) (h : WI z x (lo c) (lo c + sz c) f0 f1 f2 f3) (hn : f3 = 0 ∨ f0 * f3 < f2 * f1) : ∃ r, ch z c r = some x ∧ f0 * mB z c r = mA z c r * f1 := by
  have hA := h.lead hn
  obtain ⟨r, g1, g2⟩ := lead_row (c := c) (x := x) h.1.1 (by have := h.1; omega) h1 h2 ⟨hx, hx2, ht, hA⟩
  obtain ⟨i1, i2, i3, i4, i5, i6⟩ := ch_lead g1
  have := h.frm i2 i1 i6
  exact ⟨r, g1, by omega⟩
theorem wi_none {z : Zf} {c x r : Nat} {f0 f1 f2 f3 : Int} (h : WI z x (lo c) (lo c + sz c) f0 f1 f2 f3) (hn : ¬ (f3 = 0 ∨ f0 * f3 < f2 * f1)) : ch z c r ≠ some x := fun e => by
  obtain ⟨i1, i2, i3, i4, i5, i6⟩ := ch_lead e
  exact h.no hn i2 i1 i6
