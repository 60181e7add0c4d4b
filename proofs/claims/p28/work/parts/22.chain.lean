/-! the winners of one contest as time passes: each next one gets ahead of the last; who wins at a moment -/
theorem pos_sub (z : Zf) (a b : Int) (i j : Nat) : pos z a b i - pos z a b j = (vv z i - vv z j) * b + (sp z i - sp z j) * a := by
  unfold pos
  rw [Int.sub_mul, Int.sub_mul]
  omega
theorem ah_iff {z : Zf} {a b : Int} {i j : Nat} : ah z a b i j = true ↔ (0 < (vv z i - vv z j) * b + (sp z i - sp z j) * a ∨ ((vv z i - vv z j) * b + (sp z i - sp z j) * a = 0 ∧ (sp z j < sp z i ∨ (sp z i = sp z j ∧ (if up z then i < j else j < i))))) := by
  unfold ah
  rw [lx_iff, ← pos_sub]
  constructor
  · intro h
    rcases h with h | ⟨h1, h2⟩
    · exact Or.inl (by omega)
    · exact Or.inr ⟨by omega, h2⟩
  · intro h
    rcases h with h | ⟨h1, h2⟩
    · exact Or.inl (by omega)
    · exact Or.inr ⟨by omega, h2⟩
/-- w wins the contest c at the moment a by b from now -/
def Lead (z : Zf) (c : Nat) (a b : Int) (w : Nat) : Prop := isB (tk z) (ah z a b) (lo c) (lo c + sz c) (some w)
theorem lead_win {z : Zf} {c w : Nat} {a b : Int} : Lead z c a b w ↔ win z a b c = some w := by
  constructor
  · intro h
    exact (isB_one (fun i j _ _ q => lx_asym q) h (win_B z a b c)).symm
  · intro h
    have := win_B z a b c
    rw [h] at this
    exact this
/-- who is not faster stays behind -/
theorem behind_stays {D e a b x y : Int} (hb : 0 < b) (hy : 0 < y) (he : 0 ≤ e) (h : 0 ≤ D * b + e * a) (hxy : a * y ≤ x * b) : 0 ≤ D * y + e * x := by
  refine nonneg_of_mul (c := b) ?_ hb
  have h1 : 0 ≤ (D * b + e * a) * y := Int.mul_nonneg h (by omega)
  have h2 : e * (a * y) ≤ e * (x * b) := Int.mul_le_mul_of_nonneg_left hxy he
  have e1 : (D * b + e * a) * y = D * y * b + e * (a * y) := by
    rw [Int.add_mul, Int.mul_assoc D b y, Int.mul_comm b y, ← Int.mul_assoc, Int.mul_assoc e a y]
  have e2 : (D * y + e * x) * b = D * y * b + e * (x * b) := by
    rw [Int.add_mul, Int.mul_assoc e x b]
  omega
theorem lead_next {z : Zf} {c w k : Nat} {a b : Int} (hb : 0 < b) (hL : Lead z c a b w) (hn : nxt z c w = some k) :
    0 < sp z k - sp z w ∧ a * (sp z k - sp z w) < (vv z w - vv z k) * b ∧ Lead z c (vv z w - vv z k) (sp z k - sp z w) k := by
  have hB := nxt_B z c w
  rw [hn] at hB
  obtain ⟨k1, k2, k3, k4⟩ := hB
  obtain ⟨kt, ks⟩ := fst_iff.mp k3
  obtain ⟨w1, w2, w3, w4⟩ := hL
  have hkw : k ≠ w := fun h => by rw [h] at ks; omega
  have hbp : 0 < sp z k - sp z w := by omega
  have hwk := ah_iff.mp (w4 k k1 k2 kt hkw)
  have hlt : a * (sp z k - sp z w) < (vv z w - vv z k) * b := by
    have e : (sp z w - sp z k) * a = -(a * (sp z k - sp z w)) := by
      rw [show sp z w - sp z k = -(sp z k - sp z w) by omega, Int.neg_mul, Int.mul_comm]
    rw [e] at hwk
    rcases hwk with h | ⟨h1, h2 | ⟨h2, -⟩⟩
    · omega
    · omega
    · omega
  refine ⟨hbp, hlt, k1, k2, kt, fun j j1 j2 j3 j4 => ?_⟩
  rw [ah_iff]
  -- k stands where w stands, then
  have hsame : (vv z k - vv z j) * (sp z k - sp z w) + (sp z k - sp z j) * (vv z w - vv z k) = (vv z w - vv z j) * (sp z k - sp z w) + (sp z w - sp z j) * (vv z w - vv z k) := by
    have e1 : vv z k - vv z j = (vv z w - vv z j) - (vv z w - vv z k) := by omega
    have e2 : sp z k - sp z j = (sp z w - sp z j) + (sp z k - sp z w) := by omega
    rw [e1, e2, Int.sub_mul, Int.add_mul, Int.mul_comm (sp z k - sp z w) (vv z w - vv z k)]
    omega
  rw [hsame]
  by_cases hs : sp z w < sp z j
  · have hf : fst z w j = true := fst_iff.mpr ⟨j3, hs⟩
    have hk := snr_iff.mp (k4 j j1 j2 hf j4)
    have e : (sp z w - sp z j) * (vv z w - vv z k) = -((vv z w - vv z k) * (sp z j - sp z w)) := by
      rw [show sp z w - sp z j = -(sp z j - sp z w) by omega, Int.neg_mul, Int.mul_comm]
    rw [e]
    rcases hk with h | ⟨h1, h2⟩
    · left; omega
    · right; exact ⟨by omega, h2⟩
  · have h0 : 0 ≤ (vv z w - vv z j) * (sp z k - sp z w) + (sp z w - sp z j) * (vv z w - vv z k) := by
      refine behind_stays hb hbp (by omega) ?_ (by omega : a * (sp z k - sp z w) ≤ (vv z w - vv z k) * b)
      by_cases hj : j = w
      · subst hj; simp
      · have := ah_iff.mp (w4 j j1 j2 j3 hj)
        rcases this with h | h <;> omega
    rcases Int.lt_or_eq_of_le h0 with h | h
    · exact Or.inl h
    · exact Or.inr ⟨h.symm, Or.inl (by omega)⟩
theorem lead_hold {z : Zf} {c w : Nat} {a b x y : Int} (hb : 0 < b) (hy : 0 < y) (hL : Lead z c a b w) (hxy : a * y ≤ x * b)
    (hn : ∀ k, nxt z c w = some k → x * (sp z k - sp z w) < (vv z w - vv z k) * y) : Lead z c x y w := by
  obtain ⟨w1, w2, w3, w4⟩ := hL
  refine ⟨w1, w2, w3, fun j j1 j2 j3 j4 => ?_⟩
  have hwj := ah_iff.mp (w4 j j1 j2 j3 j4)
  rw [ah_iff]
  by_cases hs : sp z w < sp z j
  · have hf : fst z w j = true := fst_iff.mpr ⟨j3, hs⟩
    have hB := nxt_B z c w
    have e : (sp z w - sp z j) * x = -(x * (sp z j - sp z w)) := by
      rw [show sp z w - sp z j = -(sp z j - sp z w) by omega, Int.neg_mul, Int.mul_comm]
    rw [e]
    left
    cases hk : nxt z c w with
    | none =>
      rw [hk] at hB
      have := hB j j1 j2
      rw [hf] at this; cases this
    | some k =>
      rw [hk] at hB
      obtain ⟨k1, k2, k3, k4⟩ := hB
      have ks := (fst_iff.mp k3).2
      have h1 := hn k hk
      by_cases hjk : j = k
      · subst hjk; omega
      · have h2 := snr_iff.mp (k4 j j1 j2 hf hjk)
        have F := @fr_tr x y (vv z w - vv z k) (sp z k - sp z w) (vv z w - vv z j) (sp z j - sp z w) hy (by omega) (by omega) (by omega) (by rcases h2 with h | h <;> omega)
        have := F.2 (Or.inl h1)
        omega
  · have h0 : 0 ≤ (vv z w - vv z j) * y + (sp z w - sp z j) * x := by
      refine behind_stays hb hy (by omega) ?_ hxy
      rcases hwj with h | h <;> omega
    rcases Int.lt_or_eq_of_le h0 with h | h
    · exact Or.inl h
    · refine Or.inr ⟨h.symm, ?_⟩
      by_cases he : sp z j < sp z w
      · exact Or.inl he
      · have e : sp z w - sp z j = 0 := by omega
        rw [e, Int.zero_mul, Int.add_zero] at h hwj
        have hD : vv z w - vv z j = 0 := zero_of_mul h.symm hy
        rw [hD, Int.zero_mul] at hwj
        rcases hwj with q | q
        · omega
        · exact q.2
/-- the winners one behind another -/
def ch (z : Zf) (c : Nat) : Nat → Option Nat
  | 0 => win z 0 1 c
  | r + 1 => (ch z c r).bind (nxt z c)
/-- from when on: a by b from now -/
def mA (z : Zf) (c : Nat) : Nat → Int
  | 0 => 0
  | r + 1 => match ch z c r, ch z c (r + 1) with
    | some w, some k => vv z w - vv z k
    | _, _ => 0
def mB (z : Zf) (c : Nat) : Nat → Int
  | 0 => 1
  | r + 1 => match ch z c r, ch z c (r + 1) with
    | some w, some k => sp z k - sp z w
    | _, _ => 1
theorem ch_succ {z : Zf} {c r k : Nat} (h : ch z c (r + 1) = some k) : ∃ w, ch z c r = some w ∧ nxt z c w = some k ∧ mA z c (r + 1) = vv z w - vv z k ∧ mB z c (r + 1) = sp z k - sp z w := by
  have h' := h
  rw [ch] at h'
  cases hw : ch z c r with
  | none => rw [hw] at h'; cases h'
  | some w =>
    rw [hw] at h'
    exact ⟨w, rfl, h', by rw [mA, hw, h], by rw [mB, hw, h]⟩
theorem ch_lead {z : Zf} {c : Nat} : ∀ {r w : Nat}, ch z c r = some w → 0 < mB z c r ∧ 0 ≤ mA z c r ∧ Lead z c (mA z c r) (mB z c r) w := by
  intro r
  induction r with
  | zero =>
    intro w h
    exact ⟨(by show (0 : Int) < 1; decide), (by show (0 : Int) ≤ 0; decide), lead_win.mpr h⟩
  | succ r ih =>
    intro k h
    obtain ⟨w, h1, h2, h3, h4⟩ := ch_succ h
    obtain ⟨i1, i2, i3⟩ := ih h1
    obtain ⟨n1, n2, n3⟩ := lead_next i1 i3 h2
    rw [h3, h4]
    refine ⟨n1, ?_, n3⟩
    have : 0 ≤ mA z c r * (sp z k - sp z w) := Int.mul_nonneg i2 (by omega)
    exact nonneg_of_mul (by omega : 0 ≤ (vv z w - vv z k) * mB z c r) i1
theorem ch_mono {z : Zf} {c r k : Nat} (h : ch z c (r + 1) = some k) : mA z c r * mB z c (r + 1) < mA z c (r + 1) * mB z c r ∧ ∃ w, ch z c r = some w ∧ sp z w < sp z k := by
  obtain ⟨w, h1, h2, h3, h4⟩ := ch_succ h
  obtain ⟨i1, i2, i3⟩ := ch_lead h1
  obtain ⟨n1, n2, n3⟩ := lead_next i1 i3 h2
  exact ⟨by rw [h3, h4]; exact n2, w, h1, by omega⟩
/-- a turn is later than now -/
theorem ch_later {z : Zf} {c r k : Nat} (h : ch z c (r + 1) = some k) : 0 < mA z c (r + 1) := by
  obtain ⟨h1, w, hw, -⟩ := ch_mono h
  obtain ⟨i1, i2, -⟩ := ch_lead hw
  obtain ⟨j1, -, -⟩ := ch_lead h
  have : 0 ≤ mA z c r * mB z c (r + 1) := Int.mul_nonneg i2 (by omega)
  exact pos_of_mul (by omega : 0 < mA z c (r + 1) * mB z c r) i1
theorem ch_prev {z : Zf} {c : Nat} : ∀ {n r k : Nat}, ch z c n = some k → r ≤ n → ∃ w, ch z c r = some w := by
  intro n
  induction n with
  | zero => intro r k h hr; exact ⟨k, by rw [show r = 0 by omega]; exact h⟩
  | succ n ih =>
    intro r k h hr
    by_cases e : r = n + 1
    · exact ⟨k, by rw [e]; exact h⟩
    · obtain ⟨w, hw, -⟩ := ch_succ h
      exact ih hw (by omega)
theorem ch_faster {z : Zf} {c : Nat} : ∀ {n r k w : Nat}, ch z c n = some k → ch z c r = some w → r < n → sp z w < sp z k := by
  intro n
  induction n with
  | zero => intro r k w _ _ hr; omega
  | succ n ih =>
    intro r k w h hw hr
    obtain ⟨-, v, hv, hs⟩ := ch_mono h
    by_cases e : r = n
    · subst e; rw [hw] at hv; cases hv; exact hs
    · have := ih hv hw (by omega); omega
/-- a moment by which r's is over, and every earlier one's -/
theorem ch_by {z : Zf} {c : Nat} {x : Int} : ∀ {n r k : Nat}, ch z c n = some k → mA z c n ≤ x * mB z c n → r ≤ n → mA z c r ≤ x * mB z c r := by
  intro n
  induction n with
  | zero => intro r k _ h hr; rw [show r = 0 by omega]; exact h
  | succ n ih =>
    intro r k h hx hr
    by_cases e : r = n + 1
    · rw [e]; exact hx
    · obtain ⟨hm, w, hw, -⟩ := ch_mono h
      obtain ⟨i1, -, -⟩ := ch_lead hw
      obtain ⟨j1, -, -⟩ := ch_lead h
      refine ih hw ?_ (by omega)
      have F := @fr_tr (mA z c n) (mB z c n) (mA z c (n + 1)) (mB z c (n + 1)) x 1 i1 j1 (by decide) (by omega) (by omega)
      have := F.1
      omega
theorem ch_slot {z : Zf} {c r w : Nat} (h : ch z c r = some w) : lo c ≤ w ∧ w < lo c + sz c ∧ tk z w = true := by
  obtain ⟨-, -, h1, h2, h3, -⟩ := ch_lead h
  exact ⟨h1, h2, h3⟩
/-- a contest of n slots has at most n winners one behind another -/
theorem ch_len {z : Zf} {c n k : Nat} (h1 : 1 ≤ c) (h2 : c ≤ 15) (h : ch z c n = some k) : n < 16 := by
  have hf : ∀ i, i ≤ n → ∃ w, ch z c i = some w := fun i hi => ch_prev h hi
  have hb := fb_holes 16 (n + 1) (fun i => ((ch z c i).getD 0)) (fun i hi => by
    obtain ⟨w, hw⟩ := hf i (by omega)
    have := ch_slot hw
    have := (sz_lo h1 h2).1
    show (ch z c i).getD 0 < 16
    rw [hw]; simp only [Option.getD_some]; omega) (fun i j hij hj => by
    obtain ⟨w, hw⟩ := hf i (by omega)
    obtain ⟨v, hv⟩ := hf j (by omega)
    have := ch_faster hv hw hij
    show (ch z c i).getD 0 ≠ (ch z c j).getD 0
    rw [hw, hv]; simp only [Option.getD_some]
    intro e; rw [e] at this; omega)
  omega
/-- who wins x later, by the turns up to then -/
theorem ch_at {z : Zf} {c r w : Nat} {x : Int} (hx : 0 ≤ x) (h : ch z c r = some w) (hb : mA z c r ≤ x * mB z c r) (ha : ∀ k, ch z c (r + 1) = some k → x * mB z c (r + 1) < mA z c (r + 1)) : win z x 1 c = some w := by
  obtain ⟨i1, i2, i3⟩ := ch_lead h
  refine lead_win.mp (lead_hold i1 (by decide) i3 (by omega) (fun k hk => ?_))
  have h1 : ch z c (r + 1) = some k := by rw [ch, h]; exact hk
  obtain ⟨w', g1, g2, g3, g4⟩ := ch_succ h1
  rw [h] at g1; cases g1
  have := ha k h1
  rw [g3, g4] at this
  omega
theorem win_none {z : Zf} {a b x y : Int} {c : Nat} (h : win z a b c = none) : win z x y c = none := by
  have h1 := win_B z a b c
  rw [h] at h1
  exact isB_one (fun i j _ _ q => lx_asym q) (win_B z x y c) (show isB (tk z) (ah z x y) (lo c) (lo c + sz c) none from h1)
