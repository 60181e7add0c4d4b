/-! the race, told by numbers: who is ahead, who wins, who is next; facts about folds and crossings -/
abbrev Zf : Type := Nat → Int32
def tk (z : Zf) (k : Nat) : Bool := decide (z (20 + 4 * k) = 1)
def vv (z : Zf) (k : Nat) : Int := (z (20 + 4 * k + 1)).toInt
def sp (z : Zf) (k : Nat) : Int := (z (20 + 4 * k + 2)).toInt
def enc : Option Nat → Int32
  | none => -1
  | some k => nI k
/-- the greater by p, then by s, then by the number -/
def lx (p s : Nat → Int) (up : Bool) (i j : Nat) : Bool :=
  if p i ≠ p j then decide (p j < p i) else if s i ≠ s j then decide (s j < s i) else if up then decide (i < j) else decide (j < i)
theorem lx_irr (p s : Nat → Int) (up : Bool) (i : Nat) : lx p s up i i = false := by
  unfold lx; simp
theorem lx_tot {p s : Nat → Int} {up : Bool} {i j : Nat} (h : i ≠ j) (hf : lx p s up i j = false) : lx p s up j i = true := by
  unfold lx at *
  by_cases h1 : p i = p j
  · by_cases h2 : s i = s j
    · cases up <;> simp [h1, h2] at hf ⊢ <;> omega
    · simp [h1, h2, Ne.symm h2] at hf ⊢; omega
  · simp [h1, Ne.symm h1] at hf ⊢; omega
theorem lx_asym {p s : Nat → Int} {up : Bool} {i j : Nat} (hf : lx p s up i j = true) : lx p s up j i = false := by
  unfold lx at *
  by_cases h1 : p i = p j
  · by_cases h2 : s i = s j
    · cases up <;> simp [h1, h2] at hf ⊢ <;> omega
    · simp [h1, h2, Ne.symm h2] at hf ⊢; omega
  · simp [h1, Ne.symm h1] at hf ⊢; omega
theorem lx_iff {p s : Nat → Int} {up : Bool} {i j : Nat} : lx p s up i j = true ↔ (p j < p i ∨ (p i = p j ∧ (s j < s i ∨ (s i = s j ∧ (if up then i < j else j < i))))) := by
  unfold lx
  by_cases h1 : p i = p j
  · by_cases h2 : s i = s j
    · cases up <;> simp [h1, h2]
    · simp [h1, h2]
  · simp [h1]
theorem lx_tr {p s : Nat → Int} {up : Bool} {i j k : Nat} (h1 : lx p s up i j = true) (h2 : lx p s up j k = true) : lx p s up i k = true := by
  rw [lx_iff] at *
  cases up <;> simp at * <;> omega
/-- a fold that keeps the best so far: m places from k on -/
def bet (g : Nat → Nat → Bool) (w : Option Nat) (k : Nat) : Bool := match w with
  | none => true
  | some j => g k j
def fo (t : Nat → Bool) (g : Nat → Nat → Bool) : Nat → Nat → Option Nat → Option Nat
  | 0, _, w => w
  | m + 1, k, w => fo t g m (k + 1) (if t k && bet g w k then some k else w)
/-- w is the best of the places from lo to below hi -/
def isB (t : Nat → Bool) (g : Nat → Nat → Bool) (lo hi : Nat) : Option Nat → Prop
  | none => ∀ j, lo ≤ j → j < hi → t j = false
  | some w => lo ≤ w ∧ w < hi ∧ t w = true ∧ ∀ j, lo ≤ j → j < hi → t j = true → j ≠ w → g w j = true
theorem fo_isB {t : Nat → Bool} {g : Nat → Nat → Bool} {lo : Nat} (tot : ∀ i j, t i = true → t j = true → i ≠ j → g i j = false → g j i = true) (tr : ∀ i j k, t i = true → t j = true → t k = true → g i j = true → g j k = true → g i k = true) :
    ∀ (m k : Nat) (w : Option Nat), lo ≤ k → isB t g lo k w → isB t g lo (k + m) (fo t g m k w) := by
  intro m
  induction m with
  | zero => intro k w _ h; exact h
  | succ m ih =>
    intro k w hk h
    rw [fo, show k + (m + 1) = (k + 1) + m by omega]
    apply ih (k + 1) _ (by omega)
    cases w with
    | none =>
      by_cases ht : t k = true
      · simp only [ht, bet, Bool.and_self, if_true]
        refine ⟨hk, by omega, ht, fun j h1 h2 h3 h4 => ?_⟩
        have := h j h1 (by omega)
        rw [h3] at this; cases this
      · simp only [ht, Bool.false_and]
        intro j h1 h2
        rcases Nat.lt_or_ge j k with q | q
        · exact h j h1 q
        · have : j = k := by omega
          subst this; simpa using ht
    | some w =>
      obtain ⟨a1, a2, a3, a4⟩ := h
      by_cases ht : t k = true
      · by_cases hg : g k w = true
        · simp only [ht, bet, hg, Bool.and_self, if_true]
          refine ⟨hk, by omega, ht, fun j h1 h2 h3 h4 => ?_⟩
          by_cases hw : j = w
          · subst hw; exact hg
          · exact tr k w j ht a3 h3 hg (a4 j h1 (by omega) h3 hw)
        · simp only [ht, bet, hg]
          refine ⟨a1, by omega, a3, fun j h1 h2 h3 h4 => ?_⟩
          rcases Nat.lt_or_ge j k with q | q
          · exact a4 j h1 q h3 h4
          · have : j = k := by omega
            subst this
            exact tot j w h3 a3 h4 (by simpa using hg)
      · simp only [ht, Bool.false_and]
        refine ⟨a1, by omega, a3, fun j h1 h2 h3 h4 => ?_⟩
        rcases Nat.lt_or_ge j k with q | q
        · exact a4 j h1 q h3 h4
        · have : j = k := by omega
          subst this; exact absurd h3 ht
theorem fo_best {t : Nat → Bool} {g : Nat → Nat → Bool} (tot : ∀ i j, t i = true → t j = true → i ≠ j → g i j = false → g j i = true) (tr : ∀ i j k, t i = true → t j = true → t k = true → g i j = true → g j k = true → g i k = true) (m lo : Nat) : isB t g lo (lo + m) (fo t g m lo none) :=
  fo_isB tot tr m lo none (Nat.le_refl _) (fun j h1 h2 => by omega)
theorem fo_cong {t t' : Nat → Bool} {g g' : Nat → Nat → Bool} {lo hi : Nat} (ht : ∀ k, lo ≤ k → k < hi → t k = t' k) (hg : ∀ i j, lo ≤ i → i < hi → lo ≤ j → j < hi → t i = true → t j = true → g i j = g' i j) :
    ∀ (m k : Nat) (w : Option Nat), lo ≤ k → k + m ≤ hi → (∀ j, w = some j → lo ≤ j ∧ j < hi ∧ t j = true) → fo t g m k w = fo t' g' m k w := by
  intro m
  induction m with
  | zero => intro k w _ _ _; rfl
  | succ m ih =>
    intro k w h1 h2 hw
    rw [fo, fo, ← ht k h1 (by omega)]
    have e : (t k && bet g w k) = (t k && bet g' w k) := by
      cases hk : t k with
      | false => rfl
      | true =>
        cases w with
        | none => rfl
        | some j =>
          obtain ⟨a, b, c⟩ := hw j rfl
          simp only [Bool.true_and, bet]
          exact hg k j h1 (by omega) a b hk c
    rw [← e]
    apply ih (k + 1) _ (by omega) (by omega)
    intro j hj
    by_cases hc : (t k && bet g w k) = true
    · rw [if_pos hc] at hj
      cases hj
      refine ⟨h1, by omega, ?_⟩
      cases hk : t k with
      | false => rw [hk] at hc; cases hc
      | true => rfl
    · rw [if_neg hc] at hj
      exact hw j hj
/-- only one best -/
theorem isB_one {t : Nat → Bool} {g : Nat → Nat → Bool} {lo hi : Nat} {a b : Option Nat} (as : ∀ i j, t i = true → t j = true → g i j = true → g j i = false) (ha : isB t g lo hi a) (hb : isB t g lo hi b) : a = b := by
  cases a with
  | none =>
    cases b with
    | none => rfl
    | some y => have := ha y hb.1 hb.2.1; rw [hb.2.2.1] at this; cases this
  | some x =>
    cases b with
    | none => have := hb x ha.1 ha.2.1; rw [ha.2.2.1] at this; cases this
    | some y =>
      by_cases h : x = y
      · rw [h]
      · have h1 := ha.2.2.2 y hb.1 hb.2.1 hb.2.2.1 (Ne.symm h)
        have h2 := hb.2.2.2 x ha.1 ha.2.1 ha.2.2.1 h
        rw [as x y ha.2.2.1 hb.2.2.1 h1] at h2; cases h2
/-- where one stands at the moment a by b from now, times b -/
def pos (z : Zf) (a b : Int) (k : Nat) : Int := vv z k * b + sp z k * a
def up (z : Zf) : Bool := decide (z 1 = 0)
/-- i is ahead of j, a by b from now -/
def ah (z : Zf) (a b : Int) : Nat → Nat → Bool := lx (pos z a b) (sp z) (up z)
/-- of those that are faster than w: k gets ahead of it before q does -/
def snr (z : Zf) (w k q : Nat) : Bool :=
  let L := (vv z w - vv z k) * (sp z q - sp z w) - (vv z w - vv z q) * (sp z k - sp z w)
  if L ≠ 0 then decide (L < 0) else if sp z k ≠ sp z q then decide (sp z q < sp z k) else if up z then decide (k < q) else decide (q < k)
def fst (z : Zf) (w k : Nat) : Bool := tk z k && decide (sp z w < sp z k)
def sz (c : Nat) : Nat := if c = 1 then 16 else if c < 4 then 8 else if c < 8 then 4 else 2
def lo (c : Nat) : Nat := (c - 16 / sz c) * sz c
def win (z : Zf) (a b : Int) (c : Nat) : Option Nat := fo (tk z) (ah z a b) (sz c) (lo c) none
def nxt (z : Zf) (c w : Nat) : Option Nat := fo (fst z w) (snr z w) (sz c) (lo c) none
theorem sz_lo {c : Nat} (h1 : 1 ≤ c) (h2 : c ≤ 15) : lo c + sz c ≤ 16 ∧ 2 ≤ sz c := by
  have : ∀ c, c < 16 → 1 ≤ c → lo c + sz c ≤ 16 ∧ 2 ≤ sz c := by decide
  exact this c (by omega) h1
theorem win_B (z : Zf) (a b : Int) (c : Nat) : isB (tk z) (ah z a b) (lo c) (lo c + sz c) (win z a b c) :=
  fo_best (fun i j _ _ h q => lx_tot h q) (fun i j k _ _ _ p q => lx_tr p q) _ _
/-- products and signs -/
theorem mul_lt_l {a b c : Int} (h : a < b) (hc : 0 < c) : a * c < b * c := Int.mul_lt_mul_of_pos_right h hc
theorem mul_le_l {a b c : Int} (h : a ≤ b) (hc : 0 ≤ c) : a * c ≤ b * c := Int.mul_le_mul_of_nonneg_right h hc
theorem pos_of_mul {a c : Int} (h : 0 < a * c) (hc : 0 < c) : 0 < a := by
  rcases Int.lt_or_le 0 a with q | q
  · exact q
  · have : a * c ≤ 0 * c := mul_le_l q (by omega)
    omega
theorem nonneg_of_mul {a c : Int} (h : 0 ≤ a * c) (hc : 0 < c) : 0 ≤ a := by
  rcases Int.lt_or_le a 0 with q | q
  · have : a * c < 0 * c := mul_lt_l q hc
    omega
  · exact q
theorem zero_of_mul {a c : Int} (h : a * c = 0) (hc : 0 < c) : a = 0 := by
  rcases Int.mul_eq_zero.mp h with q | q
  · exact q
  · omega
/-- fractions: a1 by b1 before a2 by b2, before a3 by b3 -/
theorem fr_tr {a1 b1 a2 b2 a3 b3 : Int} (h1 : 0 < b1) (h2 : 0 < b2) (h3 : 0 < b3) (p : a1 * b2 ≤ a2 * b1) (q : a2 * b3 ≤ a3 * b2) : a1 * b3 ≤ a3 * b1 ∧ ((a1 * b2 < a2 * b1 ∨ a2 * b3 < a3 * b2) → a1 * b3 < a3 * b1) := by
  have e1 : a1 * b2 * b3 = (a1 * b3) * b2 := by rw [Int.mul_assoc, Int.mul_comm b2 b3, ← Int.mul_assoc]
  have e2 : a2 * b1 * b3 = a2 * b3 * b1 := by rw [Int.mul_assoc, Int.mul_comm b1 b3, ← Int.mul_assoc]
  have e3 : a3 * b2 * b1 = (a3 * b1) * b2 := by rw [Int.mul_assoc, Int.mul_comm b2 b1, ← Int.mul_assoc]
  have m1 : a1 * b2 * b3 ≤ a2 * b1 * b3 := mul_le_l p (by omega)
  have m2 : a2 * b3 * b1 ≤ a3 * b2 * b1 := mul_le_l q (by omega)
  refine ⟨?_, fun h => ?_⟩
  · rcases Int.lt_or_le (a3 * b1) (a1 * b3) with r | r
    · have := mul_lt_l r h2
      omega
    · exact r
  · have s : (a1 * b3) * b2 < (a3 * b1) * b2 := by
      rcases h with h | h
      · have := mul_lt_l h h3
        omega
      · have := mul_lt_l h h1
        omega
    rcases Int.lt_or_le (a1 * b3) (a3 * b1) with r | r
    · exact r
    · have := mul_le_l r (c := b2) (by omega)
      omega
theorem snr_iff {z : Zf} {w k q : Nat} : snr z w k q = true ↔ ((vv z w - vv z k) * (sp z q - sp z w) < (vv z w - vv z q) * (sp z k - sp z w) ∨ ((vv z w - vv z k) * (sp z q - sp z w) = (vv z w - vv z q) * (sp z k - sp z w) ∧ (sp z q < sp z k ∨ (sp z k = sp z q ∧ (if up z then k < q else q < k))))) := by
  unfold snr
  generalize (vv z w - vv z k) * (sp z q - sp z w) = x
  generalize (vv z w - vv z q) * (sp z k - sp z w) = y
  by_cases h1 : x = y
  · by_cases h2 : sp z k = sp z q
    · cases up z <;> simp [h1, h2]
    · simp [h1, h2]
  · have : x - y ≠ 0 := by omega
    simp [h1, this]; omega
theorem fst_iff {z : Zf} {w k : Nat} : fst z w k = true ↔ tk z k = true ∧ sp z w < sp z k := by simp [fst]
theorem lex_tot {x y s t : Int} {u : Bool} {k q : Nat} (h : k ≠ q) (hf : ¬ (x < y ∨ (x = y ∧ (t < s ∨ (s = t ∧ (if u = true then k < q else q < k)))))) : (y < x ∨ (y = x ∧ (s < t ∨ (t = s ∧ (if u = true then q < k else k < q))))) := by
  cases u
  · simp only [Bool.false_eq_true, if_false] at hf ⊢; omega
  · simp only [if_true] at hf ⊢; omega
theorem lex_asym {x y s t : Int} {u : Bool} {k q : Nat} (hf : (x < y ∨ (x = y ∧ (t < s ∨ (s = t ∧ (if u = true then k < q else q < k)))))) (hb : (y < x ∨ (y = x ∧ (s < t ∨ (t = s ∧ (if u = true then q < k else k < q)))))) : False := by
  cases u
  · simp only [Bool.false_eq_true, if_false] at hf hb; omega
  · simp only [if_true] at hf hb; omega
theorem lex_tie {s t v : Int} {u : Bool} {i j k : Nat} (hf : (t < s ∨ (s = t ∧ (if u = true then i < j else j < i)))) (hb : (v < t ∨ (t = v ∧ (if u = true then j < k else k < j)))) : (v < s ∨ (s = v ∧ (if u = true then i < k else k < i))) := by
  cases u
  · simp only [Bool.false_eq_true, if_false] at hf hb ⊢; omega
  · simp only [if_true] at hf hb ⊢; omega
theorem snr_tot {z : Zf} {w k q : Nat} (h : k ≠ q) (hf : snr z w k q = false) : snr z w q k = true := by
  have h1 : ¬ snr z w k q = true := by rw [hf]; decide
  rw [snr_iff] at h1 ⊢
  exact lex_tot h h1
theorem snr_asym {z : Zf} {w k q : Nat} (hf : snr z w k q = true) : snr z w q k = false := by
  rcases hb : snr z w q k with _ | _
  · rfl
  · rw [snr_iff] at hf hb
    exact (lex_asym hf hb).elim
theorem snr_tr {z : Zf} {w i j k : Nat} (ti : fst z w i = true) (tj : fst z w j = true) (tk' : fst z w k = true) (h1 : snr z w i j = true) (h2 : snr z w j k = true) : snr z w i k = true := by
  rw [fst_iff] at ti tj tk'
  rw [snr_iff] at *
  have F := @fr_tr (vv z w - vv z i) (sp z i - sp z w) (vv z w - vv z j) (sp z j - sp z w) (vv z w - vv z k) (sp z k - sp z w) (by omega) (by omega) (by omega) (by omega) (by omega)
  obtain ⟨F1, F2⟩ := F
  generalize (vv z w - vv z i) * (sp z k - sp z w) = x at *
  generalize (vv z w - vv z k) * (sp z i - sp z w) = y at *
  generalize (vv z w - vv z i) * (sp z j - sp z w) = x1 at *
  generalize (vv z w - vv z j) * (sp z i - sp z w) = y1 at *
  generalize (vv z w - vv z j) * (sp z k - sp z w) = x2 at *
  generalize (vv z w - vv z k) * (sp z j - sp z w) = y2 at *
  by_cases hs : x1 < y1 ∨ x2 < y2
  · exact Or.inl (F2 hs)
  · by_cases hxy : x < y
    · exact Or.inl hxy
    · refine Or.inr ⟨by omega, ?_⟩
      rcases h1 with h1 | ⟨-, h1⟩
      · exact absurd (Or.inl h1) hs
      · rcases h2 with h2 | ⟨-, h2⟩
        · exact absurd (Or.inr h2) hs
        · exact lex_tie h1 h2
theorem nxt_B (z : Zf) (c w : Nat) : isB (fst z w) (snr z w) (lo c) (lo c + sz c) (nxt z c w) :=
  fo_best (fun i j _ _ h q => snr_tot h q) (fun i j k a b c p q => snr_tr a b c p q) _ _
