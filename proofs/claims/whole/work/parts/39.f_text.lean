/-! the buffer: how it is read, both sides -/
def dig (c : Nat) : Bool := decide (48 ≤ c) && decide (c ≤ 57)
def pa (q c : Nat) : Nat :=
  if q = 0 then (if c = 45 then 1 else if c = 48 then 5 else if dig c then 2 else 9)
  else if q = 1 then (if c = 48 then 5 else if dig c then 2 else 9)
  else if q ≤ 4 then (if dig c then q + 1 else if c = 43 ∨ c = 45 then 6 else 9)
  else if q = 5 then (if c = 43 ∨ c = 45 then 6 else 9)
  else if q = 6 then (if c = 48 then 8 else if dig c then 7 else 9)
  else if q = 7 then (if dig c then 8 else if c = 59 then 0 else 9)
  else if q = 8 then (if c = 59 then 0 else 9)
  else 9
def st (c : Nat → Nat) : Nat → Nat
  | 0 => 0
  | i + 1 => pa (st c i) (c i)
theorem s_pa : ∀ q, q < 10 → ∀ c, c < 128 → F_X2_placeAfter (nI q) (nI c) = some (nI (pa q c)) := by decide +kernel
theorem pa_lt (q c : Nat) : pa q c < 10 := by
  unfold pa
  repeat' split
  all_goals omega
theorem st_lt (c : Nat → Nat) (i : Nat) : st c i < 10 := by
  cases i with
  | zero => show 0 < 10; omega
  | succ i => exact pa_lt _ _
theorem st_9 {c : Nat → Nat} {i : Nat} (h : st c i = 9) : ∀ n, st c (i + n) = 9 := by
  intro n
  induction n with
  | zero => exact h
  | succ n ih => show pa (st c (i + n)) _ = 9; rw [ih]; rfl
theorem st_n9 {c : Nat → Nat} {i p : Nat} (h : st c p ≠ 9) (hi : i ≤ p) : st c i ≠ 9 := fun e => h (by have := st_9 e (p - i); rw [show i + (p - i) = p by omega] at this; exact this)
theorem s_digit : ∀ c, c < 128 → F_X2_isDigit (nI c) = some (b2i (dig c)) := by decide +kernel
theorem s_sign : ∀ c, c < 128 → F_X2_isSign (nI c) = some (b2i (decide (c = 43 ∨ c = 45))) := by decide +kernel
/-- the buffer's codes: c, 0 from L on -/
def BufS (σ : Mem) (c : Nat → Nat) (L : Nat) : Prop := L ≤ 60 ∧ σ 4 1 = nI L ∧ (∀ i, i < L → σ 5 i = nI (c i)) ∧ (∀ i, c i < 128) ∧ ∀ i, L ≤ i → c i = 0
def BufM (τ : Mem × Int64) (c : Nat → Nat) (L : Nat) : Prop := L ≤ 60 ∧ τ.1 0 4 = nI L ∧ (∀ i, i < L → τ.1 3 i = nI (c i)) ∧ (∀ i, c i < 128) ∧ ∀ i, L ≤ i → c i = 0
theorem Tx.buf {σ : Mem} {τ : Mem × Int64} (h : Tx σ τ) : ∃ c L, BufS σ c L ∧ BufM τ c L := by
  obtain ⟨L, h1, h2, h3, h4⟩ := h
  have key : ∀ i, ∃ k, k < 128 ∧ (i < L → σ 5 i = nI k ∧ τ.1 3 i = nI k) ∧ (L ≤ i → k = 0) := fun i => by
    rcases Nat.lt_or_ge i L with q | q
    · obtain ⟨k, a, b, d, e⟩ := h4 i q
      exact ⟨k, by omega, fun _ => ⟨d, e⟩, fun w => by omega⟩
    · exact ⟨0, by omega, fun w => by omega, fun _ => rfl⟩
  refine ⟨fun i => (key i).choose, L, ⟨h1, h2, fun i hi => ((key i).choose_spec.2.1 hi).1, fun i => (key i).choose_spec.1, fun i hi => (key i).choose_spec.2.2 hi⟩, ⟨h1, h3, fun i hi => ((key i).choose_spec.2.1 hi).2, fun i => (key i).choose_spec.1, fun i hi => (key i).choose_spec.2.2 hi⟩⟩
section T39
variable {σ : Mem} {τ : Mem × Int64} {c : Nat → Nat} {L : Nat}
theorem s_code (h : BufS σ c L) {i : Nat} (hi : i ≤ 100) : F_X2_codeAt (nI i) σ = some (nI (c i)) := by
  obtain ⟨h1, h2, h3, h4, h5⟩ := h
  unfold F_X2_codeAt
  rw [if_neg (nI_pos (by omega)), h2]
  by_cases q : i < L
  · rw [if_neg (fun w => absurd ((nI_le_iff (by omega) (by omega)).mp w) (by omega)), if_neg (fun w : (60 : Int32) ≤ nI i => absurd ((nI_le_iff (a := 60) (by omega) (by omega)).mp w) (by omega)), if_pos (inb_nI (by omega) (by decide)), nI_clamp (by omega), h3 i q]
  · rw [if_pos ((nI_le_iff (by omega) (by omega)).mpr (by omega)), h5 i (by omega)]; rfl
/-- where the first error stands -/
def fe (c : Nat → Nat) (L : Nat) : Nat → Nat → Nat
  | 0, i => i
  | m + 1, i => if st c (i + 1) = 9 then i else fe c L m (i + 1)
theorem s_sound (h : BufS σ c L) : F_X2_soundLength σ = some (nI (fe c L L 0)) := by
  have h' := h
  obtain ⟨h1, h2, h3, h4, h5⟩ := h'
  have key : ∀ (m i fu : Nat), i + m = L → m < fu → L_X2_soundLength_4 σ fu (nI (st c i)) (nI i) = some (nI (fe c L m i)) := by
    intro m
    induction m with
    | zero =>
      intro i fu hi hf
      obtain ⟨f, rfl⟩ : ∃ f, fu = f + 1 := ⟨fu - 1, by omega⟩
      rw [L_X2_soundLength_4, h2, if_pos ((nI_le_iff (by omega) (by omega)).mpr (by omega)), show L = i by omega]; rfl
    | succ m ih =>
      intro i fu hi hf
      obtain ⟨f, rfl⟩ : ∃ f, fu = f + 1 := ⟨fu - 1, by omega⟩
      rw [L_X2_soundLength_4, h2, if_neg (fun w => absurd ((nI_le_iff (by omega) (by omega)).mp w) (by omega)), s_code h (by omega), Option.bind_some, s_pa _ (st_lt c i) _ (h4 i), Option.bind_some, fe]
      show (if ¬ nI (st c (i + 1)) = (9 : Int32) then L_X2_soundLength_4 σ f (nI (st c (i + 1))) (nI i + 1) else some (nI i)) = _
      have hl := st_lt c (i + 1)
      by_cases q : st c (i + 1) = 9
      · rw [if_neg (fun w => w (by rw [q]; rfl)), if_pos q]
      · rw [if_pos (show ¬ nI (st c (i + 1)) = (9 : Int32) from fun w => q ((nI_eq_iff (a := st c (i + 1)) (b := 9) (by omega) (by omega)).mp w)), if_neg q, show nI i + (1 : Int32) = nI (i + 1) from nI_1 i]
        exact ih (i + 1) f (by omega) (by omega)
  exact key L 0 FU (by omega) (by show L < 1000; omega)
theorem s_complete (h : BufS σ c L) : F_X2_isComplete σ = some (b2i (decide (st c L = 7 ∨ st c L = 8))) := by
  have h' := h
  obtain ⟨h1, h2, h3, h4, h5⟩ := h'
  have key : ∀ (m i fu : Nat), i + m = L → m < fu → L_X2_isComplete_4 σ fu (nI (st c i)) (nI i) = some (nI (st c L)) := by
    intro m
    induction m with
    | zero =>
      intro i fu hi hf
      obtain ⟨f, rfl⟩ : ∃ f, fu = f + 1 := ⟨fu - 1, by omega⟩
      rw [L_X2_isComplete_4, h2, if_pos ((nI_le_iff (by omega) (by omega)).mpr (by omega)), show L = i by omega]
    | succ m ih =>
      intro i fu hi hf
      obtain ⟨f, rfl⟩ : ∃ f, fu = f + 1 := ⟨fu - 1, by omega⟩
      rw [L_X2_isComplete_4, h2, if_neg (fun w => absurd ((nI_le_iff (by omega) (by omega)).mp w) (by omega)), s_code h (by omega), Option.bind_some, s_pa _ (st_lt c i) _ (h4 i), Option.bind_some, show nI i + (1 : Int32) = nI (i + 1) from nI_1 i]
      exact ih (i + 1) f (by omega) (by omega)
  unfold F_X2_isComplete
  have k := key L 0 FU (by omega) (by show L < 1000; omega)
  have k : L_X2_isComplete_4 σ FU 0 0 = some (nI (st c L)) := k
  rw [k, Option.bind_some]
  have hl := st_lt c L
  have : ∀ q, q < 10 → (if nI q = (7 : Int32) then some (1 : Int32) else (if ¬ nI q = (8 : Int32) then some (0 : Int32) else some (1 : Int32))) = some (b2i (decide (q = 7 ∨ q = 8))) := by decide +kernel
  exact this _ hl
/-! the reference: place and told move, cell 5 is written -/
def KeepT (τ τ' : Mem × Int64) : Prop := (∀ x, x ≠ 0 → x ≠ 5 → τ'.1 x = τ.1 x) ∧ (∀ k, k ≠ 14 → k ≠ 15 → τ'.1 0 k = τ.1 0 k) ∧ τ'.2 = τ.2
theorem KeepT.rf : KeepT τ τ := ⟨fun _ _ _ => rfl, fun _ _ _ => rfl, rfl⟩
theorem KeepT.tr {a b d : Mem × Int64} (h : KeepT a b) (g : KeepT b d) : KeepT a d := ⟨fun x h0 h5 => (g.1 x h0 h5).trans (h.1 x h0 h5), fun k h1 h2 => (g.2.1 k h1 h2).trans (h.2.1 k h1 h2), g.2.2.trans h.2.2⟩
theorem KeepT.buf {τ' : Mem × Int64} (h : KeepT τ τ') (b : BufM τ c L) : BufM τ' c L :=
  ⟨b.1, by rw [h.2.1 4 (by omega) (by omega)]; exact b.2.1, fun i hi => by rw [h.1 3 (by omega) (by omega)]; exact b.2.2.1 i hi, b.2.2.2.1, b.2.2.2.2⟩
def setP (τ : Mem × Int64) (p : Nat) : Mem × Int64 := (up2 τ.1 0 14 (nI p), τ.2)
theorem setP_k (τ : Mem × Int64) (p : Nat) : KeepT τ (setP τ p) := ⟨fun x h0 _ => up2_ne _ (x := 0) (y := x) h0, fun k h1 _ => by show up2 τ.1 0 14 _ 0 k = _; unfold up2; rw [if_neg (fun q => h1 q.2)], rfl⟩
theorem setP_p (τ : Mem × Int64) (p : Nat) : (setP τ p).1 0 14 = nI p := by show up2 τ.1 0 14 (nI p) 0 14 = _; unfold up2; rw [if_pos ⟨rfl, rfl⟩]
theorem setP_n (τ : Mem × Int64) (p k : Nat) (h : k ≠ 14) : (setP τ p).1 0 k = τ.1 0 k := by show up2 τ.1 0 14 _ 0 k = _; unfold up2; rw [if_neg (fun q => h q.2)]
theorem setP_x (τ : Mem × Int64) (p x : Nat) (h : x ≠ 0) : (setP τ p).1 x = τ.1 x := up2_ne _ (x := 0) (y := x) h
theorem setP_setP (τ : Mem × Int64) (p q : Nat) : setP (setP τ p) q = setP τ q := by unfold setP; rw [up2_up2]
theorem setP_same (τ : Mem × Int64) (p : Nat) (h : τ.1 0 14 = nI p) : setP τ p = τ := by unfold setP; rw [← h, up2_same]
theorem m_next (b : BufM τ c L) {p : Nat} (hp : τ.1 0 14 = nI p) (hl : p ≤ 60) : F_X4_next τ = some (nI (c p)) := by
  unfold F_X4_next
  rw [b.2.1, hp]
  have h1 := b.1
  by_cases q : p < L
  · rw [if_neg (fun w => absurd ((nI_le_iff (by omega) (by omega)).mp w) (by omega)), if_pos (inb_nI (by omega) (by decide)), nI_clamp (by omega), b.2.2.1 p q]
  · rw [if_pos ((nI_le_iff (by omega) (by omega)).mpr (by omega)), b.2.2.2.2 p (by omega)]; rfl
theorem m_takes (b : BufM τ c L) {p s : Nat} (hp : τ.1 0 14 = nI p) (hl : p ≤ 60) (hs : s < 128) : F_X4_takes (nI s) τ = some (b2i (decide (c p = s)), setP τ (if c p = s then p + 1 else p)) := by
  unfold F_X4_takes
  have hc := b.2.2.2.1 p
  rw [m_next b hp hl, Option.bind_some, hp]
  by_cases q : c p = s
  · rw [if_neg (fun w => w (by rw [q])), if_pos q, decide_eq_true q]
    show some (1, (up2 τ.1 0 14 (nI p + 1), τ.2)) = _
    rw [show nI p + (1 : Int32) = nI (p + 1) from nI_1 p]; rfl
  · rw [if_pos (fun w => q ((nI_eq_iff (by omega) (by omega)).mp w)), if_neg q, decide_eq_false q]
    show some (0, (up2 τ.1 0 14 (nI p + 0), τ.2)) = _
    rw [show nI p + (0 : Int32) = nI p from by simp]; rfl
/-- the number that stands from a on, n digits -/
def dv (c : Nat → Nat) (a : Nat) : Nat → Nat
  | 0 => 0
  | n + 1 => 10 * dv c a n + (c (a + n) - 48)
/-- the reference's number takes k digits from a on -/
def nC (c : Nat → Nat) (most a n : Nat) : Prop := dig (c (a + n)) = true ∧ (n = 0 ∨ dv c a n ≠ 0) ∧ dv c a (n + 1) ≤ most
def vN (c : Nat → Nat) (a n : Nat) : Int32 := if n = 0 then -1 else nI (dv c a n)
theorem in_dig : ∀ c, c < 128 → F_X4_in (nI c - (48 : Int32)) (0 : Int32) (9 : Int32) = some (b2i (dig c)) := by decide +kernel
theorem m_number (b : BufM τ c L) {most a k : Nat} (hm : most ≤ 9999) (ha : τ.1 0 14 = nI a) (ha2 : a ≤ L) (h1 : ∀ n, n < k → nC c most a n) (h2 : ¬ nC c most a k) : F_X4_number (nI most) τ = some (vN c a k, setP τ (a + k)) ∧ a + k ≤ L := by
  have hL := b.1
  have hpos : ∀ n, n ≤ k → a + n ≤ L := fun n hn => by
    rcases Nat.eq_zero_or_pos n with q | q
    · omega
    · obtain ⟨d, -, -⟩ := h1 (n - 1) (by omega)
      rcases Nat.lt_or_ge (a + (n - 1)) L with w | w
      · omega
      · rw [b.2.2.2.2 _ w] at d; cases d
  have hdv : ∀ n, 1 ≤ n → n ≤ k → dv c a n ≤ most := fun n n1 n2 => by
    have := (h1 (n - 1) (by omega)).2.2
    rw [show n - 1 + 1 = n by omega] at this; exact this
  have h48 : ∀ x, dig x = true → 48 ≤ x ∧ x ≤ 57 := fun x hx => by unfold dig at hx; simpa using hx
  have key : ∀ (j n fu : Nat), n + j = k → j + 1 < fu → L_X4_number_4 (nI most) fu (vN c a n) 1 (setP τ (a + n)) = some (vN c a k, setP τ (a + k)) := by
    intro j
    induction j with
    | zero =>
      intro n fu hn hf
      have hn : n = k := by omega
      subst hn
      obtain ⟨f, rfl⟩ : ∃ f, fu = f + 1 + 1 := ⟨fu - 2, by omega⟩
      have hb := (setP_k τ (a + n)).buf b
      have hx := b.2.2.2.1 (a + n)
      have hvb : n = 0 ∨ dv c a n ≤ most := by
        rcases Nat.eq_zero_or_pos n with q | q
        · exact Or.inl q
        · exact Or.inr (hdv n q (Nat.le_refl _))
      rw [L_X4_number_4, if_neg (by decide), m_next hb (setP_p τ _) (by have := hpos n (Nat.le_refl _); omega), Option.bind_some, in_dig _ hx]
      have h44 : ∀ v19 : Int32, (dig (c (a + n)) = true → vN c a n ≠ 0 → v19 = nI (dv c a (n + 1))) → (if b2i (dig (c (a + n))) = 0 then some (0 : Int32) else (if vN c a n = 0 then some (0 : Int32) else Option.bind (F_X4_in v19 (0 : Int32) (nI most)) (fun r55 => (if r55 = 0 then some (0 : Int32) else some (1 : Int32))))) = some 0 := by
        intro v19 hv
        cases hd : dig (c (a + n)) with
        | false => rw [if_b0]
        | true =>
          rw [if_b1]
          by_cases h0 : vN c a n = 0
          · rw [if_pos h0]
          · rw [if_neg h0, hv hd h0, m_in]
            have hcx := h48 _ hd
            have hdn : dv c a (n + 1) ≤ 10 * 9999 + 9 := by
              show 10 * dv c a n + (c (a + n) - 48) ≤ _
              rcases hvb with q | q
              · subst q
                show 10 * 0 + _ ≤ _
                omega
              · omega
            have hgt : ¬ dv c a (n + 1) ≤ most := fun w => h2 ⟨hd, by
              rcases Nat.eq_zero_or_pos n with q | q
              · exact Or.inl q
              · refine Or.inr (fun z => h0 ?_)
                unfold vN
                rw [if_neg (by omega), z]; rfl, w⟩
            have e1 : (nI (dv c a (n + 1))).toInt = (dv c a (n + 1) : Int) := nI_toInt (by omega)
            have e2 : (nI most).toInt = (most : Int) := nI_toInt (by omega)
            rw [decide_eq_false (by rw [e1, e2]; omega), Option.bind_some, if_b0]
      have hv19 : (if ¬ vN c a n = (-1 : Int32) then some (((10 : Int32) * vN c a n) + (nI (c (a + n)) - (48 : Int32))) else some (nI (c (a + n)) - (48 : Int32))) = some (if n = 0 then nI (c (a + n)) - (48 : Int32) else ((10 : Int32) * vN c a n) + (nI (c (a + n)) - (48 : Int32))) := by
        unfold vN
        by_cases q : n = 0
        · rw [if_pos q, if_pos q, if_neg (fun w => w rfl)]
        · have := hvb.resolve_left q
          rw [if_neg q, if_neg q, if_pos (nI_ne_m1 (by omega))]
      rw [hv19, Option.bind_some, Option.bind_some, h44 _ (fun hd _ => by
        have hcx := h48 _ hd
        show _ = nI (10 * dv c a n + (c (a + n) - 48))
        have hs : nI (c (a + n)) - (48 : Int32) = nI (c (a + n) - 48) := pk_sub (b := 48) hcx.1
        by_cases q : n = 0
        · subst q
          rw [if_pos rfl, hs]; show _ = nI (10 * 0 + _); rw [Nat.mul_zero, Nat.zero_add]
        · rw [if_neg q, hs]; unfold vN; rw [if_neg q, ← nI_add, ← pk_mul]; rfl), Option.bind_some, if_pos rfl, Option.bind_some, if_pos rfl, Option.bind_some, L_X4_number_4, if_pos rfl, setP_p]
      rw [show nI (a + n) + (0 : Int32) = nI (a + n) from by simp]
      show some (vN c a n, setP (setP τ (a + n)) (a + n)) = _
      rw [setP_setP]
    | succ j ih =>
      intro n fu hn hf
      obtain ⟨f, rfl⟩ : ∃ f, fu = f + 1 := ⟨fu - 1, by omega⟩
      have hb := (setP_k τ (a + n)).buf b
      have hx := b.2.2.2.1 (a + n)
      obtain ⟨hd, h0, hle⟩ := h1 n (by omega)
      have hcx := h48 _ hd
      have hvb : n = 0 ∨ dv c a n ≤ most := by
        rcases Nat.eq_zero_or_pos n with q | q
        · exact Or.inl q
        · exact Or.inr (hdv n q (by omega))
      have hv19 : (if ¬ vN c a n = (-1 : Int32) then some (((10 : Int32) * vN c a n) + (nI (c (a + n)) - (48 : Int32))) else some (nI (c (a + n)) - (48 : Int32))) = some (nI (dv c a (n + 1))) := by
        show _ = some (nI (10 * dv c a n + (c (a + n) - 48)))
        have hs : nI (c (a + n)) - (48 : Int32) = nI (c (a + n) - 48) := pk_sub (b := 48) hcx.1
        unfold vN
        by_cases q : n = 0
        · subst q
          rw [if_pos rfl, if_neg (fun w => w rfl), hs]; show _ = some (nI (10 * 0 + _)); rw [Nat.mul_zero, Nat.zero_add]
        · have := hvb.resolve_left q
          rw [if_neg q, if_pos (nI_ne_m1 (by omega)), hs, ← nI_add, ← pk_mul]; rfl
      have hne : ¬ vN c a n = 0 := by
        unfold vN
        by_cases q : n = 0
        · rw [if_pos q]; decide
        · have := hvb.resolve_left q
          rw [if_neg q]
          exact fun w => (h0.resolve_left q) ((nI_eq_iff (a := dv c a n) (b := 0) (by omega) (by omega)).mp w)
      rw [L_X4_number_4, if_neg (by decide), m_next hb (setP_p τ _) (by have := hpos n (by omega); omega), Option.bind_some, in_dig _ hx, hd, hv19, Option.bind_some, Option.bind_some, if_b1, if_neg hne, m_in]
      have e1 : (nI (dv c a (n + 1))).toInt = (dv c a (n + 1) : Int) := nI_toInt (by omega)
      have e2 : (nI most).toInt = (most : Int) := nI_toInt (by omega)
      have e0 : (0 : Int32).toInt = 0 := by decide
      rw [decide_eq_true (by rw [e1, e2, e0]; omega), Option.bind_some, if_b1, Option.bind_some, if_neg (by decide), Option.bind_some, if_neg (by decide), Option.bind_some, setP_p, show nI (a + n) + (1 : Int32) = nI (a + (n + 1)) from nI_1 (a + n)]
      have := ih (n + 1) f (by omega) (by omega)
      rw [show vN c a (n + 1) = nI (dv c a (n + 1)) from if_neg (by omega)] at this
      show L_X4_number_4 (nI most) f (nI (dv c a (n + 1))) 1 (setP (setP τ (a + n)) (a + (n + 1))) = _
      rw [setP_setP]
      exact this
  refine ⟨?_, hpos k (Nat.le_refl _)⟩
  unfold F_X4_number
  have hk : k ≤ 60 := by have := hpos k (Nat.le_refl _); omega
  have := key k 0 FU (by omega) (by show k + 1 < 1000; omega)
  rw [Nat.add_zero, setP_same τ a ha] at this
  have this : L_X4_number_4 (nI most) FU (-1) 1 τ = some (vN c a k, setP τ (a + k)) := this
  rw [this]; rfl
end T39
