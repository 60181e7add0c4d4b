/-! what the reference answers, in numbers -/
theorem mz_s (τ : Mem × Int64) {k j : Nat} (h1 : k < 16) (h2 : j < 4) : mz τ (20 + 4 * k + j) = τ.1 1 (20 + 4 * k + j) := by
  unfold mz; rw [if_neg (by omega)]
theorem mz_tk (τ : Mem × Int64) {k : Nat} (h1 : k < 16) : mz τ (20 + 4 * k) = τ.1 1 (20 + 4 * k) := mz_s τ (j := 0) h1 (by omega)
theorem mz_lo (τ : Mem × Int64) {k : Nat} (h : k < 3) : mz τ k = τ.1 1 k := by unfold mz; rw [if_neg (by omega)]
theorem mz_t (τ : Mem × Int64) {c : Nat} (h1 : 1 ≤ c) (h2 : c ≤ 15) : mz τ (3 + c) = τ.1 1 (3 + c) := by unfold mz; rw [if_neg (by omega)]
theorem mz_cong {τ τ' : Mem × Int64} (h : τ'.1 1 = τ.1 1) : mz τ' = mz τ := by funext x; unfold mz; rw [h]
theorem mz_vv (τ : Mem × Int64) {k : Nat} (h : k < 16) : vv (mz τ) k = (τ.1 1 (20 + 4 * k + 1)).toInt := by unfold vv; rw [mz_s τ h (by omega)]
theorem mz_sp (τ : Mem × Int64) {k : Nat} (h : k < 16) : sp (mz τ) k = (τ.1 1 (20 + 4 * k + 2)).toInt := by unfold sp; rw [mz_s τ h (by omega)]
theorem m_at (k : Nat) : F_X4_at (nI k) = some (nI (20 + 4 * k)) := by
  unfold F_X4_at
  rw [show (20 : Int32) = nI 20 from rfl, show (4 : Int32) = nI 4 from rfl, pk_mul, nI_add]
theorem m_idx {k j : Nat} (h : k < 16) (hj : j < 4) : inb (nI (20 + 4 * k) + nI j) 84 = true ∧ (nI (20 + 4 * k) + nI j).toNatClampNeg = 20 + 4 * k + j := by
  rw [nI_add]
  exact ⟨inb_nI (by omega) (by decide), nI_clamp (by omega)⟩
theorem m_idx0 {k : Nat} (h : k < 16) : inb (nI (20 + 4 * k)) 84 = true ∧ (nI (20 + 4 * k)).toNatClampNeg = 20 + 4 * k := ⟨inb_nI (by omega) (by decide), nI_clamp (by omega)⟩
theorem m_idx1 {k : Nat} (h : k < 16) : inb (nI (20 + 4 * k) + (1 : Int32)) 84 = true ∧ (nI (20 + 4 * k) + (1 : Int32)).toNatClampNeg = 20 + 4 * k + 1 := m_idx (j := 1) h (by omega)
theorem m_idx2 {k : Nat} (h : k < 16) : inb (nI (20 + 4 * k) + (2 : Int32)) 84 = true ∧ (nI (20 + 4 * k) + (2 : Int32)).toNatClampNeg = 20 + 4 * k + 2 := m_idx (j := 2) h (by omega)
theorem m_idx3 {k : Nat} (h : k < 16) : inb (nI (20 + 4 * k) + (3 : Int32)) 84 = true ∧ (nI (20 + 4 * k) + (3 : Int32)).toNatClampNeg = 20 + 4 * k + 3 := m_idx (j := 3) h (by omega)
theorem m_in (a b c : Int32) : F_X4_in a b c = some (b2i (decide (b.toInt ≤ a.toInt ∧ a.toInt ≤ c.toInt))) := by
  unfold F_X4_in
  simp only [i32_lt]
  by_cases h1 : a.toInt < b.toInt
  · rw [if_pos h1, decide_eq_false (by omega)]; rfl
  · rw [if_neg h1]
    by_cases h2 : c.toInt < a.toInt
    · rw [if_pos h2, decide_eq_false (by omega)]; rfl
    · rw [if_neg h2, decide_eq_true (by omega)]; rfl
theorem s_within (a b c : Int32) : F_X3_isWithin a b c = some (b2i (decide (b.toInt ≤ a.toInt ∧ a.toInt ≤ c.toInt))) := m_in a b c
theorem m_slots : ∀ c, c < 16 → 1 ≤ c → F_X4_slotsOf (nI c) = some (nI (sz c)) ∧ F_X4_firstOf (nI c) = some (nI (lo c)) := by decide +kernel
section MS
variable {τ : Mem × Int64}
theorem m_has {i : Nat} (h : i < 16) : F_X4_has (nI i) τ = some (b2i (tk (mz τ) i)) := by
  unfold F_X4_has tk
  rw [m_at, Option.bind_some, if_pos (m_idx0 h).1, (m_idx0 h).2, mz_tk τ h]
  by_cases e : τ.1 1 (20 + 4 * i) = 1 <;> simp [e, b2i]
theorem m_isMover (a : Int32) : F_X4_isMover a τ = some (b2i (hasA (mz τ) a)) := by
  unfold F_X4_isMover
  rw [m_in, Option.bind_some]
  rcases a_cases a with ⟨h1, h2⟩ | ⟨h1, h2, h3⟩ | ⟨i, h1, h2, h3⟩
  · have : ¬ ((0 : Int32).toInt ≤ a.toInt ∧ a.toInt ≤ (15 : Int32).toInt) := by
      have e0 : (0 : Int32).toInt = 0 := by decide
      have e1 : (15 : Int32).toInt = 15 := by decide
      omega
    rw [decide_eq_false this, if_pos (by decide)]; unfold hasA; rw [decide_eq_false h2]; rfl
  · have : ¬ ((0 : Int32).toInt ≤ a.toInt ∧ a.toInt ≤ (15 : Int32).toInt) := by
      have e0 : (0 : Int32).toInt = 0 := by decide
      have e1 : (15 : Int32).toInt = 15 := by decide
      omega
    rw [decide_eq_false this, if_pos (by decide)]; unfold hasA; rw [decide_eq_false h3]; rfl
  · have : ((0 : Int32).toInt ≤ a.toInt ∧ a.toInt ≤ (15 : Int32).toInt) := by
      have e0 : (0 : Int32).toInt = 0 := by decide
      have e1 : (15 : Int32).toInt = 15 := by decide
      omega
    rw [decide_eq_true this, if_neg (by decide), h2, m_has h1, Option.bind_some, hasA_nI h1]
    cases tk (mz τ) i <;> decide
theorem m_sub {a b : Int32} {B C : Int} (ha : -B ≤ a.toInt ∧ a.toInt ≤ B) (hb : -C ≤ b.toInt ∧ b.toInt ≤ C) (h : B + C < 2147483648) : (a - b).toInt = a.toInt - b.toInt := fb_subI (by omega) (by omega)
theorem m_isAhead {i j : Nat} {a b : Int64} (hz : zOK (mz τ)) (hi : i < 16) (hj : j < 16) (ha : -4000000 ≤ a.toInt ∧ a.toInt ≤ 4000000) (hb : -4000000 ≤ b.toInt ∧ b.toInt ≤ 4000000) : F_X4_isAhead (nI i) (nI j) a b τ = some (b2i (ah (mz τ) a.toInt b.toInt i j)) := by
  have v1 := hz.v hi
  have v2 := hz.v hj
  have u1 := hz.s hi
  have u2 := hz.s hj
  rw [mz_vv τ hi] at v1
  rw [mz_vv τ hj] at v2
  rw [mz_sp τ hi] at u1
  rw [mz_sp τ hj] at u2
  have hup := hz.2.2.2.1
  rw [mz_lo τ (show 1 < 3 by omega)] at hup
  unfold F_X4_isAhead
  simp only [m_at, Option.bind_some, (m_idx1 hi).1, (m_idx1 hi).2, (m_idx1 hj).1, (m_idx1 hj).2, (m_idx2 hi).1, (m_idx2 hi).2, (m_idx2 hj).1, (m_idx2 hj).2, if_true]
  have e1 : (τ.1 1 (20 + 4 * i + 1) - τ.1 1 (20 + 4 * j + 1)).toInt = vv (mz τ) i - vv (mz τ) j := by rw [m_sub (B := 2000000) (C := 2000000) (by omega) (by omega) (by decide), mz_vv τ hi, mz_vv τ hj]
  have e2 : (τ.1 1 (20 + 4 * i + 2) - τ.1 1 (20 + 4 * j + 2)).toInt = sp (mz τ) i - sp (mz τ) j := by rw [m_sub (B := 99) (C := 99) (by omega) (by omega) (by decide), mz_sp τ hi, mz_sp τ hj]
  have w1 := hz.v hi
  have w2 := hz.v hj
  have x1 := hz.s hi
  have x2 := hz.s hj
  obtain ⟨m1, n1⟩ := mulL (x := (τ.1 1 (20 + 4 * i + 1) - τ.1 1 (20 + 4 * j + 1)).toInt64) (y := b) (B := 4000000) (C := 4000000) (by rw [toL, e1]; omega) hb (by decide)
  obtain ⟨m2, n2⟩ := mulL (x := (τ.1 1 (20 + 4 * i + 2) - τ.1 1 (20 + 4 * j + 2)).toInt64) (y := a) (B := 198) (C := 4000000) (by rw [toL, e2]; omega) ha (by decide)
  have m3 := addL n1 n2 (by decide)
  rw [m1, m2, toL, toL, e1, e2, ← pos_sub] at m3
  have z0 : (0 : Int64).toInt = 0 := by decide
  have e3 : (τ.1 1 (20 + 4 * i + 2) - τ.1 1 (20 + 4 * j + 2) = 0) ↔ sp (mz τ) i = sp (mz τ) j := by
    rw [i32_eq, e2]
    have : (0 : Int32).toInt = 0 := by decide
    omega
  have e4 : (τ.1 1 (20 + 4 * i + 2) - τ.1 1 (20 + 4 * j + 2) ≤ 0) ↔ ¬ sp (mz τ) j < sp (mz τ) i := by
    rw [i32_le, e2]
    have : (0 : Int32).toInt = 0 := by decide
    omega
  simp only [lgc_eq, lgc_le, m3, z0, e3, e4, nI_le_iff (show i < 2 ^ 31 by omega) (show j < 2 ^ 31 by omega), nI_le_iff (show j < 2 ^ 31 by omega) (show i < 2 ^ 31 by omega)]
  unfold ah lx up
  rw [mz_lo τ (show 1 < 3 by omega)]
  by_cases h : pos (mz τ) a.toInt b.toInt i = pos (mz τ) a.toInt b.toInt j
  · have h' : pos (mz τ) a.toInt b.toInt i - pos (mz τ) a.toInt b.toInt j = 0 := by omega
    by_cases h2 : sp (mz τ) i = sp (mz τ) j
    · rcases hup with e | e
      · by_cases q : j ≤ i
        · have : ¬ i < j := by omega
          simp [h, h2, e, q, this, b2i]
        · have : i < j := by omega
          simp [h, h2, e, q, this, b2i]
      · by_cases q : i ≤ j
        · have : ¬ j < i := by omega
          simp [h, h2, e, q, this, b2i]
        · have : j < i := by omega
          simp [h, h2, e, q, this, b2i]
    · by_cases q : sp (mz τ) j < sp (mz τ) i <;> simp [h, h2, q, b2i]
  · have h' : ¬ pos (mz τ) a.toInt b.toInt i - pos (mz τ) a.toInt b.toInt j = 0 := by omega
    by_cases q : pos (mz τ) a.toInt b.toInt j < pos (mz τ) a.toInt b.toInt i
    · have : ¬ pos (mz τ) a.toInt b.toInt i - pos (mz τ) a.toInt b.toInt j ≤ 0 := by omega
      simp [h, h', q, this, b2i]
    · have : pos (mz τ) a.toInt b.toInt i - pos (mz τ) a.toInt b.toInt j ≤ 0 := by omega
      simp [h, h', q, this, b2i]
theorem m_winnerAt {c : Nat} {a b : Int64} (hz : zOK (mz τ)) (h1 : 1 ≤ c) (h2 : c ≤ 15) (ha : -4000000 ≤ a.toInt ∧ a.toInt ≤ 4000000) (hb : -4000000 ≤ b.toInt ∧ b.toInt ≤ 4000000) : F_X4_winnerAt (nI c) a b τ = some (enc (win (mz τ) a.toInt b.toInt c)) := by
  have hs := (sz_lo h1 h2).1
  have ho := m_slots c (by omega) h1
  have key : ∀ (m k fu : Nat) (w : Option Nat), k + m = lo c + sz c → m < fu → (∀ j, w = some j → j < 16) → L_X4_winnerAt_13 (nI c) a b (nI (lo c)) τ fu (enc w) (nI k) = some (enc (fo (tk (mz τ)) (ah (mz τ) a.toInt b.toInt) m k w)) := by
    intro m
    induction m with
    | zero =>
      intro k fu w hk hf hw
      obtain ⟨f, rfl⟩ : ∃ f, fu = f + 1 := ⟨fu - 1, by omega⟩
      rw [L_X4_winnerAt_13, ho.1, Option.bind_some, nI_add, if_pos ((nI_le_iff (by omega) (by omega)).mpr (by omega))]
      rfl
    | succ m ih =>
      intro k fu w hk hf hw
      obtain ⟨f, rfl⟩ : ∃ f, fu = f + 1 := ⟨fu - 1, by omega⟩
      have hk16 : k < 16 := by omega
      rw [L_X4_winnerAt_13, ho.1, Option.bind_some, nI_add, if_neg (fun q => absurd ((nI_le_iff (by omega) (by omega)).mp q) (by omega)), m_has hk16, Option.bind_some, fo]
      have key2 : (if b2i (tk (mz τ) k) = 0 then some (enc w) else if enc w = -1 then some (nI k) else (F_X4_isAhead (nI k) (enc w) a b τ).bind fun r48 => if r48 = 0 then some (enc w) else some (nI k)) = some (enc (if tk (mz τ) k && bet (ah (mz τ) a.toInt b.toInt) w k then some k else w)) := by
        cases ht : tk (mz τ) k with
        | false => simp [b2i]
        | true =>
          rw [if_neg (by decide)]
          cases w with
          | none => simp [enc, bet]
          | some j =>
            have hj := hw j rfl
            rw [if_neg (show ¬ enc (some j) = -1 from nI_ne_m1 (by omega)), show enc (some j) = nI j from rfl, m_isAhead hz hk16 hj ha hb, Option.bind_some]
            cases hA : ah (mz τ) a.toInt b.toInt k j <;> simp [bet, b2i, enc, hA]
      rw [key2, Option.bind_some]
      show L_X4_winnerAt_13 (nI c) a b (nI (lo c)) τ f _ (nI k + 1) = _
      rw [nI_1]
      exact ih (k + 1) f _ (by omega) (by omega) (fun j hj => by
        split at hj
        · cases hj; exact hk16
        · exact hw j hj)
  unfold F_X4_winnerAt
  rw [ho.2, Option.bind_some, show (-1 : Int32) = enc none from rfl, key (sz c) (lo c) FU none rfl (by show sz c < 1000; omega) (fun j h => by cases h)]
  rfl
theorem m_winnerOf {c : Nat} (hz : zOK (mz τ)) (h1 : 1 ≤ c) (h2 : c ≤ 15) : F_X4_winnerOf (nI c) τ = some (enc (ch (mz τ) c 0)) := by
  unfold F_X4_winnerOf
  rw [m_winnerAt hz h1 h2 (by decide) (by decide)]
  rfl
/-- the reference's note of who is next -/
def sN (τ : Mem × Int64) (w a b : Int32) : Mem × Int64 := (up2 (up2 (up2 τ.1 0 8 w) 0 6 a) 0 7 b, τ.2)
theorem sN_1 (τ : Mem × Int64) (w a b : Int32) : (sN τ w a b).1 1 = τ.1 1 := by
  show (up2 (up2 (up2 τ.1 0 8 w) 0 6 a) 0 7 b) 1 = τ.1 1
  rw [up2_ne _ (by omega), up2_ne _ (by omega), up2_ne _ (by omega)]
theorem sN_mz (τ : Mem × Int64) (w a b : Int32) : mz (sN τ w a b) = mz τ := mz_cong (sN_1 τ w a b)
theorem sN_8 (τ : Mem × Int64) (w a b : Int32) : (sN τ w a b).1 0 8 = w := by unfold sN up2; simp
theorem sN_6 (τ : Mem × Int64) (w a b : Int32) : (sN τ w a b).1 0 6 = a := by unfold sN up2; simp
theorem sN_7 (τ : Mem × Int64) (w a b : Int32) : (sN τ w a b).1 0 7 = b := by unfold sN up2; simp
theorem sN_sN (τ : Mem × Int64) (w a b w' a' b' : Int32) : sN (sN τ w a b) w' a' b' = sN τ w' a' b' := by
  unfold sN
  simp only [Prod.mk.injEq, and_true]
  funext x k
  unfold up2
  by_cases h7 : x = 0 ∧ k = 7 <;> by_cases h6 : x = 0 ∧ k = 6 <;> by_cases h8 : x = 0 ∧ k = 8 <;> simp [h6, h7, h8]
/-- the reference's numbers of the crossing of w by q -/
def nA (z : Zf) (w : Nat) : Option Nat → Int32
  | none => 0
  | some q => z (20 + 4 * w + 1) - z (20 + 4 * q + 1)
def nB (z : Zf) (w : Nat) : Option Nat → Int32
  | none => 0
  | some q => z (20 + 4 * q + 2) - z (20 + 4 * w + 2)
theorem nAB {z : Zf} (hz : zOK z) {w q : Nat} (hw : w < 16) (hq : q < 16) : (nA z w (some q)).toInt = vv z w - vv z q ∧ (nB z w (some q)).toInt = sp z q - sp z w ∧ -4000000 ≤ vv z w - vv z q ∧ vv z w - vv z q ≤ 4000000 ∧ -198 ≤ sp z q - sp z w ∧ sp z q - sp z w ≤ 198 := by
  have v1 := hz.v hw
  have v2 := hz.v hq
  have u1 := hz.s hw
  have u2 := hz.s hq
  have v1' := v1
  have v2' := v2
  have u1' := u1
  have u2' := u2
  unfold vv at v1' v2'
  unfold sp at u1' u2'
  refine ⟨?_, ?_, by omega, by omega, by omega, by omega⟩
  · unfold nA; rw [m_sub (B := 2000000) (C := 2000000) (by omega) (by omega) (by decide)]; rfl
  · unfold nB; rw [m_sub (B := 99) (C := 99) (by omega) (by omega) (by decide)]; rfl
theorem snr_tie {z : Zf} {w k q : Nat} (h : (vv z w - vv z k) * (sp z q - sp z w) = (vv z w - vv z q) * (sp z k - sp z w)) : snr z w k q = ah z (vv z w - vv z k) (sp z k - sp z w) k q := by
  have e1 : pos z (vv z w - vv z k) (sp z k - sp z w) k - pos z (vv z w - vv z k) (sp z k - sp z w) w = 0 := by
    rw [pos_sub]
    have : vv z k - vv z w = -(vv z w - vv z k) := by omega
    rw [this, Int.neg_mul, Int.mul_comm (sp z k - sp z w)]; omega
  have e2 : pos z (vv z w - vv z k) (sp z k - sp z w) w - pos z (vv z w - vv z k) (sp z k - sp z w) q = 0 := by
    rw [pos_sub]
    have : sp z w - sp z q = -(sp z q - sp z w) := by omega
    rw [this, Int.neg_mul, Int.mul_comm (sp z q - sp z w)]; omega
  have e3 : pos z (vv z w - vv z k) (sp z k - sp z w) k = pos z (vv z w - vv z k) (sp z k - sp z w) q := by omega
  unfold snr ah lx
  simp only [h, Int.sub_self, ne_eq, not_true_eq_false, if_false, e3]
theorem m_layNext {c w : Nat} (hz : zOK (mz τ)) (h1 : 1 ≤ c) (h2 : c ≤ 15) (hw : w < 16) : F_X4_layNext (nI c) (nI w) τ = some (sN τ (enc (nxt (mz τ) c w)) (nA (mz τ) w (nxt (mz τ) c w)) (nB (mz τ) w (nxt (mz τ) c w))) := by
  have hs := (sz_lo h1 h2).1
  have ho := m_slots c (by omega) h1
  have key : ∀ (m k fu : Nat) (q : Option Nat), k + m = lo c + sz c → m < fu → (∀ j, q = some j → j < 16) → L_X4_layNext_23 (nI c) (nI w) (nI (lo c)) fu (nI k) (sN τ (enc q) (nA (mz τ) w q) (nB (mz τ) w q)) = some (sN τ (enc (fo (fst (mz τ) w) (snr (mz τ) w) m k q)) (nA (mz τ) w (fo (fst (mz τ) w) (snr (mz τ) w) m k q)) (nB (mz τ) w (fo (fst (mz τ) w) (snr (mz τ) w) m k q))) := by
    intro m
    induction m with
    | zero =>
      intro k fu q hk hf hq
      obtain ⟨f, rfl⟩ : ∃ f, fu = f + 1 := ⟨fu - 1, by omega⟩
      rw [L_X4_layNext_23, ho.1, Option.bind_some, nI_add, if_pos ((nI_le_iff (by omega) (by omega)).mpr (by omega))]
      rfl
    | succ m ih =>
      intro k fu q hk hf hq
      obtain ⟨f, rfl⟩ : ∃ f, fu = f + 1 := ⟨fu - 1, by omega⟩
      have hk16 : k < 16 := by omega
      have hz' : zOK (mz (sN τ (enc q) (nA (mz τ) w q) (nB (mz τ) w q))) := by rw [sN_mz]; exact hz
      rw [L_X4_layNext_23, ho.1, Option.bind_some, nI_add, if_neg (fun q => absurd ((nI_le_iff (by omega) (by omega)).mp q) (by omega)), if_neg (nI_ne_m1 (by omega)), m_has hk16, Option.bind_some, fo, sN_mz]
      simp only [m_at, Option.bind_some, (m_idx1 hk16).1, (m_idx1 hk16).2, (m_idx1 hw).1, (m_idx1 hw).2, (m_idx2 hk16).1, (m_idx2 hk16).2, (m_idx2 hw).1, (m_idx2 hw).2, if_true, sN_1, sN_6, sN_7, sN_8]
      have r1 : τ.1 1 (20 + 4 * w + 1) - τ.1 1 (20 + 4 * k + 1) = nA (mz τ) w (some k) := by show _ = mz τ (20 + 4 * w + 1) - mz τ (20 + 4 * k + 1); rw [mz_s τ hw (by omega), mz_s τ hk16 (by omega)]
      have r2 : τ.1 1 (20 + 4 * k + 2) - τ.1 1 (20 + 4 * w + 2) = nB (mz τ) w (some k) := by show _ = mz τ (20 + 4 * k + 2) - mz τ (20 + 4 * w + 2); rw [mz_s τ hw (by omega), mz_s τ hk16 (by omega)]
      rw [r1, r2]
      have hsp : (τ.1 1 (20 + 4 * k + 2) ≤ τ.1 1 (20 + 4 * w + 2)) ↔ ¬ sp (mz τ) w < sp (mz τ) k := by
        rw [i32_le, mz_sp τ hk16, mz_sp τ hw]; omega
      cases ht : tk (mz τ) k with
      | false =>
        have e : (fst (mz τ) w k && bet (snr (mz τ) w) q k) = false := by simp [fst, ht]
        rw [if_pos (by decide), Option.bind_some, e]
        show L_X4_layNext_23 (nI c) (nI w) (nI (lo c)) f (nI k + 1) _ = _
        rw [nI_1]
        exact ih (k + 1) f q (by omega) (by omega) hq
      | true =>
        rw [if_neg (by decide)]
        by_cases hsl : sp (mz τ) w < sp (mz τ) k
        · rw [if_neg (fun x => hsp.mp x hsl)]
          have hfst : fst (mz τ) w k = true := fst_iff.mpr ⟨ht, hsl⟩
          obtain ⟨a1, a2, a3, a4, a5, a6⟩ := nAB hz hw hk16
          -- does k come before q
          have hbet : ∃ v : Int64, ((if ¬ enc q = -1 then some ((nA (mz τ) w (some k)).toInt64 * (nB (mz τ) w q).toInt64 - (nA (mz τ) w q).toInt64 * (nB (mz τ) w (some k)).toInt64) else some (-1 : Int64)) = some v) ∧ (if lg_cmp v 0 < 0 then some (1 : Int32) else if ¬ lg_cmp v 0 = 0 then some 0 else (F_X4_isAhead (nI k) (enc q) (nA (mz τ) w (some k)).toInt64 (nB (mz τ) w (some k)).toInt64 (sN τ (enc q) (nA (mz τ) w q) (nB (mz τ) w q))).bind fun r188 => if r188 = 0 then some 0 else some 1) = some (b2i (bet (snr (mz τ) w) q k)) := by
            cases q with
            | none => exact ⟨-1, if_neg (fun h => h rfl), by rw [if_pos (by decide)]; rfl⟩
            | some j =>
              have hj := hq j rfl
              obtain ⟨b1, b2, b3, b4, b5, b6⟩ := nAB hz hw hj
              obtain ⟨m1, n1⟩ := mulL (x := (nA (mz τ) w (some k)).toInt64) (y := (nB (mz τ) w (some j)).toInt64) (B := 4000000) (C := 198) (by rw [toL, a1]; omega) (by rw [toL, b2]; omega) (by decide)
              obtain ⟨m2, n2⟩ := mulL (x := (nA (mz τ) w (some j)).toInt64) (y := (nB (mz τ) w (some k)).toInt64) (B := 4000000) (C := 198) (by rw [toL, b1]; omega) (by rw [toL, a2]; omega) (by decide)
              have m3 := subL n1 n2 (by decide)
              rw [m1, m2, toL, toL, toL, toL, a1, a2, b1, b2] at m3
              refine ⟨_, if_pos (show ¬ enc (some j) = -1 from nI_ne_m1 (by omega)), ?_⟩
              have z0 : (0 : Int64).toInt = 0 := by decide
              simp only [lgc_lt, lgc_eq, m3, z0]
              rw [show enc (some j) = nI j from rfl, m_isAhead (τ := sN τ (nI j) (nA (mz τ) w (some j)) (nB (mz τ) w (some j))) (by rw [sN_mz]; exact hz) hk16 hj (by rw [toL, a1]; omega) (by rw [toL, a2]; omega), Option.bind_some, toL, toL, a1, a2, sN_mz]
              show _ = some (b2i (snr (mz τ) w k j))
              by_cases hL : (vv (mz τ) w - vv (mz τ) k) * (sp (mz τ) j - sp (mz τ) w) = (vv (mz τ) w - vv (mz τ) j) * (sp (mz τ) k - sp (mz τ) w)
              · rw [snr_tie hL, if_neg (by omega), if_neg (by omega)]
                cases ah (mz τ) (vv (mz τ) w - vv (mz τ) k) (sp (mz τ) k - sp (mz τ) w) k j <;> simp [b2i]
              · by_cases hL2 : (vv (mz τ) w - vv (mz τ) k) * (sp (mz τ) j - sp (mz τ) w) < (vv (mz τ) w - vv (mz τ) j) * (sp (mz τ) k - sp (mz τ) w)
                · rw [if_pos (by omega), show snr (mz τ) w k j = true from snr_iff.mpr (Or.inl hL2)]; rfl
                · rw [if_neg (by omega), if_pos (by omega), show snr (mz τ) w k j = false by
                    cases hs : snr (mz τ) w k j with
                    | false => rfl
                    | true => rcases snr_iff.mp hs with h | h <;> omega]
                  rfl
          obtain ⟨v, hv1, hv2⟩ := hbet
          rw [hv1, Option.bind_some, hv2, Option.bind_some, hfst, Bool.true_and]
          cases hb : bet (snr (mz τ) w) q k with
          | false =>
            simp only [b2i, if_true, if_false, Bool.false_eq_true, Option.bind_some]
            have e : (up2 (up2 (up2 (sN τ (enc q) (nA (mz τ) w q) (nB (mz τ) w q)).1 0 8 (enc q)) 0 6 ((up2 (sN τ (enc q) (nA (mz τ) w q) (nB (mz τ) w q)).1 0 8 (enc q)) 0 6)) 0 7 ((up2 (up2 (sN τ (enc q) (nA (mz τ) w q) (nB (mz τ) w q)).1 0 8 (enc q)) 0 6 ((up2 (sN τ (enc q) (nA (mz τ) w q) (nB (mz τ) w q)).1 0 8 (enc q)) 0 6)) 0 7), (sN τ (enc q) (nA (mz τ) w q) (nB (mz τ) w q)).2) = sN τ (enc q) (nA (mz τ) w q) (nB (mz τ) w q) := by
              rw [show (up2 (sN τ (enc q) (nA (mz τ) w q) (nB (mz τ) w q)).1 0 8 (enc q)) 0 6 = nA (mz τ) w q by unfold sN up2; simp]
              rw [show (up2 (up2 (sN τ (enc q) (nA (mz τ) w q) (nB (mz τ) w q)).1 0 8 (enc q)) 0 6 (nA (mz τ) w q)) 0 7 = nB (mz τ) w q by unfold sN up2; simp]
              exact sN_sN τ _ _ _ _ _ _
            rw [e]
            show L_X4_layNext_23 (nI c) (nI w) (nI (lo c)) f (nI k + 1) _ = _
            rw [nI_1]
            exact ih (k + 1) f q (by omega) (by omega) hq
          | true =>
            simp only [b2i, if_true, if_false, Option.bind_some]
            have e : (up2 (up2 (up2 (sN τ (enc q) (nA (mz τ) w q) (nB (mz τ) w q)).1 0 8 (nI k)) 0 6 (nA (mz τ) w (some k))) 0 7 (nB (mz τ) w (some k)), (sN τ (enc q) (nA (mz τ) w q) (nB (mz τ) w q)).2) = sN τ (enc (some k)) (nA (mz τ) w (some k)) (nB (mz τ) w (some k)) := sN_sN τ _ _ _ _ _ _
            simp only [show ¬ ((1 : Int32) = 0) by decide, if_false, Option.bind_some]
            rw [e]
            show L_X4_layNext_23 (nI c) (nI w) (nI (lo c)) f (nI k + 1) _ = _
            rw [nI_1]
            exact ih (k + 1) f (some k) (by omega) (by omega) (fun j hj => by cases hj; exact hk16)
        · have e : (fst (mz τ) w k && bet (snr (mz τ) w) q k) = false := by simp [fst, hsl]
          rw [if_pos (hsp.mpr hsl), Option.bind_some, e]
          show L_X4_layNext_23 (nI c) (nI w) (nI (lo c)) f (nI k + 1) _ = _
          rw [nI_1]
          exact ih (k + 1) f q (by omega) (by omega) hq
  unfold F_X4_layNext
  rw [ho.2, Option.bind_some]
  exact key (sz c) (lo c) FU none rfl (by show sz c < 1000; omega) (fun j h => by cases h)
theorem m_layNextM {c : Nat} (h1 : 1 ≤ c) (h2 : c ≤ 15) : F_X4_layNext (nI c) (-1) τ = some (sN τ (-1) 0 0) := by
  have hs := (sz_lo h1 h2)
  have ho := m_slots c (by omega) h1
  unfold F_X4_layNext
  rw [ho.2, Option.bind_some, show FU = 999 + 1 from rfl, L_X4_layNext_23, ho.1, Option.bind_some, nI_add, if_neg (fun q => absurd ((nI_le_iff (by omega) (by omega)).mp q) (by omega)), if_pos rfl]
  rfl
end MS
