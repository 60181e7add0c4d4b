theorem m_idx {k j : Nat} (h : k < 16) (hj : j < 4) : inb (nI (20 + 4 * k) + nI j) 84 = true ∧ (nI (20 + 4 * k) + nI j).toNatClampNeg = 20 + 4 * k + j := by
  rw [nI_add]
  exact ⟨inb_nI (by omega) (by decide), nI_clamp (by omega)⟩
theorem m_idx0 {k : Nat} (h : k < 16) : inb (nI (20 + 4 * k)) 84 = true ∧ (nI (20 + 4 * k)).toNatClampNeg = 20 + 4 * k := ⟨inb_nI (by omega) (by decide), nI_clamp (by omega)⟩
theorem m_idx1 {k : Nat} (h : k < 16) : inb (nI (20 + 4 * k) + (1 : Int32)) 84 = true ∧ (nI (20 + 4 * k) + (1 : Int32)).toNatClampNeg = 20 + 4 * k + 1 := m_idx (j := 1) h (by omega)
theorem m_idx2 {k : Nat} (h : k < 16) : inb (nI (20 + 4 * k) + (2 : Int32)) 84 = true ∧ (nI (20 + 4 * k) + (2 : Int32)).toNatClampNeg = 20 + 4 * k + 2 := m_idx (j := 2) h (by omega)
theorem m_idx3 {k : Nat} (h : k < 16) : inb (nI (20 + 4 * k) + (3 : Int32)) 84 = true ∧ (nI (20 + 4 * k) + (3 : Int32)).toNatClampNeg = 20 + 4 * k + 3 := m_idx (j := 3) h (by omega)
theorem s_within (a b c : Int32) : F_X3_isWithin a b c = some (b2i (decide (b.toInt ≤ a.toInt ∧ a.toInt ≤ c.toInt))) := by
  unfold F_X3_isWithin
  simp only [i32_lt]
  by_cases h1 : a.toInt < b.toInt
  · rw [if_pos h1, decide_eq_false (by omega)]; rfl
  · rw [if_neg h1]
    by_cases h2 : c.toInt < a.toInt
    · rw [if_pos h2, decide_eq_false (by omega)]; rfl
    · rw [if_neg h2, decide_eq_true (by omega)]; rfl
section MS
variable {τ : Mem × Int64}
theorem m_sub {a b : Int32} {B C : Int} (ha : -B ≤ a.toInt ∧ a.toInt ≤ B) (hb : -C ≤ b.toInt ∧ b.toInt ≤ C) (h : B + C < 2147483648) : (a - b).toInt = a.toInt - b.toInt := fb_subI (by omega) (by omega)
/-- the reference's numbers of the crossing of w by q -/
def nA (z : Zf) (w : Nat) : Option Nat → Int32
  | none => 0
  | some q => z (20 + 4 * w + 1) - z (20 + 4 * q + 1)
def nB (z : Zf) (w : Nat) : Option Nat → Int32
  | none => 0
  | some q => z (20 + 4 * q + 2) - z (20 + 4 * w + 2)
theorem nAB {z : Zf} (hz : zOK z) {w q : Nat} (hw : w < 16) (hq : q < 16) : (nA z w (some q)).toInt = vv z w - vv z q ∧ (nB z w (some q)).toInt = sp z q - sp z w ∧ -4000000 ≤ vv z w - vv z q ∧ vv z w - vv z q ≤ 4000000 ∧ -198 ≤ sp z q - sp z w ∧ sp z q - sp z w ≤ 198 := by
  have v1 := hz.v hw
  have v2 := hz.v hq
  have u1 := hz.s hw
  have u2 := hz.s hq
  have v1' := v1
  have v2' := v2
  have u1' := u1
  have u2' := u2
  unfold vv at v1' v2'
  unfold sp at u1' u2'
  refine ⟨?_, ?_, by omega, by omega, by omega, by omega⟩
  · unfold nA; rw [m_sub (B := 2000000) (C := 2000000) (by omega) (by omega) (by decide)]; rfl
  · unfold nB; rw [m_sub (B := 99) (C := 99) (by omega) (by omega) (by decide)]; rfl
theorem snr_tie {z : Zf} {w k q : Nat} (h : (vv z w - vv z k) * (sp z q - sp z w) = (vv z w - vv z q) * (sp z k - sp z w)) : snr z w k q = ah z (vv z w - vv z k) (sp z k - sp z w) k q := by
  have e1 : pos z (vv z w - vv z k) (sp z k - sp z w) k - pos z (vv z w - vv z k) (sp z k - sp z w) w = 0 := by
    rw [pos_sub]
    have : vv z k - vv z w = -(vv z w - vv z k) := by omega
    rw [this, Int.neg_mul, Int.mul_comm (sp z k - sp z w)]; omega
  have e2 : pos z (vv z w - vv z k) (sp z k - sp z w) w - pos z (vv z w - vv z k) (sp z k - sp z w) q = 0 := by
    rw [pos_sub]
    have : sp z w - sp z q = -(sp z q - sp z w) := by omega
    rw [this, Int.neg_mul, Int.mul_comm (sp z q - sp z w)]; omega
  have e3 : pos z (vv z w - vv z k) (sp z k - sp z w) k = pos z (vv z w - vv z k) (sp z k - sp z w) q := by omega
  unfold snr ah lx
  simp only [h, Int.sub_self, ne_eq, not_true_eq_false, if_false, e3]
end MS
