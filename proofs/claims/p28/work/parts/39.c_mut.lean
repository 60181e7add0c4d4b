/-! calls that change the state: add, remove, speed, jump, set -/
theorem s_isSlot (a : Int32) : F_X3_isSlot a = some (b2i (decide ((0 : Int32).toInt ≤ a.toInt ∧ a.toInt ≤ (15 : Int32).toInt))) := by
  unfold F_X3_isSlot; rw [s_within]; rfl
theorem s_isSlotN {i : Nat} (h : i < 16) : F_X3_isSlot (nI i) = some 1 := by
  rw [s_isSlot, decide_eq_true]
  · rfl
  · rw [nI_toInt (by omega), show (0 : Int32).toInt = 0 from by decide, show (15 : Int32).toInt = 15 from by decide]; omega
theorem s_isSpeedX (a : Int32) : F_X3_isSpeed a = some (b2i (decide ((-99 : Int32).toInt ≤ a.toInt ∧ a.toInt ≤ (99 : Int32).toInt))) := by
  unfold F_X3_isSpeed; rw [s_within]; rfl
/-- another row of a slot -/
theorem zOK_row {z z' : Zf} {i : Nat} (hz : zOK z) (hl : ∀ k, k < 3 → z' k = z k) (ho : ∀ k j, k < 16 → k ≠ i → j < 4 → z' (20 + 4 * k + j) = z (20 + 4 * k + j)) (h0 : z' (20 + 4 * i) = 0 ∨ z' (20 + 4 * i) = 1) (h1 : -1000000 ≤ (z' (20 + 4 * i + 1)).toInt ∧ (z' (20 + 4 * i + 1)).toInt ≤ 1000000 ∨ z' (20 + 4 * i + 1) = z (20 + 4 * i + 1)) (h2 : -99 ≤ (z' (20 + 4 * i + 2)).toInt ∧ (z' (20 + 4 * i + 2)).toInt ≤ 99) (hi : i < 16) : zOK z' := by
  have e0 := hl 0 (by omega)
  have ht := hz.2.2.2.2.1
  refine ⟨fun k hk => ?_, fun k hk => ?_, fun k hk => ?_, ?_, ?_, ?_⟩
  · by_cases e : k = i
    · subst e; exact h0
    · have := ho k 0 hk e (by omega)
      rw [Nat.add_zero] at this
      rw [this]; exact hz.1 k hk
  · unfold vv
    rw [e0]
    by_cases e : k = i
    · subst e
      rcases h1 with h1 | h1
      · omega
      · rw [h1]; exact hz.2.1 k hk
    · rw [ho k 1 hk e (by omega)]; exact hz.2.1 k hk
  · unfold sp
    by_cases e : k = i
    · subst e; exact h2
    · rw [ho k 2 hk e (by omega)]; exact hz.2.2.1 k hk
  · rw [hl 1 (by omega)]; exact hz.2.2.2.1
  · rw [e0]; exact ht
  · rw [hl 2 (by omega)]; exact hz.2.2.2.2.2
def putZ (z : Zf) (i : Nat) (a b c d : Int32) : Zf := up1 (up1 (up1 (up1 z (20 + 4 * i + 0) a) (20 + 4 * i + 1) b) (20 + 4 * i + 2) c) (20 + 4 * i + 3) d
theorem putZ_ok {z : Zf} {i : Nat} {a b c d : Int32} (hz : zOK z) (hi : i < 16) (ha : a = 0 ∨ a = 1) (hb : -1000000 ≤ b.toInt ∧ b.toInt ≤ 1000000) (hc : -99 ≤ c.toInt ∧ c.toInt ≤ 99) : zOK (putZ z i a b c d) := by
  refine zOK_row (i := i) hz (fun k hk => ?_) (fun k j hk hki hj => ?_) ?_ ?_ ?_ hi
  · unfold putZ up1
    rw [if_neg (by omega), if_neg (by omega), if_neg (by omega), if_neg (by omega)]
  · unfold putZ up1
    rw [if_neg (by omega), if_neg (by omega), if_neg (by omega), if_neg (by omega)]
  · unfold putZ up1
    rw [if_neg (by omega), if_neg (by omega), if_neg (by omega), if_pos (by omega)]; exact ha
  · unfold putZ up1
    rw [if_neg (by omega), if_neg (by omega), if_pos rfl]; exact Or.inl hb
  · unfold putZ up1
    rw [if_neg (by omega), if_pos rfl]; exact hc
theorem s_row4 (σ : Mem) {i : Nat} (hi : i < 16) (a b c d : Int32) : zv (up2 (up2 (up2 (up2 σ 7 i a) 8 i b) 9 i c) 10 i d) 6 = putZ (zv σ 6) i a b c d ∧ ∀ x, x < 6 ∨ 12 ≤ x → (up2 (up2 (up2 (up2 σ 7 i a) 8 i b) 9 i c) 10 i d) x = σ x := by
  refine ⟨?_, fun x hx => ?_⟩
  · rw [zv_up_s _ 6 (k := i) (j := 3) hi (by omega) rfl, zv_up_s _ 6 (k := i) (j := 2) hi (by omega) rfl, zv_up_s _ 6 (k := i) (j := 1) hi (by omega) rfl, zv_up_s _ 6 (k := i) (j := 0) hi (by omega) rfl]; rfl
  · rw [up2_ne _ (x := 10) (y := x) (by omega), up2_ne _ (x := 9) (y := x) (by omega), up2_ne _ (x := 8) (y := x) (by omega), up2_ne _ (x := 7) (y := x) (by omega)]
theorem s_put {σ : Mem} {i : Nat} (hi : i < 16) (a b : Int32) : ∃ σ', F_X1_put 6 (nI i) a b σ = some σ' ∧ zv σ' 6 = putZ (zv σ 6) i 1 a b (zv σ 6 0) ∧ ∀ x, x < 6 ∨ 12 ≤ x → σ' x = σ x := by
  have hin : inb (nI i) 16 = true := inb_nI hi (by decide)
  have e0 : (up2 (up2 (up2 σ 7 i 1) 8 i a) 9 i b) 6 5 = zv σ 6 0 := by
    rw [up2_ne _ (x := 9) (y := 6) (by omega), up2_ne _ (x := 8) (y := 6) (by omega), up2_ne _ (x := 7) (y := 6) (by omega)]; rfl
  obtain ⟨q1, q2⟩ := s_row4 σ hi 1 a b (zv σ 6 0)
  refine ⟨_, ?_, q1, q2⟩
  unfold F_X1_put
  rw [s_isSlotN hi, Option.bind_some, if_neg (by decide), if_pos hin, if_pos hin, if_pos hin, if_pos hin, nI_clamp (by omega), show vp_nar .boolean (1 : Int32) = 1 from rfl]
  show some (up2 (up2 (up2 (up2 σ 7 i 1) 8 i a) 9 i b) 10 i ((up2 (up2 (up2 σ 7 i 1) 8 i a) 9 i b) 6 5)) = _
  rw [e0]
theorem s_put0 {σ : Mem} {i : Nat} (hi : i < 16) : ∃ σ', F_X1_free 6 (nI i) σ = some σ' ∧ zv σ' 6 = putZ (zv σ 6) i 0 0 0 0 ∧ ∀ x, x < 6 ∨ 12 ≤ x → σ' x = σ x := by
  have hin : inb (nI i) 16 = true := inb_nI hi (by decide)
  obtain ⟨q1, q2⟩ := s_row4 σ hi 0 0 0 0
  refine ⟨_, ?_, q1, q2⟩
  unfold F_X1_free
  rw [s_isSlotN hi, Option.bind_some, if_neg (by decide), if_pos hin, if_pos hin, if_pos hin, if_pos hin, nI_clamp (by omega), show vp_nar .boolean (0 : Int32) = 0 from rfl]
theorem zOK_va {z : Zf} {i : Nat} {s : Int32} (hz : zOK z) (hi : i < 16) (hs : -1000000 ≤ s.toInt ∧ s.toInt ≤ 1000000) : zOK (up1 z (20 + 4 * i + 1) s) := by
  refine zOK_row (i := i) hz (fun k hk => ?_) (fun k j hk hki hj => ?_) ?_ ?_ ?_ hi
  · unfold up1; rw [if_neg (by omega)]
  · unfold up1; rw [if_neg (by omega)]
  · have := hz.1 i hi
    unfold up1; rw [if_neg (by omega)]; exact this
  · unfold up1; rw [if_pos rfl]; exact Or.inl hs
  · have := hz.2.2.1 i hi
    unfold up1; rw [if_neg (by omega)]; exact this
