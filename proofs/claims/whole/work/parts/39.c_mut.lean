/-! calls that change the state: add, remove, speed, jump, set -/
theorem s_isSlot (a : Int32) : F_X3_isSlot a = some (b2i (decide ((0 : Int32).toInt ≤ a.toInt ∧ a.toInt ≤ (15 : Int32).toInt))) := by
  unfold F_X3_isSlot; rw [s_within]; rfl
theorem s_isSlotN {i : Nat} (h : i < 16) : F_X3_isSlot (nI i) = some 1 := by
  rw [s_isSlot, decide_eq_true]
  · rfl
  · rw [nI_toInt (by omega), show (0 : Int32).toInt = 0 from by decide, show (15 : Int32).toInt = 15 from by decide]; omega
theorem s_isSpeedX (a : Int32) : F_X3_isSpeed a = some (b2i (decide ((-99 : Int32).toInt ≤ a.toInt ∧ a.toInt ≤ (99 : Int32).toInt))) := by
  unfold F_X3_isSpeed; rw [s_within]; rfl
theorem m_isSpeedX (a : Int32) : F_X4_isSpeed a = some (b2i (decide ((-99 : Int32).toInt ≤ a.toInt ∧ a.toInt ≤ (99 : Int32).toInt))) := by
  unfold F_X4_isSpeed; rw [m_in]; rfl
theorem m_isValueX (a : Int32) : F_X4_isValue a = some (b2i (decide ((-9999 : Int32).toInt ≤ a.toInt ∧ a.toInt ≤ (9999 : Int32).toInt))) := by
  unfold F_X4_isValue; rw [m_in]; rfl
/-- another row of a slot -/
theorem zOK_row {z z' : Zf} {i : Nat} (hz : zOK z) (hl : ∀ k, k < 3 → z' k = z k) (ho : ∀ k j, k < 16 → k ≠ i → j < 4 → z' (20 + 4 * k + j) = z (20 + 4 * k + j)) (h0 : z' (20 + 4 * i) = 0 ∨ z' (20 + 4 * i) = 1) (h1 : -1000000 ≤ (z' (20 + 4 * i + 1)).toInt ∧ (z' (20 + 4 * i + 1)).toInt ≤ 1000000 ∨ z' (20 + 4 * i + 1) = z (20 + 4 * i + 1)) (h2 : -99 ≤ (z' (20 + 4 * i + 2)).toInt ∧ (z' (20 + 4 * i + 2)).toInt ≤ 99) (hi : i < 16) : zOK z' := by
  have e0 := hl 0 (by omega)
  have ht := hz.2.2.2.2.1
  refine ⟨fun k hk => ?_, fun k hk => ?_, fun k hk => ?_, ?_, ?_, ?_⟩
  · by_cases e : k = i
    · subst e; exact h0
    · have := ho k 0 hk e (by omega)
      rw [Nat.add_zero] at this
      rw [this]; exact hz.1 k hk
  · unfold vv
    rw [e0]
    by_cases e : k = i
    · subst e
      rcases h1 with h1 | h1
      · omega
      · rw [h1]; exact hz.2.1 k hk
    · rw [ho k 1 hk e (by omega)]; exact hz.2.1 k hk
  · unfold sp
    by_cases e : k = i
    · subst e; exact h2
    · rw [ho k 2 hk e (by omega)]; exact hz.2.2.1 k hk
  · rw [hl 1 (by omega)]; exact hz.2.2.2.1
  · rw [e0]; exact ht
  · rw [hl 2 (by omega)]; exact hz.2.2.2.2.2
def putZ (z : Zf) (i : Nat) (a b c d : Int32) : Zf := up1 (up1 (up1 (up1 z (20 + 4 * i + 0) a) (20 + 4 * i + 1) b) (20 + 4 * i + 2) c) (20 + 4 * i + 3) d
theorem putZ_ok {z : Zf} {i : Nat} {a b c d : Int32} (hz : zOK z) (hi : i < 16) (ha : a = 0 ∨ a = 1) (hb : -1000000 ≤ b.toInt ∧ b.toInt ≤ 1000000) (hc : -99 ≤ c.toInt ∧ c.toInt ≤ 99) : zOK (putZ z i a b c d) := by
  refine zOK_row (i := i) hz (fun k hk => ?_) (fun k j hk hki hj => ?_) ?_ ?_ ?_ hi
  · unfold putZ up1
    rw [if_neg (by omega), if_neg (by omega), if_neg (by omega), if_neg (by omega)]
  · unfold putZ up1
    rw [if_neg (by omega), if_neg (by omega), if_neg (by omega), if_neg (by omega)]
  · unfold putZ up1
    rw [if_neg (by omega), if_neg (by omega), if_neg (by omega), if_pos (by omega)]; exact ha
  · unfold putZ up1
    rw [if_neg (by omega), if_neg (by omega), if_pos rfl]; exact Or.inl hb
  · unfold putZ up1
    rw [if_neg (by omega), if_pos rfl]; exact hc
theorem s_row4 (σ : Mem) {i : Nat} (hi : i < 16) (a b c d : Int32) : zv (up2 (up2 (up2 (up2 σ 7 i a) 8 i b) 9 i c) 10 i d) 6 = putZ (zv σ 6) i a b c d ∧ ∀ x, x < 6 ∨ 12 ≤ x → (up2 (up2 (up2 (up2 σ 7 i a) 8 i b) 9 i c) 10 i d) x = σ x := by
  refine ⟨?_, fun x hx => ?_⟩
  · rw [zv_up_s _ 6 (k := i) (j := 3) hi (by omega) rfl, zv_up_s _ 6 (k := i) (j := 2) hi (by omega) rfl, zv_up_s _ 6 (k := i) (j := 1) hi (by omega) rfl, zv_up_s _ 6 (k := i) (j := 0) hi (by omega) rfl]; rfl
  · rw [up2_ne _ (x := 10) (y := x) (by omega), up2_ne _ (x := 9) (y := x) (by omega), up2_ne _ (x := 8) (y := x) (by omega), up2_ne _ (x := 7) (y := x) (by omega)]
theorem m_row4 (τ : Mem × Int64) {i : Nat} (hi : i < 16) (a b c d : Int32) : mz (up2 (up2 (up2 (up2 τ.1 1 (20 + 4 * i) a) 1 (20 + 4 * i + 1) b) 1 (20 + 4 * i + 2) c) 1 (20 + 4 * i + 3) d, τ.2) = putZ (mz τ) i a b c d := by
  have h3 := mz_up (up2 (up2 (up2 τ.1 1 (20 + 4 * i) a) 1 (20 + 4 * i + 1) b) 1 (20 + 4 * i + 2) c, τ.2) (k := i) (j := 3) (v := d) hi (by omega)
  have h2 := mz_up (up2 (up2 τ.1 1 (20 + 4 * i) a) 1 (20 + 4 * i + 1) b, τ.2) (k := i) (j := 2) (v := c) hi (by omega)
  have h1 := mz_up (up2 τ.1 1 (20 + 4 * i) a, τ.2) (k := i) (j := 1) (v := b) hi (by omega)
  have h0 := mz_up τ (k := i) (j := 0) (v := a) hi (by omega)
  rw [Nat.add_zero] at h0
  refine h3.trans ?_
  rw [h2, h1, h0]; rfl
/-- the reference's own parts outside the row stay -/
def Off1 (τ τ' : Mem × Int64) : Prop := ∀ x, x ≠ 1 → τ'.1 x = τ.1 x
theorem RS.row {σ σ' : Mem} {τ τ' : Mem × Int64} (h : RS σ τ) (hs : ∀ x, x < 6 ∨ 12 ≤ x → σ' x = σ x) (ho : Off1 τ τ') (hz : zv σ' 6 = mz τ') (hok : zOK (mz τ')) : RS σ' τ' :=
  h.mod hs (ho 2 (by omega)) (ho 3 (by omega)) (by rw [ho 0 (by omega)]) (by rw [ho 0 (by omega)]) hz hok
theorem m_addNow {τ : Mem × Int64} {i : Nat} (a b : Int32) (hf : fsl (mz τ) 16 0 = some i) : ∃ τ', F_X4_addNow a b τ = some (nI i, τ') ∧ Off1 τ τ' ∧ mz τ' = putZ (mz τ) i 1 a b (mz τ 0) ∧ τ'.2 = τ.2 := by
  obtain ⟨-, hi, -⟩ := fsl_some 16 0 i hf
  have hi : i < 16 := by omega
  have e0 : (up2 (up2 (up2 τ.1 1 (20 + 4 * i) 1) 1 (20 + 4 * i + 1) a) 1 (20 + 4 * i + 2) b) 1 0 = mz τ 0 := by
    unfold up2
    rw [if_neg (by omega), if_neg (by omega), if_neg (by omega)]; rfl
  refine ⟨(up2 (up2 (up2 (up2 τ.1 1 (20 + 4 * i) 1) 1 (20 + 4 * i + 1) a) 1 (20 + 4 * i + 2) b) 1 (20 + 4 * i + 3) (mz τ 0), τ.2), ?_, fun x hx => ?_, m_row4 τ hi 1 a b (mz τ 0), rfl⟩
  · unfold F_X4_addNow
    rw [m_free, hf, Option.bind_some]
    have he : enc (some i) = nI i := rfl
    rw [he]
    simp only [m_at, Option.bind_some, (m_idx0 hi).1, (m_idx0 hi).2, (m_idx1 hi).1, (m_idx1 hi).2, (m_idx2 hi).1, (m_idx2 hi).2, (m_idx3 hi).1, (m_idx3 hi).2, if_true, e0]
  · show (up2 (up2 (up2 (up2 τ.1 1 _ _) 1 _ _) 1 _ _) 1 _ _) x = _
    rw [up2_ne _ (x := 1) (y := x) hx, up2_ne _ (x := 1) (y := x) hx, up2_ne _ (x := 1) (y := x) hx, up2_ne _ (x := 1) (y := x) hx]
theorem s_put {σ : Mem} {i : Nat} (hi : i < 16) (a b : Int32) : ∃ σ', F_X1_put 6 (nI i) a b σ = some σ' ∧ zv σ' 6 = putZ (zv σ 6) i 1 a b (zv σ 6 0) ∧ ∀ x, x < 6 ∨ 12 ≤ x → σ' x = σ x := by
  have hin : inb (nI i) 16 = true := inb_nI hi (by decide)
  have e0 : (up2 (up2 (up2 σ 7 i 1) 8 i a) 9 i b) 6 5 = zv σ 6 0 := by
    rw [up2_ne _ (x := 9) (y := 6) (by omega), up2_ne _ (x := 8) (y := 6) (by omega), up2_ne _ (x := 7) (y := 6) (by omega)]; rfl
  obtain ⟨q1, q2⟩ := s_row4 σ hi 1 a b (zv σ 6 0)
  refine ⟨_, ?_, q1, q2⟩
  unfold F_X1_put
  rw [s_isSlotN hi, Option.bind_some, if_neg (by decide), if_pos hin, if_pos hin, if_pos hin, if_pos hin, nI_clamp (by omega), show vp_nar .boolean (1 : Int32) = 1 from rfl]
  show some (up2 (up2 (up2 (up2 σ 7 i 1) 8 i a) 9 i b) 10 i ((up2 (up2 (up2 σ 7 i 1) 8 i a) 9 i b) 6 5)) = _
  rw [e0]
theorem s_put0 {σ : Mem} {i : Nat} (hi : i < 16) : ∃ σ', F_X1_free 6 (nI i) σ = some σ' ∧ zv σ' 6 = putZ (zv σ 6) i 0 0 0 0 ∧ ∀ x, x < 6 ∨ 12 ≤ x → σ' x = σ x := by
  have hin : inb (nI i) 16 = true := inb_nI hi (by decide)
  obtain ⟨q1, q2⟩ := s_row4 σ hi 0 0 0 0
  refine ⟨_, ?_, q1, q2⟩
  unfold F_X1_free
  rw [s_isSlotN hi, Option.bind_some, if_neg (by decide), if_pos hin, if_pos hin, if_pos hin, if_pos hin, nI_clamp (by omega), show vp_nar .boolean (0 : Int32) = 0 from rfl]
theorem KeepS.five {τ τ' : Mem × Int64} (h : KeepS (t0 τ) τ') : τ'.1 0 5 = 0 := (h.2.1 5 (by omega)).trans (t0_5 τ)
theorem KeepS.mz {τ τ' : Mem × Int64} (h : KeepS τ τ') : mz τ' = mz τ := mz_cong (h.1 1 (by omega) (by omega))
theorem up_off (τ : Mem × Int64) (k : Nat) (v : Int32) : Off1 τ (up2 τ.1 1 k v, τ.2) := fun x hx => up2_ne _ (x := 1) (y := x) hx
theorem o_add {σ : Mem} {τ : Mem × Int64} (R : Rel σ τ) (a b : Int32) : ∃ res v τ', F_X3_add a b σ = some res ∧ F_X4_add a b τ = some (v, τ') ∧ AgM [(0, 1), (1, 2)] res σ τ v τ' := by
  have hzz : mz (t0 τ) = zv σ 6 := by rw [t0_mz, ← R.1]
  have RS0 : RS σ (t0 τ) := R.rs.k5 (t0_k5 τ)
  unfold F_X4_add F_X3_add
  rw [show (up2 τ.1 0 5 (0 : Int32), τ.2) = t0 τ from rfl, m_isValueX, s_within, Option.bind_some, Option.bind_some]
  by_cases ha : (-9999 : Int32).toInt ≤ a.toInt ∧ a.toInt ≤ (9999 : Int32).toInt
  · rw [decide_eq_true ha, if_b1, if_b1, m_isSpeedX, s_isSpeedX, Option.bind_some, Option.bind_some]
    by_cases hb : (-99 : Int32).toInt ≤ b.toInt ∧ b.toInt ≤ (99 : Int32).toInt
    · rw [decide_eq_true hb, if_c1, if_c1, m_free, s_free R.2.1.1, hzz, Option.bind_some, Option.bind_some]
      cases hf : fsl (zv σ 6) 16 0 with
      | none =>
        obtain ⟨τ', e, K, h5⟩ := m_fails τ 2
        refine ⟨.inl 1, 0, τ', by rw [if_neg (fun q : ¬ enc none = -1 => q rfl)], by rw [if_neg (fun q : ¬ enc none = -1 => q rfl), e]; rfl, ?_, K.rel R⟩
        rw [h5]; exact List.mem_cons_of_mem _ (List.mem_cons_self ..)
      | some i =>
        obtain ⟨-, hi, -⟩ := fsl_some 16 0 i hf
        have hi : i < 16 := by omega
        have hne : ¬ enc (some i) = -1 := nI_ne_m1 (by omega)
        obtain ⟨σ1, τ1, s1, s2, RS1, -, K1⟩ := save_ok RS0
        have z1 : zv σ1 6 = zv σ 6 := RS1.1.trans (K1.mz.trans hzz)
        obtain ⟨τ2, a1, a2, a3, a4⟩ := m_addNow (τ := τ1) a b (by rw [K1.mz, hzz]; exact hf)
        obtain ⟨σ2, p1, p2, p3⟩ := s_put (σ := σ1) hi a b
        have h5 : τ2.1 0 5 = 0 := by rw [a2 0 (by omega)]; exact K1.five
        have RS2 : RS σ2 τ2 := RS1.row p3 a2 (by rw [p2, a3, RS1.1]) (by
          rw [a3]
          refine putZ_ok (by rw [← RS1.1]; exact RS1.2.1) hi (Or.inr rfl) ?_ hb
          have : (-9999 : Int32).toInt = -9999 := by decide
          have : (9999 : Int32).toInt = 9999 := by decide
          omega)
        obtain ⟨σ3, f1, R3, -⟩ := RS2.fin
        refine ⟨.inr (nI i, σ3), nI i, τ2, ?_, ?_, h5, rfl, R3⟩
        · rw [if_pos hne, s1, Option.bind_some]
          show inR (Option.bind (F_X1_put 6 (nI i) a b σ1) _) = _
          rw [p1, Option.bind_some, f1]; rfl
        · rw [if_pos hne, s2, Option.bind_some, a1]; rfl
    · obtain ⟨τ', e, K, h5⟩ := m_fails τ 1
      refine ⟨.inl 0, 0, τ', by rw [decide_eq_false hb, if_c0], by rw [decide_eq_false hb, if_c0, e]; rfl, ?_, K.rel R⟩
      rw [h5]; exact List.mem_cons_self ..
  · obtain ⟨τ', e, K, h5⟩ := m_fails τ 1
    refine ⟨.inl 0, 0, τ', by rw [decide_eq_false ha, if_b0], by rw [decide_eq_false ha, if_b0, e]; rfl, ?_, K.rel R⟩
    rw [h5]; exact List.mem_cons_self ..
theorem m_zero4 (τ : Mem × Int64) {i : Nat} (hi : i < 16) (a2 : Int32) (fu : Nat) : L_X4_remove_37 (nI i) a2 (fu + 5) 0 τ = some (up2 (up2 (up2 (up2 τ.1 1 (20 + 4 * i) 0) 1 (20 + 4 * i + 1) 0) 1 (20 + 4 * i + 2) 0) 1 (20 + 4 * i + 3) 0, τ.2) := by
  have e0 : nI (20 + 4 * i) + (0 : Int32) = nI (20 + 4 * i) := by simp
  rw [L_X4_remove_37, if_neg (by decide), m_at, Option.bind_some, e0, if_pos (m_idx0 hi).1, (m_idx0 hi).2]
  rw [show (0 : Int32) + 1 = 1 from rfl, L_X4_remove_37, if_neg (by decide), m_at, Option.bind_some, if_pos (m_idx1 hi).1, (m_idx1 hi).2]
  rw [show (1 : Int32) + 1 = 2 from rfl, L_X4_remove_37, if_neg (by decide), m_at, Option.bind_some, if_pos (m_idx2 hi).1, (m_idx2 hi).2]
  rw [show (2 : Int32) + 1 = 3 from rfl, L_X4_remove_37, if_neg (by decide), m_at, Option.bind_some, if_pos (m_idx3 hi).1, (m_idx3 hi).2]
  rw [show (3 : Int32) + 1 = 4 from rfl, L_X4_remove_37, if_pos (by decide)]
theorem o_remove {σ : Mem} {τ : Mem × Int64} (R : Rel σ τ) (a : Int32) : ∃ res v τ', F_X3_remove a σ = some res ∧ F_X4_remove a τ = some (v, τ') ∧ AgM [(2, 1)] res σ τ v τ' := by
  have hzz : mz (t0 τ) = zv σ 6 := by rw [t0_mz, ← R.1]
  have RS0 : RS σ (t0 τ) := R.rs.k5 (t0_k5 τ)
  unfold F_X4_remove F_X3_remove
  rw [show (up2 τ.1 0 5 (0 : Int32), τ.2) = t0 τ from rfl, m_isMover, hzz, s_hasX R.2.1.1, Option.bind_some, Option.bind_some]
  cases hA : hasA (zv σ 6) a with
  | false =>
    obtain ⟨τ', e, K, h5⟩ := m_fails τ 1
    refine ⟨.inl 2, 0, τ', by rw [if_c0], by rw [if_c0, e]; rfl, ?_, K.rel R⟩
    rw [h5]; exact List.mem_cons_self ..
  | true =>
    obtain ⟨i, hi, rfl, ht⟩ := hasA_some hA
    obtain ⟨σ1, τ1, s1, s2, RS1, -, K1⟩ := save_ok RS0
    have z1 : zv σ1 6 = zv σ 6 := RS1.1.trans (K1.mz.trans hzz)
    obtain ⟨σ2, p1, p2, p3⟩ := s_put0 (σ := σ1) hi
    have hv : σ1 8 i = τ1.1 1 (20 + 4 * i + 1) := by
      have h1 : zv σ1 6 (20 + 4 * i + 1) = σ1 8 i := zv_s σ1 6 hi (j := 1) (by omega)
      rw [← h1, RS1.1, mz_s τ1 hi (by omega)]
    obtain ⟨τ2, hτ2⟩ : ∃ t : Mem × Int64, t = (up2 (up2 (up2 (up2 τ1.1 1 (20 + 4 * i) 0) 1 (20 + 4 * i + 1) 0) 1 (20 + 4 * i + 2) 0) 1 (20 + 4 * i + 3) 0, τ1.2) := ⟨_, rfl⟩
    have hz2 : mz τ2 = putZ (mz τ1) i 0 0 0 0 := by rw [hτ2]; exact m_row4 τ1 hi 0 0 0 0
    have ho2 : Off1 τ1 τ2 := fun x hx => by
      rw [hτ2]
      show (up2 (up2 (up2 (up2 τ1.1 1 _ _) 1 _ _) 1 _ _) 1 _ _) x = _
      rw [up2_ne _ (x := 1) (y := x) hx, up2_ne _ (x := 1) (y := x) hx, up2_ne _ (x := 1) (y := x) hx, up2_ne _ (x := 1) (y := x) hx]
    have h5 : τ2.1 0 5 = 0 := by rw [ho2 0 (by omega)]; exact K1.five
    have RS2 : RS σ2 τ2 := RS1.row p3 ho2 (by rw [p2, hz2, RS1.1]) (by
      rw [hz2]
      exact putZ_ok (by rw [← RS1.1]; exact RS1.2.1) hi (Or.inl rfl) (by decide) (by decide))
    obtain ⟨σ3, f1, R3, -⟩ := RS2.fin
    refine ⟨.inr (σ1 8 i, σ3), σ1 8 i, τ2, ?_, ?_, h5, rfl, R3⟩
    · rw [if_c1, s1, Option.bind_some, s_value hi, Option.bind_some, p1, Option.bind_some, f1]; rfl
    · rw [if_c1, s2, Option.bind_some, m_at, Option.bind_some, if_pos (m_idx1 hi).1, (m_idx1 hi).2, show FU = 995 + 5 from rfl, m_zero4 τ1 hi, Option.bind_some, ← hτ2, hv]
theorem o_speed {σ : Mem} {τ : Mem × Int64} (R : Rel σ τ) (a b : Int32) : ∃ res v τ', F_X3_speed a b σ = some res ∧ F_X4_speed a b τ = some (v, τ') ∧ AgM [(2, 1), (0, 2)] res σ τ v τ' := by
  have hzz : mz (t0 τ) = zv σ 6 := by rw [t0_mz, ← R.1]
  have RS0 : RS σ (t0 τ) := R.rs.k5 (t0_k5 τ)
  unfold F_X4_speed F_X3_speed
  rw [show (up2 τ.1 0 5 (0 : Int32), τ.2) = t0 τ from rfl, m_isMover, hzz, s_hasX R.2.1.1, Option.bind_some, Option.bind_some]
  cases hA : hasA (zv σ 6) a with
  | false =>
    obtain ⟨τ', e, K, h5⟩ := m_fails τ 1
    refine ⟨.inl 2, 0, τ', by rw [if_c0], by rw [if_c0, e]; rfl, ?_, K.rel R⟩
    rw [h5]; exact List.mem_cons_self ..
  | true =>
    obtain ⟨i, hi, rfl, ht⟩ := hasA_some hA
    rw [if_c1, if_c1, m_isSpeedX, s_isSpeedX, Option.bind_some, Option.bind_some]
    by_cases hb : (-99 : Int32).toInt ≤ b.toInt ∧ b.toInt ≤ (99 : Int32).toInt
    · obtain ⟨σ1, τ1, s1, s2, RS1, -, K1⟩ := save_ok RS0
      have hv : σ1 9 i = τ1.1 1 (20 + 4 * i + 2) := by
        have h1 : zv σ1 6 (20 + 4 * i + 2) = σ1 9 i := zv_s σ1 6 hi (j := 2) (by omega)
        rw [← h1, RS1.1, mz_s τ1 hi (by omega)]
      have hz1 : zOK (mz τ1) := by rw [← RS1.1]; exact RS1.2.1
      have hm : mz (up2 τ1.1 1 (20 + 4 * i + 2) b, τ1.2) = up1 (mz τ1) (20 + 4 * i + 2) b := mz_up τ1 hi (by omega)
      have ho2 := up_off τ1 (20 + 4 * i + 2) b
      have h5 : (up2 τ1.1 1 (20 + 4 * i + 2) b, τ1.2).1 0 5 = 0 := by rw [ho2 0 (by omega)]; exact K1.five
      have RS2 : RS (up2 σ1 9 i b) (up2 τ1.1 1 (20 + 4 * i + 2) b, τ1.2) := RS1.row (fun x hx => up2_ne _ (x := 9) (y := x) (by omega)) ho2 (by rw [hm, zv_up_s σ1 6 (k := i) (j := 2) hi (by omega) rfl, RS1.1]) (by
        rw [hm]; exact zOK_sp hz1 hb)
      obtain ⟨σ3, f1, R3, -⟩ := RS2.fin
      refine ⟨.inr (σ1 9 i, σ3), σ1 9 i, _, ?_, ?_, h5, rfl, R3⟩
      · rw [decide_eq_true hb, if_c1, s1, Option.bind_some, s_speed hi, Option.bind_some]
        unfold F_X1_changeSpeed
        rw [s_isSlotN hi, Option.bind_some, if_neg (by decide), if_pos (inb_nI hi (by decide)), nI_clamp (by omega), Option.bind_some, f1]; rfl
      · rw [decide_eq_true hb, if_c1, s2, Option.bind_some]
        simp only [m_at, Option.bind_some, (m_idx2 hi).1, (m_idx2 hi).2, if_true, hv]
    · obtain ⟨τ', e, K, h5⟩ := m_fails τ 2
      refine ⟨.inl 0, 0, τ', by rw [decide_eq_false hb, if_c0], by rw [decide_eq_false hb, if_c0, e]; rfl, ?_, K.rel R⟩
      rw [h5]; exact List.mem_cons_of_mem _ (List.mem_cons_self ..)
theorem zOK_va {z : Zf} {i : Nat} {s : Int32} (hz : zOK z) (hi : i < 16) (hs : -1000000 ≤ s.toInt ∧ s.toInt ≤ 1000000) : zOK (up1 z (20 + 4 * i + 1) s) := by
  refine zOK_row (i := i) hz (fun k hk => ?_) (fun k j hk hki hj => ?_) ?_ ?_ ?_ hi
  · unfold up1; rw [if_neg (by omega)]
  · unfold up1; rw [if_neg (by omega)]
  · have := hz.1 i hi
    unfold up1; rw [if_neg (by omega)]; exact this
  · unfold up1; rw [if_pos rfl]; exact Or.inl hs
  · have := hz.2.2.1 i hi
    unfold up1; rw [if_neg (by omega)]; exact this
theorem o_jump {σ : Mem} {τ : Mem × Int64} (R : Rel σ τ) (a b : Int32) : ∃ res v τ', F_X3_jump a b σ = some res ∧ F_X4_jump a b τ = some (v, τ') ∧ AgM [(2, 1), (0, 2), (1, 3)] res σ τ v τ' := by
  have hzz : mz (t0 τ) = zv σ 6 := by rw [t0_mz, ← R.1]
  have RS0 : RS σ (t0 τ) := R.rs.k5 (t0_k5 τ)
  unfold F_X4_jump F_X3_jump
  rw [show (up2 τ.1 0 5 (0 : Int32), τ.2) = t0 τ from rfl, m_isMover, hzz, s_hasX R.2.1.1, Option.bind_some, Option.bind_some]
  cases hA : hasA (zv σ 6) a with
  | false =>
    obtain ⟨τ', e, K, h5⟩ := m_fails τ 1
    refine ⟨.inl 2, 0, τ', by rw [if_c0], by rw [if_c0, e]; rfl, ?_, K.rel R⟩
    rw [h5]; exact List.mem_cons_self ..
  | true =>
    obtain ⟨i, hi, rfl, ht⟩ := hasA_some hA
    rw [if_c1, if_c1, m_isValueX, s_within, Option.bind_some, Option.bind_some]
    by_cases hb : (-9999 : Int32).toInt ≤ b.toInt ∧ b.toInt ≤ (9999 : Int32).toInt
    · have hv0 : (up2 τ.1 0 5 (0 : Int32)) 1 (20 + 4 * i + 1) = σ 8 i := by
        have h1 : zv σ 6 (20 + 4 * i + 1) = σ 8 i := zv_s σ 6 hi (j := 1) (by omega)
        rw [← h1, ← hzz, mz_s (t0 τ) hi (by omega)]; rfl
      rw [decide_eq_true hb, if_c1, if_c1, s_value hi, Option.bind_some, m_at, Option.bind_some, if_pos (m_idx1 hi).1, (m_idx1 hi).2, hv0, m_in, s_within, Option.bind_some, Option.bind_some]
      by_cases hs : (-1000000 : Int32).toInt ≤ (σ (6 + 2) i + b).toInt ∧ (σ (6 + 2) i + b).toInt ≤ (1000000 : Int32).toInt
      · obtain ⟨σ1, τ1, s1, s2, RS1, -, K1⟩ := save_ok RS0
        have hz1 : zOK (mz τ1) := by rw [← RS1.1]; exact RS1.2.1
        have hm : mz (up2 τ1.1 1 (20 + 4 * i + 1) (σ 8 i + b), τ1.2) = up1 (mz τ1) (20 + 4 * i + 1) (σ 8 i + b) := mz_up τ1 hi (by omega)
        have ho2 := up_off τ1 (20 + 4 * i + 1) (σ 8 i + b)
        have h5 : (up2 τ1.1 1 (20 + 4 * i + 1) (σ 8 i + b), τ1.2).1 0 5 = 0 := by rw [ho2 0 (by omega)]; exact K1.five
        have RS2 : RS (up2 σ1 8 i (σ 8 i + b)) (up2 τ1.1 1 (20 + 4 * i + 1) (σ 8 i + b), τ1.2) := RS1.row (fun x hx => up2_ne _ (x := 8) (y := x) (by omega)) ho2 (by rw [hm, zv_up_s σ1 6 (k := i) (j := 1) hi (by omega) rfl, RS1.1]) (by
          rw [hm]; exact zOK_va hz1 hi hs)
        obtain ⟨σ3, f1, R3, -⟩ := RS2.fin
        refine ⟨.inr (σ 8 i + b, σ3), σ 8 i + b, _, ?_, ?_, h5, rfl, R3⟩
        · rw [decide_eq_true hs, if_c1, s1, Option.bind_some]
          unfold F_X1_changeValue
          rw [s_isSlotN hi, Option.bind_some, if_neg (by decide), if_pos (inb_nI hi (by decide)), nI_clamp (by omega), Option.bind_some]
          show inR (Option.bind (F_X3_foresee (up2 σ1 8 i (σ 8 i + b))) _) = _
          rw [f1]; rfl
        · rw [show σ (6 + 2) i + b = σ 8 i + b from rfl] at hs
          rw [decide_eq_true hs, if_c1, s2, Option.bind_some]
          simp only [m_at, Option.bind_some, (m_idx1 hi).1, (m_idx1 hi).2, if_true]
      · obtain ⟨τ', e, K, h5⟩ := m_fails τ 3
        refine ⟨.inl 1, 0, τ', by rw [decide_eq_false hs, if_c0], ?_, ?_, K.rel R⟩
        · rw [show σ (6 + 2) i + b = σ 8 i + b from rfl] at hs
          rw [decide_eq_false hs, if_c0, e]; rfl
        · rw [h5]; exact List.mem_cons_of_mem _ (List.mem_cons_of_mem _ (List.mem_cons_self ..))
    · obtain ⟨τ', e, K, h5⟩ := m_fails τ 2
      refine ⟨.inl 0, 0, τ', by rw [decide_eq_false hb, if_c0], by rw [decide_eq_false hb, if_c0, e]; rfl, ?_, K.rel R⟩
      rw [h5]; exact List.mem_cons_of_mem _ (List.mem_cons_self ..)
