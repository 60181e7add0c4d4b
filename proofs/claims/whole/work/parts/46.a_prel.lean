theorem p_add {l : Launch} (hlt : l.stackTraces = false) {D : va_G} {ay : Nat → ClassId} {ad : Nat → Nat} {oa : Nat} {sd : Nat → Nat} (hI : adOK ad) (ho : ¬ AC ad oa) {σ : Mem} {τ : Mem × Int64} (R : Rel σ τ) (ov : Int64) (a1 : Int32) (a2 : Int32) : ∃ (kc : Int32) (σ' : Mem) (ov' : Int64) (mc : Nat) (v : Int32) (τ' : Mem × Int64), mc ≤ 1 ∧ Met l yL_add wsL_add ({ frames := 7, cells := mc, slots := 6 * mc, locals := 148 } : Room) (va_Pc [.ref (ad 0), .int a1, .int a2, .ref oa] (fun U => PP D ay (wL ay ad oa (σ, ov)) U ∧ TX (A2 ad oa) sd U)) (va_Qi (pE (kc, (σ', ov'))) (fun u => PP D ay (wL ay ad oa u)) (A2 ad oa)) mc (6 * mc) (A2 ad oa) ∧ F_X4_add a1 a2 τ = some (v, τ') ∧ τ'.1 0 5 = kc ∧ (kc = 0 → ov' = v.toInt64) ∧ Rel σ' τ' := by
  obtain ⟨res, v, τ', hX, hM, hA⟩ := o_add R a1 a2 
  rcases res with k | r
  · obtain ⟨hm, hR⟩ := hA
    rcases List.mem_cons.mp hm with h | hm
    · obtain ⟨rfl, h5⟩ := Prod.mk.inj h
      exact ⟨1, σ, ov, 1, v, τ', Nat.le_refl _, e_add_0 hlt hI ho hX, hM, h5, (fun q => absurd q (by decide)), hR⟩
    rcases List.mem_cons.mp hm with h | hm
    · obtain ⟨rfl, h5⟩ := Prod.mk.inj h
      exact ⟨2, σ, ov, 1, v, τ', Nat.le_refl _, e_add_1 hlt hI ho hX, hM, h5, (fun q => absurd q (by decide)), hR⟩
    exact absurd hm List.not_mem_nil
  · obtain ⟨h5, hb, hR⟩ := hA
    exact ⟨0, r.2, r.1.toInt64, 0, v, τ', Nat.zero_le _, e_add_r hI ho hX, hM, h5, (fun _ => by rw [hb]), hR⟩
theorem p_remove {l : Launch} (hlt : l.stackTraces = false) {D : va_G} {ay : Nat → ClassId} {ad : Nat → Nat} {oa : Nat} {sd : Nat → Nat} (hI : adOK ad) (ho : ¬ AC ad oa) {σ : Mem} {τ : Mem × Int64} (R : Rel σ τ) (ov : Int64) (a1 : Int32) : ∃ (kc : Int32) (σ' : Mem) (ov' : Int64) (mc : Nat) (v : Int32) (τ' : Mem × Int64), mc ≤ 1 ∧ Met l yL_remove wsL_remove ({ frames := 7, cells := mc, slots := 6 * mc, locals := 147 } : Room) (va_Pc [.ref (ad 0), .int a1, .ref oa] (fun U => PP D ay (wL ay ad oa (σ, ov)) U ∧ TX (A2 ad oa) sd U)) (va_Qi (pE (kc, (σ', ov'))) (fun u => PP D ay (wL ay ad oa u)) (A2 ad oa)) mc (6 * mc) (A2 ad oa) ∧ F_X4_remove a1 τ = some (v, τ') ∧ τ'.1 0 5 = kc ∧ (kc = 0 → ov' = v.toInt64) ∧ Rel σ' τ' := by
  obtain ⟨res, v, τ', hX, hM, hA⟩ := o_remove R a1 
  rcases res with k | r
  · obtain ⟨hm, hR⟩ := hA
    rcases List.mem_cons.mp hm with h | hm
    · obtain ⟨rfl, h5⟩ := Prod.mk.inj h
      exact ⟨1, σ, ov, 1, v, τ', Nat.le_refl _, e_remove_2 hlt hI ho hX, hM, h5, (fun q => absurd q (by decide)), hR⟩
    exact absurd hm List.not_mem_nil
  · obtain ⟨h5, hb, hR⟩ := hA
    exact ⟨0, r.2, r.1.toInt64, 0, v, τ', Nat.zero_le _, e_remove_r hI ho hX, hM, h5, (fun _ => by rw [hb]), hR⟩
theorem p_speed {l : Launch} (hlt : l.stackTraces = false) {D : va_G} {ay : Nat → ClassId} {ad : Nat → Nat} {oa : Nat} {sd : Nat → Nat} (hI : adOK ad) (ho : ¬ AC ad oa) {σ : Mem} {τ : Mem × Int64} (R : Rel σ τ) (ov : Int64) (a1 : Int32) (a2 : Int32) : ∃ (kc : Int32) (σ' : Mem) (ov' : Int64) (mc : Nat) (v : Int32) (τ' : Mem × Int64), mc ≤ 1 ∧ Met l yL_speed wsL_speed ({ frames := 7, cells := mc, slots := 6 * mc, locals := 148 } : Room) (va_Pc [.ref (ad 0), .int a1, .int a2, .ref oa] (fun U => PP D ay (wL ay ad oa (σ, ov)) U ∧ TX (A2 ad oa) sd U)) (va_Qi (pE (kc, (σ', ov'))) (fun u => PP D ay (wL ay ad oa u)) (A2 ad oa)) mc (6 * mc) (A2 ad oa) ∧ F_X4_speed a1 a2 τ = some (v, τ') ∧ τ'.1 0 5 = kc ∧ (kc = 0 → ov' = v.toInt64) ∧ Rel σ' τ' := by
  obtain ⟨res, v, τ', hX, hM, hA⟩ := o_speed R a1 a2 
  rcases res with k | r
  · obtain ⟨hm, hR⟩ := hA
    rcases List.mem_cons.mp hm with h | hm
    · obtain ⟨rfl, h5⟩ := Prod.mk.inj h
      exact ⟨1, σ, ov, 1, v, τ', Nat.le_refl _, e_speed_2 hlt hI ho hX, hM, h5, (fun q => absurd q (by decide)), hR⟩
    rcases List.mem_cons.mp hm with h | hm
    · obtain ⟨rfl, h5⟩ := Prod.mk.inj h
      exact ⟨2, σ, ov, 1, v, τ', Nat.le_refl _, e_speed_0 hlt hI ho hX, hM, h5, (fun q => absurd q (by decide)), hR⟩
    exact absurd hm List.not_mem_nil
  · obtain ⟨h5, hb, hR⟩ := hA
    exact ⟨0, r.2, r.1.toInt64, 0, v, τ', Nat.zero_le _, e_speed_r hI ho hX, hM, h5, (fun _ => by rw [hb]), hR⟩
theorem p_jump {l : Launch} (hlt : l.stackTraces = false) {D : va_G} {ay : Nat → ClassId} {ad : Nat → Nat} {oa : Nat} {sd : Nat → Nat} (hI : adOK ad) (ho : ¬ AC ad oa) {σ : Mem} {τ : Mem × Int64} (R : Rel σ τ) (ov : Int64) (a1 : Int32) (a2 : Int32) : ∃ (kc : Int32) (σ' : Mem) (ov' : Int64) (mc : Nat) (v : Int32) (τ' : Mem × Int64), mc ≤ 1 ∧ Met l yL_jump wsL_jump ({ frames := 7, cells := mc, slots := 6 * mc, locals := 148 } : Room) (va_Pc [.ref (ad 0), .int a1, .int a2, .ref oa] (fun U => PP D ay (wL ay ad oa (σ, ov)) U ∧ TX (A2 ad oa) sd U)) (va_Qi (pE (kc, (σ', ov'))) (fun u => PP D ay (wL ay ad oa u)) (A2 ad oa)) mc (6 * mc) (A2 ad oa) ∧ F_X4_jump a1 a2 τ = some (v, τ') ∧ τ'.1 0 5 = kc ∧ (kc = 0 → ov' = v.toInt64) ∧ Rel σ' τ' := by
  obtain ⟨res, v, τ', hX, hM, hA⟩ := o_jump R a1 a2 
  rcases res with k | r
  · obtain ⟨hm, hR⟩ := hA
    rcases List.mem_cons.mp hm with h | hm
    · obtain ⟨rfl, h5⟩ := Prod.mk.inj h
      exact ⟨1, σ, ov, 1, v, τ', Nat.le_refl _, e_jump_2 hlt hI ho hX, hM, h5, (fun q => absurd q (by decide)), hR⟩
    rcases List.mem_cons.mp hm with h | hm
    · obtain ⟨rfl, h5⟩ := Prod.mk.inj h
      exact ⟨2, σ, ov, 1, v, τ', Nat.le_refl _, e_jump_0 hlt hI ho hX, hM, h5, (fun q => absurd q (by decide)), hR⟩
    rcases List.mem_cons.mp hm with h | hm
    · obtain ⟨rfl, h5⟩ := Prod.mk.inj h
      exact ⟨3, σ, ov, 1, v, τ', Nat.le_refl _, e_jump_1 hlt hI ho hX, hM, h5, (fun q => absurd q (by decide)), hR⟩
    exact absurd hm List.not_mem_nil
  · obtain ⟨h5, hb, hR⟩ := hA
    exact ⟨0, r.2, r.1.toInt64, 0, v, τ', Nat.zero_le _, e_jump_r hI ho hX, hM, h5, (fun _ => by rw [hb]), hR⟩
theorem p_swap {l : Launch} (hlt : l.stackTraces = false) {D : va_G} {ay : Nat → ClassId} {ad : Nat → Nat} {oa : Nat} {sd : Nat → Nat} (hI : adOK ad) (ho : ¬ AC ad oa) {σ : Mem} {τ : Mem × Int64} (R : Rel σ τ) (ov : Int64) (a1 : Int32) (a2 : Int32) : ∃ (kc : Int32) (σ' : Mem) (ov' : Int64) (mc : Nat) (v : Int32) (τ' : Mem × Int64), mc ≤ 1 ∧ Met l yL_swap wsL_swap ({ frames := 7, cells := mc, slots := 6 * mc, locals := 151 } : Room) (va_Pc [.ref (ad 0), .int a1, .int a2, .ref oa] (fun U => PP D ay (wL ay ad oa (σ, ov)) U ∧ TX (A2 ad oa) sd U)) (va_Qi (pE (kc, (σ', ov'))) (fun u => PP D ay (wL ay ad oa u)) (A2 ad oa)) mc (6 * mc) (A2 ad oa) ∧ F_X4_swap a1 a2 τ = some (v, τ') ∧ τ'.1 0 5 = kc ∧ (kc = 0 → ov' = v.toInt64) ∧ Rel σ' τ' := by
  obtain ⟨res, v, τ', hX, hM, hA⟩ := o_swap R a1 a2 
  rcases res with k | r
  · obtain ⟨hm, hR⟩ := hA
    rcases List.mem_cons.mp hm with h | hm
    · obtain ⟨rfl, h5⟩ := Prod.mk.inj h
      exact ⟨1, σ, ov, 1, v, τ', Nat.le_refl _, e_swap_2 hlt hI ho hX, hM, h5, (fun q => absurd q (by decide)), hR⟩
    exact absurd hm List.not_mem_nil
  · obtain ⟨h5, hb, hR⟩ := hA
    exact ⟨0, r.2, r.1.toInt64, 0, v, τ', Nat.zero_le _, e_swap_r hI ho hX, hM, h5, (fun _ => by rw [hb]), hR⟩
theorem p_pass {l : Launch} (hlt : l.stackTraces = false) {D : va_G} {ay : Nat → ClassId} {ad : Nat → Nat} {oa : Nat} {sd : Nat → Nat} (hI : adOK ad) (ho : ¬ AC ad oa) {σ : Mem} {τ : Mem × Int64} (R : Rel σ τ) (ov : Int64) (a1 : Int32) : ∃ (kc : Int32) (σ' : Mem) (ov' : Int64) (mc : Nat) (v : Int32) (τ' : Mem × Int64), mc ≤ 1 ∧ Met l yL_pass wsL_pass ({ frames := 7, cells := mc, slots := 6 * mc, locals := 170 } : Room) (va_Pc [.ref (ad 0), .int a1, .ref oa] (fun U => PP D ay (wL ay ad oa (σ, ov)) U ∧ TX (A2 ad oa) sd U)) (va_Qi (pE (kc, (σ', ov'))) (fun u => PP D ay (wL ay ad oa u)) (A2 ad oa)) mc (6 * mc) (A2 ad oa) ∧ F_X4_pass a1 τ = some (v, τ') ∧ τ'.1 0 5 = kc ∧ (kc = 0 → ov' = v.toInt64) ∧ Rel σ' τ' := by
  obtain ⟨res, v, τ', hX, hM, hA⟩ := o_pass R a1 
  rcases res with k | r
  · obtain ⟨hm, hR⟩ := hA
    rcases List.mem_cons.mp hm with h | hm
    · obtain ⟨rfl, h5⟩ := Prod.mk.inj h
      exact ⟨1, σ, ov, 1, v, τ', Nat.le_refl _, e_pass_0 hlt hI ho hX, hM, h5, (fun q => absurd q (by decide)), hR⟩
    rcases List.mem_cons.mp hm with h | hm
    · obtain ⟨rfl, h5⟩ := Prod.mk.inj h
      exact ⟨2, σ, ov, 1, v, τ', Nat.le_refl _, e_pass_1 hlt hI ho hX, hM, h5, (fun q => absurd q (by decide)), hR⟩
    exact absurd hm List.not_mem_nil
  · obtain ⟨h5, hb, hR⟩ := hA
    exact ⟨0, r.2, r.1.toInt64, 0, v, τ', Nat.zero_le _, e_pass_r hI ho hX, hM, h5, (fun _ => by rw [hb]), hR⟩
theorem p_passToTurn {l : Launch} (hlt : l.stackTraces = false) {D : va_G} {ay : Nat → ClassId} {ad : Nat → Nat} {oa : Nat} {sd : Nat → Nat} (hI : adOK ad) (ho : ¬ AC ad oa) {σ : Mem} {τ : Mem × Int64} (R : Rel σ τ) (ov : Int64) : ∃ (kc : Int32) (σ' : Mem) (ov' : Int64) (mc : Nat) (v : Int32) (τ' : Mem × Int64), mc ≤ 1 ∧ Met l yL_passToTurn wsL_passToTurn ({ frames := 7, cells := mc, slots := 6 * mc, locals := 171 } : Room) (va_Pc [.ref (ad 0), .ref oa] (fun U => PP D ay (wL ay ad oa (σ, ov)) U ∧ TX (A2 ad oa) sd U)) (va_Qi (pE (kc, (σ', ov'))) (fun u => PP D ay (wL ay ad oa u)) (A2 ad oa)) mc (6 * mc) (A2 ad oa) ∧ F_X4_passToTurn τ = some (v, τ') ∧ τ'.1 0 5 = kc ∧ (kc = 0 → ov' = v.toInt64) ∧ Rel σ' τ' := by
  obtain ⟨res, v, τ', hX, hM, hA⟩ := o_passToTurn R 
  rcases res with k | r
  · obtain ⟨hm, hR⟩ := hA
    rcases List.mem_cons.mp hm with h | hm
    · obtain ⟨rfl, h5⟩ := Prod.mk.inj h
      exact ⟨1, σ, ov, 1, v, τ', Nat.le_refl _, e_passToTurn_1 hlt hI ho hX, hM, h5, (fun q => absurd q (by decide)), hR⟩
    exact absurd hm List.not_mem_nil
  · obtain ⟨h5, hb, hR⟩ := hA
    exact ⟨0, r.2, r.1.toInt64, 0, v, τ', Nat.zero_le _, e_passToTurn_r hI ho hX, hM, h5, (fun _ => by rw [hb]), hR⟩
theorem p_set {l : Launch} (hlt : l.stackTraces = false) {D : va_G} {ay : Nat → ClassId} {ad : Nat → Nat} {oa : Nat} {sd : Nat → Nat} (hI : adOK ad) (ho : ¬ AC ad oa) {σ : Mem} {τ : Mem × Int64} (R : Rel σ τ) (ov : Int64) (a1 : Int32) (a2 : Int32) : ∃ (kc : Int32) (σ' : Mem) (ov' : Int64) (mc : Nat) (v : Int32) (τ' : Mem × Int64), mc ≤ 1 ∧ Met l yL_set wsL_set ({ frames := 7, cells := mc, slots := 6 * mc, locals := 149 } : Room) (va_Pc [.ref (ad 0), .int a1, .int a2, .ref oa] (fun U => PP D ay (wL ay ad oa (σ, ov)) U ∧ TX (A2 ad oa) sd U)) (va_Qi (pE (kc, (σ', ov'))) (fun u => PP D ay (wL ay ad oa u)) (A2 ad oa)) mc (6 * mc) (A2 ad oa) ∧ F_X4_set a1 a2 τ = some (v, τ') ∧ τ'.1 0 5 = kc ∧ (kc = 0 → ov' = v.toInt64) ∧ Rel σ' τ' := by
  obtain ⟨res, v, τ', hX, hM, hA⟩ := o_set R a1 a2 
  rcases res with k | r
  · obtain ⟨hm, hR⟩ := hA
    rcases List.mem_cons.mp hm with h | hm
    · obtain ⟨rfl, h5⟩ := Prod.mk.inj h
      exact ⟨1, σ, ov, 1, v, τ', Nat.le_refl _, e_set_2 hlt hI ho hX, hM, h5, (fun q => absurd q (by decide)), hR⟩
    rcases List.mem_cons.mp hm with h | hm
    · obtain ⟨rfl, h5⟩ := Prod.mk.inj h
      exact ⟨2, σ, ov, 1, v, τ', Nat.le_refl _, e_set_0 hlt hI ho hX, hM, h5, (fun q => absurd q (by decide)), hR⟩
    exact absurd hm List.not_mem_nil
  · obtain ⟨h5, hb, hR⟩ := hA
    exact ⟨0, r.2, r.1.toInt64, 0, v, τ', Nat.zero_le _, e_set_r hI ho hX, hM, h5, (fun _ => by rw [hb]), hR⟩
theorem p_append {l : Launch} (hlt : l.stackTraces = false) {D : va_G} {ay : Nat → ClassId} {ad : Nat → Nat} {oa : Nat} {sd : Nat → Nat} (hI : adOK ad) (ho : ¬ AC ad oa) {σ : Mem} {τ : Mem × Int64} (R : Rel σ τ) (ov : Int64) (a1 : Int32) : ∃ (kc : Int32) (σ' : Mem) (ov' : Int64) (mc : Nat) (v : Int32) (τ' : Mem × Int64), mc ≤ 1 ∧ Met l yL_append wsL_append ({ frames := 7, cells := mc, slots := 6 * mc, locals := 103 } : Room) (va_Pc [.ref (ad 0), .int a1, .ref oa] (fun U => PP D ay (wL ay ad oa (σ, ov)) U ∧ TX (A2 ad oa) sd U)) (va_Qi (pE (kc, (σ', ov'))) (fun u => PP D ay (wL ay ad oa u)) (A2 ad oa)) mc (6 * mc) (A2 ad oa) ∧ F_X4_append a1 τ = some (v, τ') ∧ τ'.1 0 5 = kc ∧ (kc = 0 → ov' = v.toInt64) ∧ Rel σ' τ' := by
  obtain ⟨res, v, τ', hX, hM, hA⟩ := o_append R a1 
  rcases res with k | r
  · obtain ⟨hm, hR⟩ := hA
    rcases List.mem_cons.mp hm with h | hm
    · obtain ⟨rfl, h5⟩ := Prod.mk.inj h
      exact ⟨1, σ, ov, 1, v, τ', Nat.le_refl _, e_append_0 hlt hI ho hX, hM, h5, (fun q => absurd q (by decide)), hR⟩
    rcases List.mem_cons.mp hm with h | hm
    · obtain ⟨rfl, h5⟩ := Prod.mk.inj h
      exact ⟨2, σ, ov, 1, v, τ', Nat.le_refl _, e_append_1 hlt hI ho hX, hM, h5, (fun q => absurd q (by decide)), hR⟩
    exact absurd hm List.not_mem_nil
  · obtain ⟨h5, hb, hR⟩ := hA
    exact ⟨0, r.2, r.1.toInt64, 0, v, τ', Nat.zero_le _, e_append_r hI ho hX, hM, h5, (fun _ => by rw [hb]), hR⟩
theorem p_addAll {l : Launch} (hlt : l.stackTraces = false) {D : va_G} {ay : Nat → ClassId} {ad : Nat → Nat} {oa : Nat} {sd : Nat → Nat} (hI : adOK ad) (ho : ¬ AC ad oa) {σ : Mem} {τ : Mem × Int64} (R : Rel σ τ) (ov : Int64) : ∃ (kc : Int32) (σ' : Mem) (ov' : Int64) (mc : Nat) (v : Int32) (τ' : Mem × Int64), mc ≤ 1 ∧ Met l yL_addAll wsL_addAll ({ frames := 7, cells := mc, slots := 6 * mc, locals := 149 } : Room) (va_Pc [.ref (ad 0), .ref oa] (fun U => PP D ay (wL ay ad oa (σ, ov)) U ∧ TX (A2 ad oa) sd U)) (va_Qi (pE (kc, (σ', ov'))) (fun u => PP D ay (wL ay ad oa u)) (A2 ad oa)) mc (6 * mc) (A2 ad oa) ∧ F_X4_addAll τ = some (v, τ') ∧ τ'.1 0 5 = kc ∧ (kc = 0 → ov' = v.toInt64) ∧ Rel σ' τ' := by
  obtain ⟨res, v, τ', hX, hM, hA⟩ := o_addAll R 
  rcases res with k | r
  · obtain ⟨hm, hR⟩ := hA
    rcases List.mem_cons.mp hm with h | hm
    · obtain ⟨rfl, h5⟩ := Prod.mk.inj h
      exact ⟨1, σ, ov, 1, v, τ', Nat.le_refl _, e_addAll_0 hlt hI ho hX, hM, h5, (fun q => absurd q (by decide)), hR⟩
    rcases List.mem_cons.mp hm with h | hm
    · obtain ⟨rfl, h5⟩ := Prod.mk.inj h
      exact ⟨2, σ, ov, 1, v, τ', Nat.le_refl _, e_addAll_1 hlt hI ho hX, hM, h5, (fun q => absurd q (by decide)), hR⟩
    exact absurd hm List.not_mem_nil
  · obtain ⟨h5, hb, hR⟩ := hA
    exact ⟨0, r.2, r.1.toInt64, 0, v, τ', Nat.zero_le _, e_addAll_r hI ho hX, hM, h5, (fun _ => by rw [hb]), hR⟩
theorem p_undo {l : Launch} (hlt : l.stackTraces = false) {D : va_G} {ay : Nat → ClassId} {ad : Nat → Nat} {oa : Nat} {sd : Nat → Nat} (hI : adOK ad) (ho : ¬ AC ad oa) {σ : Mem} {τ : Mem × Int64} (R : Rel σ τ) (ov : Int64) : ∃ (kc : Int32) (σ' : Mem) (ov' : Int64) (mc : Nat) (v : Int32) (τ' : Mem × Int64), mc ≤ 1 ∧ Met l yL_undo wsL_undo ({ frames := 7, cells := mc, slots := 6 * mc, locals := 146 } : Room) (va_Pc [.ref (ad 0), .ref oa] (fun U => PP D ay (wL ay ad oa (σ, ov)) U ∧ TX (A2 ad oa) sd U)) (va_Qi (pE (kc, (σ', ov'))) (fun u => PP D ay (wL ay ad oa u)) (A2 ad oa)) mc (6 * mc) (A2 ad oa) ∧ F_X4_undo τ = some (v, τ') ∧ τ'.1 0 5 = kc ∧ (kc = 0 → ov' = v.toInt64) ∧ Rel σ' τ' := by
  obtain ⟨res, v, τ', hX, hM, hA⟩ := o_undo R 
  rcases res with k | r
  · obtain ⟨hm, hR⟩ := hA
    rcases List.mem_cons.mp hm with h | hm
    · obtain ⟨rfl, h5⟩ := Prod.mk.inj h
      exact ⟨1, σ, ov, 1, v, τ', Nat.le_refl _, e_undo_1 hlt hI ho hX, hM, h5, (fun q => absurd q (by decide)), hR⟩
    exact absurd hm List.not_mem_nil
  · obtain ⟨h5, hb, hR⟩ := hA
    exact ⟨0, r.2, r.1.toInt64, 0, v, τ', Nat.zero_le _, e_undo_r hI ho hX, hM, h5, (fun _ => by rw [hb]), hR⟩
theorem p_mover {l : Launch} (hlt : l.stackTraces = false) {D : va_G} {ay : Nat → ClassId} {ad : Nat → Nat} {oa : Nat} {sd : Nat → Nat} (hI : adOK ad) (ho : ¬ AC ad oa) {σ : Mem} {τ : Mem × Int64} (R : Rel σ τ) (ov : Int64) (a1 : Int32) (a2 : Int32) : ∃ (kc : Int32) (σ' : Mem) (ov' : Int64) (mc : Nat) (v : Int32) (τ' : Mem × Int64), mc ≤ 1 ∧ Met l yL_mover wsL_mover ({ frames := 7, cells := mc, slots := 6 * mc, locals := 118 } : Room) (va_Pc [.ref (ad 0), .int a1, .int a2, .ref oa] (fun U => PP D ay (wL ay ad oa (σ, ov)) U ∧ TX (A2 ad oa) sd U)) (va_Qi (pE (kc, (σ', ov'))) (fun u => PP D ay (wL ay ad oa u)) (A2 ad oa)) mc (6 * mc) (A2 ad oa) ∧ F_X4_mover a1 a2 τ = some (v, τ') ∧ τ'.1 0 5 = kc ∧ (kc = 0 → ov' = v.toInt64) ∧ Rel σ' τ' := by
  obtain ⟨res, v, τ', hX, hM, hA, hK⟩ := o_mover R a1 a2 
  rcases res with k | r
  · have hm : (k, τ'.1 0 5) ∈ [((2 : Nat), (1 : Int32)), ((0 : Nat), (2 : Int32))] := hA
    have hR : Rel σ τ' := hK.rel R
    rcases List.mem_cons.mp hm with h | hm
    · obtain ⟨rfl, h5⟩ := Prod.mk.inj h
      exact ⟨1, σ, ov, 1, v, τ', Nat.le_refl _, e_mover_2 hlt hI ho hX, hM, h5, (fun q => absurd q (by decide)), hR⟩
    rcases List.mem_cons.mp hm with h | hm
    · obtain ⟨rfl, h5⟩ := Prod.mk.inj h
      exact ⟨2, σ, ov, 1, v, τ', Nat.le_refl _, e_mover_0 hlt hI ho hX, hM, h5, (fun q => absurd q (by decide)), hR⟩
    exact absurd hm List.not_mem_nil
  · obtain ⟨h5, hb⟩ := hA
    exact ⟨0, σ, r.toInt64, 0, v, τ', Nat.zero_le _, e_mover_r hI ho hX, hM, h5, (fun _ => by rw [hb]), hK.rel R⟩
theorem p_contest {l : Launch} (hlt : l.stackTraces = false) {D : va_G} {ay : Nat → ClassId} {ad : Nat → Nat} {oa : Nat} {sd : Nat → Nat} (hI : adOK ad) (ho : ¬ AC ad oa) {σ : Mem} {τ : Mem × Int64} (R : Rel σ τ) (ov : Int64) (a1 : Int32) (a2 : Int32) : ∃ (kc : Int32) (σ' : Mem) (ov' : Int64) (mc : Nat) (v : Int32) (τ' : Mem × Int64), mc ≤ 1 ∧ Met l yL_contest wsL_contest ({ frames := 7, cells := mc, slots := 6 * mc, locals := 132 } : Room) (va_Pc [.ref (ad 0), .int a1, .int a2, .ref oa] (fun U => PP D ay (wL ay ad oa (σ, ov)) U ∧ TX (A2 ad oa) sd U)) (va_Qi (pE (kc, (σ', ov'))) (fun u => PP D ay (wL ay ad oa u)) (A2 ad oa)) mc (6 * mc) (A2 ad oa) ∧ F_X4_contest a1 a2 τ = some (v, τ') ∧ τ'.1 0 5 = kc ∧ (kc = 0 → ov' = v.toInt64) ∧ Rel σ' τ' := by
  obtain ⟨res, v, τ', hX, hM, hA, hK⟩ := o_contest R a1 a2 
  rcases res with k | r
  · have hm : (k, τ'.1 0 5) ∈ [((2 : Nat), (1 : Int32)), ((0 : Nat), (2 : Int32))] := hA
    have hR : Rel σ τ' := hK.rel R
    rcases List.mem_cons.mp hm with h | hm
    · obtain ⟨rfl, h5⟩ := Prod.mk.inj h
      exact ⟨1, σ, ov, 1, v, τ', Nat.le_refl _, e_contest_2 hlt hI ho hX, hM, h5, (fun q => absurd q (by decide)), hR⟩
    rcases List.mem_cons.mp hm with h | hm
    · obtain ⟨rfl, h5⟩ := Prod.mk.inj h
      exact ⟨2, σ, ov, 1, v, τ', Nat.le_refl _, e_contest_0 hlt hI ho hX, hM, h5, (fun q => absurd q (by decide)), hR⟩
    exact absurd hm List.not_mem_nil
  · obtain ⟨h5, hb⟩ := hA
    exact ⟨0, σ, r.toInt64, 0, v, τ', Nat.zero_le _, e_contest_r hI ho hX, hM, h5, (fun _ => by rw [hb]), hK.rel R⟩
theorem p_nextTurn {l : Launch} (hlt : l.stackTraces = false) {D : va_G} {ay : Nat → ClassId} {ad : Nat → Nat} {oa : Nat} {sd : Nat → Nat} (hI : adOK ad) (ho : ¬ AC ad oa) {σ : Mem} {τ : Mem × Int64} (R : Rel σ τ) (ov : Int64) (a1 : Int32) : ∃ (kc : Int32) (σ' : Mem) (ov' : Int64) (mc : Nat) (v : Int32) (τ' : Mem × Int64), mc ≤ 1 ∧ Met l yL_nextTurn wsL_nextTurn ({ frames := 7, cells := mc, slots := 6 * mc, locals := 115 } : Room) (va_Pc [.ref (ad 0), .int a1, .ref oa] (fun U => PP D ay (wL ay ad oa (σ, ov)) U ∧ TX (A2 ad oa) sd U)) (va_Qi (pE (kc, (σ', ov'))) (fun u => PP D ay (wL ay ad oa u)) (A2 ad oa)) mc (6 * mc) (A2 ad oa) ∧ F_X4_nextTurn a1 τ = some (v, τ') ∧ τ'.1 0 5 = kc ∧ (kc = 0 → ov' = v.toInt64) ∧ Rel σ' τ' := by
  obtain ⟨res, v, τ', hX, hM, hA, hK⟩ := o_nextTurn R a1 
  rcases res with k | r
  · have hm : (k, τ'.1 0 5) ∈ [((0 : Nat), (1 : Int32))] := hA
    have hR : Rel σ τ' := hK.rel R
    rcases List.mem_cons.mp hm with h | hm
    · obtain ⟨rfl, h5⟩ := Prod.mk.inj h
      exact ⟨1, σ, ov, 1, v, τ', Nat.le_refl _, e_nextTurn_0 hlt hI ho hX, hM, h5, (fun q => absurd q (by decide)), hR⟩
    exact absurd hm List.not_mem_nil
  · obtain ⟨h5, hb⟩ := hA
    exact ⟨0, σ, r.toInt64, 0, v, τ', Nat.zero_le _, e_nextTurn_r hI ho hX, hM, h5, (fun _ => by rw [hb]), hK.rel R⟩
theorem p_span {l : Launch} (hlt : l.stackTraces = false) {D : va_G} {ay : Nat → ClassId} {ad : Nat → Nat} {oa : Nat} {sd : Nat → Nat} (hI : adOK ad) (ho : ¬ AC ad oa) {σ : Mem} {τ : Mem × Int64} (R : Rel σ τ) (ov : Int64) (a1 : Int32) (a2 : Int32) : ∃ (kc : Int32) (σ' : Mem) (ov' : Int64) (mc : Nat) (v : Int32) (τ' : Mem × Int64), mc ≤ 1 ∧ Met l yL_span wsL_span ({ frames := 7, cells := mc, slots := 6 * mc, locals := 104 } : Room) (va_Pc [.ref (ad 0), .int a1, .int a2, .ref oa] (fun U => PP D ay (wL ay ad oa (σ, ov)) U ∧ TX (A2 ad oa) sd U)) (va_Qi (pE (kc, (σ', ov'))) (fun u => PP D ay (wL ay ad oa u)) (A2 ad oa)) mc (6 * mc) (A2 ad oa) ∧ F_X4_span a1 a2 τ = some (v, τ') ∧ τ'.1 0 5 = kc ∧ (kc = 0 → ov' = v.toInt64) ∧ Rel σ' τ' := by
  obtain ⟨res, v, τ', hX, hM, hA, hK⟩ := o_span R a1 a2 
  rcases res with k | r
  · have hm : (k, τ'.1 0 5) ∈ [((0 : Nat), (1 : Int32))] := hA
    have hR : Rel σ τ' := hK.rel R
    rcases List.mem_cons.mp hm with h | hm
    · obtain ⟨rfl, h5⟩ := Prod.mk.inj h
      exact ⟨1, σ, ov, 1, v, τ', Nat.le_refl _, e_span_0 hlt hI ho hX, hM, h5, (fun q => absurd q (by decide)), hR⟩
    exact absurd hm List.not_mem_nil
  · obtain ⟨h5, hb⟩ := hA
    exact ⟨0, σ, r.toInt64, 0, v, τ', Nat.zero_le _, e_span_r hI ho hX, hM, h5, (fun _ => by rw [hb]), hK.rel R⟩
theorem p_count {l : Launch} (hlt : l.stackTraces = false) {D : va_G} {ay : Nat → ClassId} {ad : Nat → Nat} {oa : Nat} {sd : Nat → Nat} (hI : adOK ad) (ho : ¬ AC ad oa) {σ : Mem} {τ : Mem × Int64} (R : Rel σ τ) (ov : Int64) (a1 : Int32) : ∃ (kc : Int32) (σ' : Mem) (ov' : Int64) (mc : Nat) (v : Int32) (τ' : Mem × Int64), mc ≤ 1 ∧ Met l yL_count wsL_count ({ frames := 7, cells := mc, slots := 6 * mc, locals := 103 } : Room) (va_Pc [.ref (ad 0), .int a1, .ref oa] (fun U => PP D ay (wL ay ad oa (σ, ov)) U ∧ TX (A2 ad oa) sd U)) (va_Qi (pE (kc, (σ', ov'))) (fun u => PP D ay (wL ay ad oa u)) (A2 ad oa)) mc (6 * mc) (A2 ad oa) ∧ F_X4_count a1 τ = some (v, τ') ∧ τ'.1 0 5 = kc ∧ (kc = 0 → ov' = v.toInt64) ∧ Rel σ' τ' := by
  obtain ⟨res, v, τ', hX, hM, hA, hK⟩ := o_count R a1 
  rcases res with k | r
  · have hm : (k, τ'.1 0 5) ∈ [((0 : Nat), (1 : Int32))] := hA
    have hR : Rel σ τ' := hK.rel R
    rcases List.mem_cons.mp hm with h | hm
    · obtain ⟨rfl, h5⟩ := Prod.mk.inj h
      exact ⟨1, σ, ov, 1, v, τ', Nat.le_refl _, e_count_0 hlt hI ho hX, hM, h5, (fun q => absurd q (by decide)), hR⟩
    exact absurd hm List.not_mem_nil
  · obtain ⟨h5, hb⟩ := hA
    exact ⟨0, σ, r.toInt64, 0, v, τ', Nat.zero_le _, e_count_r hI ho hX, hM, h5, (fun _ => by rw [hb]), hK.rel R⟩
theorem p_setting {l : Launch} (hlt : l.stackTraces = false) {D : va_G} {ay : Nat → ClassId} {ad : Nat → Nat} {oa : Nat} {sd : Nat → Nat} (hI : adOK ad) (ho : ¬ AC ad oa) {σ : Mem} {τ : Mem × Int64} (R : Rel σ τ) (ov : Int64) (a1 : Int32) : ∃ (kc : Int32) (σ' : Mem) (ov' : Int64) (mc : Nat) (v : Int32) (τ' : Mem × Int64), mc ≤ 1 ∧ Met l yL_setting wsL_setting ({ frames := 7, cells := mc, slots := 6 * mc, locals := 103 } : Room) (va_Pc [.ref (ad 0), .int a1, .ref oa] (fun U => PP D ay (wL ay ad oa (σ, ov)) U ∧ TX (A2 ad oa) sd U)) (va_Qi (pE (kc, (σ', ov'))) (fun u => PP D ay (wL ay ad oa u)) (A2 ad oa)) mc (6 * mc) (A2 ad oa) ∧ F_X4_setting a1 τ = some (v, τ') ∧ τ'.1 0 5 = kc ∧ (kc = 0 → ov' = v.toInt64) ∧ Rel σ' τ' := by
  obtain ⟨res, v, τ', hX, hM, hA, hK⟩ := o_setting R a1 
  rcases res with k | r
  · have hm : (k, τ'.1 0 5) ∈ [((2 : Nat), (1 : Int32))] := hA
    have hR : Rel σ τ' := hK.rel R
    rcases List.mem_cons.mp hm with h | hm
    · obtain ⟨rfl, h5⟩ := Prod.mk.inj h
      exact ⟨1, σ, ov, 1, v, τ', Nat.le_refl _, e_setting_2 hlt hI ho hX, hM, h5, (fun q => absurd q (by decide)), hR⟩
    exact absurd hm List.not_mem_nil
  · obtain ⟨h5, hb⟩ := hA
    exact ⟨0, σ, r.toInt64, 0, v, τ', Nat.zero_le _, e_setting_r hI ho hX, hM, h5, (fun _ => by rw [hb]), hK.rel R⟩
theorem p_leaderAfter {l : Launch} (hlt : l.stackTraces = false) {D : va_G} {ay : Nat → ClassId} {ad : Nat → Nat} {oa : Nat} {sd : Nat → Nat} (hI : adOK ad) (ho : ¬ AC ad oa) {σ : Mem} {τ : Mem × Int64} (R : Rel σ τ) (ov : Int64) (a1 : Int32) : ∃ (kc : Int32) (σ' : Mem) (ov' : Int64) (mc : Nat) (v : Int32) (τ' : Mem × Int64), mc ≤ 1 ∧ Met l yL_leaderAfter wsL_leaderAfter ({ frames := 7, cells := mc, slots := 6 * mc, locals := 103 } : Room) (va_Pc [.ref (ad 0), .int a1, .ref oa] (fun U => PP D ay (wL ay ad oa (σ, ov)) U ∧ TX (A2 ad oa) sd U)) (va_Qi (pE (kc, (σ', ov'))) (fun u => PP D ay (wL ay ad oa u)) (A2 ad oa)) mc (6 * mc) (A2 ad oa) ∧ F_X4_leaderAfter a1 τ = some (v, τ') ∧ τ'.1 0 5 = kc ∧ (kc = 0 → ov' = v.toInt64) ∧ Rel σ' τ' := by
  obtain ⟨res, v, τ', hX, hM, hA, hK⟩ := o_leaderAfter R a1 
  rcases res with k | r
  · have hm : (k, τ'.1 0 5) ∈ [((0 : Nat), (1 : Int32))] := hA
    have hR : Rel σ τ' := hK.rel R
    rcases List.mem_cons.mp hm with h | hm
    · obtain ⟨rfl, h5⟩ := Prod.mk.inj h
      exact ⟨1, σ, ov, 1, v, τ', Nat.le_refl _, e_leaderAfter_0 hlt hI ho hX, hM, h5, (fun q => absurd q (by decide)), hR⟩
    exact absurd hm List.not_mem_nil
  · obtain ⟨h5, hb⟩ := hA
    exact ⟨0, σ, r.toInt64, 0, v, τ', Nat.zero_le _, e_leaderAfter_r hI ho hX, hM, h5, (fun _ => by rw [hb]), hK.rel R⟩
theorem p_overtakes {l : Launch} (hlt : l.stackTraces = false) {D : va_G} {ay : Nat → ClassId} {ad : Nat → Nat} {oa : Nat} {sd : Nat → Nat} (hI : adOK ad) (ho : ¬ AC ad oa) {σ : Mem} {τ : Mem × Int64} (R : Rel σ τ) (ov : Int64) (a1 : Int32) (a2 : Int32) (a3 : Int32) : ∃ (kc : Int32) (σ' : Mem) (ov' : Int64) (mc : Nat) (v : Int32) (τ' : Mem × Int64), mc ≤ 1 ∧ Met l yL_overtakes wsL_overtakes ({ frames := 7, cells := mc, slots := 6 * mc, locals := 108 } : Room) (va_Pc [.ref (ad 0), .int a1, .int a2, .int a3, .ref oa] (fun U => PP D ay (wL ay ad oa (σ, ov)) U ∧ TX (A2 ad oa) sd U)) (va_Qi (pE (kc, (σ', ov'))) (fun u => PP D ay (wL ay ad oa u)) (A2 ad oa)) mc (6 * mc) (A2 ad oa) ∧ F_X4_overtakes a1 a2 a3 τ = some (v, τ') ∧ τ'.1 0 5 = kc ∧ (kc = 0 → ov' = v.toInt64) ∧ Rel σ' τ' := by
  obtain ⟨res, v, τ', hX, hM, hA, hK⟩ := o_overtakes R a1 a2 a3 
  rcases res with k | r
  · have hm : (k, τ'.1 0 5) ∈ [((2 : Nat), (1 : Int32)), ((0 : Nat), (2 : Int32))] := hA
    have hR : Rel σ τ' := hK.rel R
    rcases List.mem_cons.mp hm with h | hm
    · obtain ⟨rfl, h5⟩ := Prod.mk.inj h
      exact ⟨1, σ, ov, 1, v, τ', Nat.le_refl _, e_overtakes_2 hlt hI ho hX, hM, h5, (fun q => absurd q (by decide)), hR⟩
    rcases List.mem_cons.mp hm with h | hm
    · obtain ⟨rfl, h5⟩ := Prod.mk.inj h
      exact ⟨2, σ, ov, 1, v, τ', Nat.le_refl _, e_overtakes_0 hlt hI ho hX, hM, h5, (fun q => absurd q (by decide)), hR⟩
    exact absurd hm List.not_mem_nil
  · obtain ⟨h5, hb⟩ := hA
    exact ⟨0, σ, r.toInt64, 0, v, τ', Nat.zero_le _, e_overtakes_r hI ho hX, hM, h5, (fun _ => by rw [hb]), hK.rel R⟩
theorem p_turnsIn {l : Launch} (hlt : l.stackTraces = false) {D : va_G} {ay : Nat → ClassId} {ad : Nat → Nat} {oa : Nat} {sd : Nat → Nat} (hI : adOK ad) (ho : ¬ AC ad oa) {σ : Mem} {τ : Mem × Int64} (R : Rel σ τ) (ov : Int64) (a1 : Int32) : ∃ (kc : Int32) (σ' : Mem) (ov' : Int64) (mc : Nat) (v : Int32) (τ' : Mem × Int64), mc ≤ 1 ∧ Met l yL_turnsIn wsL_turnsIn ({ frames := 7, cells := mc, slots := 6 * mc, locals := 105 } : Room) (va_Pc [.ref (ad 0), .int a1, .ref oa] (fun U => PP D ay (wL ay ad oa (σ, ov)) U ∧ TX (A2 ad oa) sd U)) (va_Qi (pE (kc, (σ', ov'))) (fun u => PP D ay (wL ay ad oa u)) (A2 ad oa)) mc (6 * mc) (A2 ad oa) ∧ F_X4_turnsIn a1 τ = some (v, τ') ∧ τ'.1 0 5 = kc ∧ (kc = 0 → ov' = v.toInt64) ∧ Rel σ' τ' := by
  obtain ⟨res, v, τ', hX, hM, hA, hK⟩ := o_turnsIn R a1 
  rcases res with k | r
  · have hm : (k, τ'.1 0 5) ∈ [((0 : Nat), (1 : Int32))] := hA
    have hR : Rel σ τ' := hK.rel R
    rcases List.mem_cons.mp hm with h | hm
    · obtain ⟨rfl, h5⟩ := Prod.mk.inj h
      exact ⟨1, σ, ov, 1, v, τ', Nat.le_refl _, e_turnsIn_0 hlt hI ho hX, hM, h5, (fun q => absurd q (by decide)), hR⟩
    exact absurd hm List.not_mem_nil
  · obtain ⟨h5, hb⟩ := hA
    exact ⟨0, σ, r.toInt64, 0, v, τ', Nat.zero_le _, e_turnsIn_r hI ho hX, hM, h5, (fun _ => by rw [hb]), hK.rel R⟩
theorem p_leastSpeed {l : Launch} (hlt : l.stackTraces = false) {D : va_G} {ay : Nat → ClassId} {ad : Nat → Nat} {oa : Nat} {sd : Nat → Nat} (hI : adOK ad) (ho : ¬ AC ad oa) {σ : Mem} {τ : Mem × Int64} (R : Rel σ τ) (ov : Int64) (a1 : Int32) (a2 : Int32) : ∃ (kc : Int32) (σ' : Mem) (ov' : Int64) (mc : Nat) (v : Int32) (τ' : Mem × Int64), mc ≤ 1 ∧ Met l yL_leastSpeed wsL_leastSpeed ({ frames := 7, cells := mc, slots := 6 * mc, locals := 105 } : Room) (va_Pc [.ref (ad 0), .int a1, .int a2, .ref oa] (fun U => PP D ay (wL ay ad oa (σ, ov)) U ∧ TX (A2 ad oa) sd U)) (va_Qi (pE (kc, (σ', ov'))) (fun u => PP D ay (wL ay ad oa u)) (A2 ad oa)) mc (6 * mc) (A2 ad oa) ∧ F_X4_leastSpeed a1 a2 τ = some (v, τ') ∧ τ'.1 0 5 = kc ∧ (kc = 0 → ov' = v.toInt64) ∧ Rel σ' τ' := by
  obtain ⟨res, v, τ', hX, hM, hA, hK⟩ := o_leastSpeed R a1 a2 
  rcases res with k | r
  · have hm : (k, τ'.1 0 5) ∈ [((2 : Nat), (1 : Int32)), ((0 : Nat), (2 : Int32))] := hA
    have hR : Rel σ τ' := hK.rel R
    rcases List.mem_cons.mp hm with h | hm
    · obtain ⟨rfl, h5⟩ := Prod.mk.inj h
      exact ⟨1, σ, ov, 1, v, τ', Nat.le_refl _, e_leastSpeed_2 hlt hI ho hX, hM, h5, (fun q => absurd q (by decide)), hR⟩
    rcases List.mem_cons.mp hm with h | hm
    · obtain ⟨rfl, h5⟩ := Prod.mk.inj h
      exact ⟨2, σ, ov, 1, v, τ', Nat.le_refl _, e_leastSpeed_0 hlt hI ho hX, hM, h5, (fun q => absurd q (by decide)), hR⟩
    exact absurd hm List.not_mem_nil
  · obtain ⟨h5, hb⟩ := hA
    exact ⟨0, σ, r.toInt64, 0, v, τ', Nat.zero_le _, e_leastSpeed_r hI ho hX, hM, h5, (fun _ => by rw [hb]), hK.rel R⟩
theorem p_leadShare {l : Launch} (hlt : l.stackTraces = false) {D : va_G} {ay : Nat → ClassId} {ad : Nat → Nat} {oa : Nat} {sd : Nat → Nat} (hI : adOK ad) (ho : ¬ AC ad oa) {σ : Mem} {τ : Mem × Int64} (R : Rel σ τ) (ov : UInt64) (a1 : Int32) : ∃ (kc : Int32) (σ' : Mem) (ov' : UInt64) (mc : Nat) (v : UInt64) (τ' : Mem × Int64), mc ≤ 1 ∧ Met l yL_leadShare wsL_leadShare ({ frames := 7, cells := mc, slots := 6 * mc, locals := 108 } : Room) (va_Pc [.ref (ad 0), .int a1, .ref oa] (fun U => PP D ay (wV ay ad oa (σ, ov)) U ∧ TX (A2 ad oa) sd U)) (va_Qi (pE (kc, (σ', ov'))) (fun u => PP D ay (wV ay ad oa u)) (A2 ad oa)) mc (6 * mc) (A2 ad oa) ∧ F_X4_leadShare a1 τ = some (v, τ') ∧ τ'.1 0 5 = kc ∧ (kc = 0 → ov' = v ∧ FP.Core.val64 v ≠ .nan) ∧ Rel σ' τ' := by
  obtain ⟨res, v, τ', hX, hM, hA, hK⟩ := o_leadShare R a1 
  rcases res with k | r
  · have hm : (k, τ'.1 0 5) ∈ [((2 : Nat), (1 : Int32))] := hA
    have hR : Rel σ τ' := hK.rel R
    rcases List.mem_cons.mp hm with h | hm
    · obtain ⟨rfl, h5⟩ := Prod.mk.inj h
      exact ⟨1, σ, ov, 1, v, τ', Nat.le_refl _, e_leadShare_2 hlt hI ho hX, hM, h5, (fun q => absurd q (by decide)), hR⟩
    exact absurd hm List.not_mem_nil
  · obtain ⟨h5, hb, hn⟩ := hA
    exact ⟨0, σ, r, 0, v, τ', Nat.zero_le _, e_leadShare_r hI ho hX, hM, h5, (fun _ => ⟨hb.symm, by rw [hb]; exact hn⟩), hK.rel R⟩
