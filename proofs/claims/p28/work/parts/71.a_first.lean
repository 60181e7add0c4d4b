/-! the start: the class and the law's movers alike, and what the start's tables give -/
theorem zv0 : zv sig0 6 = fun x => if x = 2 then 50 else 0 := by
  funext x
  by_cases h0 : x = 0
  · subst h0; rfl
  by_cases h1 : x = 1
  · subst h1; rfl
  by_cases h2 : x = 2
  · subst h2; rfl
  unfold zv
  rw [if_neg h0, if_neg h1, if_neg h2, if_neg h2]
  by_cases h4 : x < 4
  · rw [if_pos h4]
  rw [if_neg h4]
  by_cases h19 : x < 19
  · rw [if_pos h19, show sig0 (6 + 5) = z0 from sig_sa (i := 0) (j := 5) (by omega) (by omega) (by omega)]; rfl
  rw [if_neg h19]
  by_cases h20 : x < 20
  · rw [if_pos h20]
  rw [if_neg h20]
  by_cases h84 : x < 84
  · rw [if_pos h84, show 6 + 1 + (x - 20) % 4 = 6 + 6 * 0 + (1 + (x - 20) % 4) by omega, sig_sa (by omega) (by omega) (by omega)]; rfl
  · rw [if_neg h84]
theorem z0_ok : zOK (fun x => if x = 2 then 50 else 0) := by
  have e0 : ((fun x => if x = 2 then 50 else 0 : Zf) 0).toInt = 0 := by decide
  refine ⟨fun k hk => Or.inl (if_neg (by omega)), fun k hk => ?_, fun k hk => ?_, Or.inl (by decide), ⟨by decide, by decide⟩, ⟨by decide, by decide⟩⟩
  · have : vv (fun x => if x = 2 then 50 else 0) k = 0 := by
      unfold vv
      dsimp only
      rw [if_neg (by omega)]; rfl
    rw [this, e0]; omega
  · have : sp (fun x => if x = 2 then 50 else 0) k = 0 := by
      unfold sp
      dsimp only
      rw [if_neg (by omega)]; rfl
    rw [this]; omega
theorem cf_lo : ∀ i, i < 15 → (cfw i).1 = nI (lo (i + 1)) ∧ (cfw i).1 + (cfw i).2 = nI (lo (i + 1) + sz (i + 1)) := by decide +kernel
theorem rmS0 : RM sig0 := by
  have hz : zOK (zv sig0 6) := by rw [zv0]; exact z0_ok
  refine ⟨⟨hz, fun c h1 h2 => ?_⟩, ⟨0, 0, by omega, by omega, rfl, rfl⟩⟩
  obtain ⟨i, rfl⟩ : ∃ i, c = i + 1 := ⟨c - 1, by omega⟩
  obtain ⟨a1, a2, a3⟩ := sig_co (i := i)
  obtain ⟨b1, b2⟩ := cf_lo i (by omega)
  have e : 44 + 4 * (i + 1) = 48 + 4 * i := by omega
  refine ⟨0, by omega, ⟨by rw [e, a1, b1], by rw [e, a2, b2], by rw [e, a3]; rfl, fun r hr => by omega⟩, ?_⟩
  cases hc : ch (zv sig0 6) (i + 1) 0 with
  | none => rfl
  | some w =>
    exfalso
    have ht := (ch_slot hc).2.2
    rw [zv0] at ht
    have ht : (if 20 + 4 * w = 2 then (50 : Int32) else 0) = 1 := of_decide_eq_true ht
    rw [if_neg (by omega)] at ht
    exact absurd ht (by decide)
def mu0 : Mem := up2 (fun _ _ => 0) 0 2 50
theorem lz0 : lz mu0 = fun x => if x = 2 then 50 else 0 := by
  unfold mu0
  rw [lz_up0 _ (by omega) (by omega)]
  funext x
  unfold up1
  by_cases h : x = 2
  · rw [if_pos h, if_pos h]
  · rw [if_neg h, if_neg h]
    unfold lz
    split
    · rfl
    · split <;> rfl
theorem bd0 : Bd 0 (lz mu0) := by
  rw [lz0]
  refine ⟨by decide, fun k hk => ?_⟩
  have : vv (fun x => if x = 2 then 50 else 0) k = 0 := by
    unfold vv
    dsimp only
    rw [if_neg (by omega)]; rfl
  rw [this]; omega
theorem fs0 : fsl (lz mu0) 16 0 ≠ none := by
  have ht : tk (lz mu0) 0 = false := by rw [lz0]; rfl
  rw [fsl, ht]
  simp
section FI0
variable {args : Array Value} {s : State}
theorem ac_of {ty : FieldType} (h : (Cond.arrayClass ty).before args s = true) : ∃ cA, ArrOfT s cA ty ∧ s.vm.findClass ("[" ++ ty.toString) = some cA := by
  obtain ⟨c, k, comp, h1, h2, h3⟩ := Cond.arrayClass_spec h
  exact ⟨c, fun n z => ⟨(fun k h => by cases h), k, h2, comp, h3⟩, h1⟩
theorem ao_of {C : String} (h : va_AO C s) : ∃ cA, ArrOfT s cA (.object C) ∧ va_RA s cA (.object C) := by
  obtain ⟨comp, c, k, h1, h2, h3, h4, h5⟩ := Cond.arrayOver_spec h
  exact ⟨c, fun n z => ⟨(fun k h => by cases h), k, h3, comp, h4⟩, k, comp, h3, h4, h1, h5⟩
set_option maxHeartbeats 4000000 in
set_option maxRecDepth 100000 in
theorem first_KK (h : ∀ w ∈ tables_1, w.before args s = true) (hL : ∀ w ∈ wsL_law, w.before args s = true) : ∃ (D : va_G) (ay : Nat → ClassId), KK D ay s := by
  obtain ⟨c0, i0, k0⟩ := u_known (C := RX0) (T := TX0) (N := 6) (n := 6) hL inlX0 (h _ (List.mem_of_getElem? (i := 57) (by decide +kernel)))
  obtain ⟨c1, i1, k1⟩ := u_known (C := RX1) (T := TX1) (N := 8) (n := 8) hL inlX1 (h _ (List.mem_of_getElem? (i := 20) (by decide +kernel)))
  obtain ⟨c2, i2, k2⟩ := u_known (C := RX2) (T := TX2) (N := 3) (n := 3) hL inlX2 (h _ (List.mem_of_getElem? (i := 84) (by decide +kernel)))
  obtain ⟨c3, i3, k3⟩ := u_known (C := RX3) (T := TX3) (N := 8) (n := 8) hL inlX3 (h _ (List.mem_of_getElem? (i := 12) (by decide +kernel)))
  obtain ⟨y0, a0, f0⟩ := ac_of (ty := .int) (h _ (List.mem_of_getElem? (i := 54) (by decide +kernel)))
  obtain ⟨y1, a1, f1⟩ := ac_of (ty := .boolean) (h _ (List.mem_of_getElem? (i := 53) (by decide +kernel)))
  obtain ⟨y2, a2, f2⟩ := ac_of (ty := .char) (h _ (List.mem_of_getElem? (i := 99) (by decide +kernel)))
  obtain ⟨y3, a3, f3⟩ := ao_of (C := "LeadTimes$State") (va_AO.of (h _ (List.mem_of_getElem? (i := 55) (by decide +kernel))))
  obtain ⟨y4, a4, f4⟩ := ao_of (C := "LeadTimes$Course") (va_AO.of (h _ (List.mem_of_getElem? (i := 82) (by decide +kernel))))
  obtain ⟨y5, a5, f5⟩ := ac_of (ty := .long) (h _ (List.mem_of_getElem? (i := 533) (by decide +kernel)))
  refine ⟨(fun k => if k = 0 then c0 else if k = 1 then c1 else if k = 2 then c2 else c3, fun k => if k = 0 then i0 else if k = 1 then i1 else if k = 2 then i2 else i3), fun k => if k = 0 then y0 else if k = 1 then y1 else if k = 2 then y2 else if k = 3 then y3 else if k = 4 then y4 else y5, ⟨fun k q hq => ?_, fun k q hq => ?_⟩, va_Nw.of rfl (h _ (List.mem_of_getElem? (i := 451) (by decide +kernel))), va_Nw.of rfl (h _ (List.mem_of_getElem? (i := 141) (by decide +kernel))), va_Nw.of rfl (h _ (List.mem_of_getElem? (i := 420) (by decide +kernel)))⟩
  · match k, hq with
    | 0, hq => cases hq; exact k0
    | 1, hq => cases hq; exact k1
    | 2, hq => cases hq; exact k2
    | 3, hq => cases hq; exact k3
    | k + 4, hq => simp [vwCl] at hq
  · match k, hq with
    | 0, hq => cases hq; exact ⟨a0, f0⟩
    | 1, hq => cases hq; exact ⟨a1, f1⟩
    | 2, hq => cases hq; exact ⟨a2, f2⟩
    | 3, hq => cases hq; exact ⟨a3, f3⟩
    | 4, hq => cases hq; exact ⟨a4, f4⟩
    | 5, hq => cases hq; exact ⟨a5, f5⟩
    | k + 6, hq => simp [tysL] at hq
end FI0
