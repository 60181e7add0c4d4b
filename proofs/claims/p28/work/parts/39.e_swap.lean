/-! passToTurn, swap -/
theorem ceil_red {g a b : Nat} (hg : 0 < g) (hb : 0 < b) : (g * a + g * b - 1) / (g * b) = (a + b - 1) / b := by
  have h1 := Nat.div_mul_le_self (a + b - 1) b
  have h2 : a + b - 1 < ((a + b - 1) / b + 1) * b := by
    have := Nat.lt_div_mul_add hb (a := a + b - 1)
    rw [Nat.add_mul, Nat.one_mul]; exact this
  generalize (a + b - 1) / b = q at h1 h2 ⊢
  have e1 : q * (g * b) = g * (q * b) := by rw [Nat.mul_left_comm]
  have e2 : (q + 1) * (g * b) = g * ((q + 1) * b) := by rw [Nat.mul_left_comm]
  have e3 : g * a + g * b = g * (a + b) := (Nat.mul_add g a b).symm
  refine Nat.div_eq_of_lt_le ?_ ?_
  · rw [e1, e3]
    have : g * (q * b) ≤ g * (a + b - 1) := Nat.mul_le_mul_left g h1
    have e4 : g * (a + b - 1) = g * (a + b) - g := by rw [Nat.mul_sub, Nat.mul_one]
    omega
  · rw [e2, e3]
    have : g * (a + b) ≤ g * ((q + 1) * b) := Nat.mul_le_mul_left g (by omega)
    have : 0 < g * (a + b) := Nat.mul_pos hg (by omega)
    omega
/-! swap -/
def sx (z : Zf) (i j o : Nat) : Zf := up1 (up1 z (20 + 4 * i + o) (z (20 + 4 * j + o))) (20 + 4 * j + o) (z (20 + 4 * i + o))
def pi (i j k : Nat) : Nat := if k = j then i else if k = i then j else k
theorem sx_ne {z : Zf} {i j o k o' : Nat} (h : o' ≠ o) (ho : o < 4) (ho' : o' < 4) : sx z i j o (20 + 4 * k + o') = z (20 + 4 * k + o') := by
  unfold sx up1; rw [if_neg (by omega), if_neg (by omega)]
theorem sx_lo {z : Zf} {i j o x : Nat} (h : x < 20) : sx z i j o x = z x := by
  unfold sx up1; rw [if_neg (by omega), if_neg (by omega)]
theorem sx_eq {z : Zf} {i j o k : Nat} : sx z i j o (20 + 4 * k + o) = z (20 + 4 * (pi i j k) + o) := by
  unfold sx up1 pi
  by_cases h1 : k = j
  · rw [if_pos (by omega), if_pos h1]
  · rw [if_neg (by omega), if_neg h1]
    by_cases h2 : k = i
    · rw [if_pos (by omega), if_pos h2]
    · rw [if_neg (by omega), if_neg h2]
theorem sx_comm {z : Zf} {i j o : Nat} : up1 (up1 z (20 + 4 * j + o) (z (20 + 4 * i + o))) (20 + 4 * i + o) (z (20 + 4 * j + o)) = sx z i j o := by
  funext x
  unfold sx up1
  by_cases h1 : x = 20 + 4 * i + o
  · by_cases h2 : x = 20 + 4 * j + o
    · have : i = j := by omega
      subst this
      simp [h1]
    · rw [if_pos h1, if_neg h2, if_pos h1]
  · rw [if_neg h1]
    by_cases h2 : x = 20 + 4 * j + o
    · rw [if_pos h2, if_pos h2]
    · rw [if_neg h2, if_neg h2, if_neg h1]
def sxA (z : Zf) (i j : Nat) : Zf := sx (sx (sx (sx z i j 0) i j 1) i j 2) i j 3
theorem sxA_at {z : Zf} {i j k o : Nat} (ho : o < 4) : sxA z i j (20 + 4 * k + o) = z (20 + 4 * (pi i j k) + o) := by
  unfold sxA
  rcases (show o = 0 ∨ o = 1 ∨ o = 2 ∨ o = 3 by omega) with rfl | rfl | rfl | rfl
  · rw [sx_ne (by omega) (by omega) (by omega), sx_ne (by omega) (by omega) (by omega), sx_ne (by omega) (by omega) (by omega), sx_eq]
  · rw [sx_ne (by omega) (by omega) (by omega), sx_ne (by omega) (by omega) (by omega), sx_eq, sx_ne (by omega) (by omega) (by omega)]
  · rw [sx_ne (by omega) (by omega) (by omega), sx_eq, sx_ne (by omega) (by omega) (by omega), sx_ne (by omega) (by omega) (by omega)]
  · rw [sx_eq, sx_ne (by omega) (by omega) (by omega), sx_ne (by omega) (by omega) (by omega), sx_ne (by omega) (by omega) (by omega)]
theorem sxA_ok {z : Zf} {i j : Nat} (hz : zOK z) (hi : i < 16) (hj : j < 16) : zOK (sxA z i j) := by
  have hl : ∀ x, x < 20 → sxA z i j x = z x := fun x hx => by unfold sxA; rw [sx_lo hx, sx_lo hx, sx_lo hx, sx_lo hx]
  have hp : ∀ k, k < 16 → pi i j k < 16 := fun k hk => by unfold pi; split <;> (try split) <;> omega
  refine ⟨fun k hk => ?_, fun k hk => ?_, fun k hk => ?_, ?_, ?_, ?_⟩
  · have := sxA_at (z := z) (i := i) (j := j) (k := k) (o := 0) (by omega)
    rw [Nat.add_zero, Nat.add_zero] at this
    rw [this]; exact hz.1 _ (hp k hk)
  · unfold vv; rw [hl 0 (by omega), sxA_at (by omega)]; exact hz.2.1 _ (hp k hk)
  · unfold sp; rw [sxA_at (by omega)]; exact hz.2.2.1 _ (hp k hk)
  · rw [hl 1 (by omega)]; exact hz.2.2.2.1
  · rw [hl 0 (by omega)]; exact hz.2.2.2.2.1
  · rw [hl 2 (by omega)]; exact hz.2.2.2.2.2
theorem s_exIn {σ : Mem} {i j o : Nat} (hi : i < 16) (hj : j < 16) (h1 : 1 ≤ o) (h4 : o < 4) : ∃ σ', F_X1_exchangeIn (6 + 1 + o) (nI i) (nI j) σ = some σ' ∧ zv σ' 6 = sx (zv σ 6) i j o ∧ ∀ x, x < 6 ∨ 12 ≤ x → σ' x = σ x := by
  have w : ∀ k, k < 16 → F_X3_isWithin (nI k) (0 : Int32) ((16 : Int32) - (1 : Int32)) = some 1 := fun k hk => by
    rw [s_within, decide_eq_true]
    · rfl
    · rw [nI_toInt (by omega), show (0 : Int32).toInt = 0 from by decide, show ((16 : Int32) - (1 : Int32)).toInt = 15 from by decide]; omega
  have ii : inb (nI i) 16 = true := inb_nI hi (by decide)
  have ij : inb (nI j) 16 = true := inb_nI hj (by decide)
  refine ⟨up2 (up2 σ (6 + 1 + o) j (σ (6 + 1 + o) i)) (6 + 1 + o) i (σ (6 + 1 + o) j), ?_, ?_, fun x hx => ?_⟩
  · unfold F_X1_exchangeIn
    rw [w i hi, Option.bind_some, if_neg (by decide), w j hj, Option.bind_some, if_neg (by decide), if_pos ij, if_pos ii, if_pos ij, if_pos ii, nI_clamp (by omega), nI_clamp (by omega)]
  · rw [zv_up_s _ 6 (k := i) (j := o) hi h4 rfl, zv_up_s _ 6 (k := j) (j := o) hj h4 rfl, ← zv_s σ 6 hi h4, ← zv_s σ 6 hj h4]
    exact sx_comm
  · rw [up2_ne _ (x := 6 + 1 + o) (y := x) (by omega), up2_ne _ (x := 6 + 1 + o) (y := x) (by omega)]
theorem s_exchange {σ : Mem} {i j : Nat} (hz : zOK (zv σ 6)) (hi : i < 16) (hj : j < 16) : ∃ σ', F_X1_exchange 6 (nI i) (nI j) σ = some σ' ∧ zv σ' 6 = sxA (zv σ 6) i j ∧ ∀ x, x < 6 ∨ 12 ≤ x → σ' x = σ x := by
  have ii : inb (nI i) 16 = true := inb_nI hi (by decide)
  have ij : inb (nI j) 16 = true := inb_nI hj (by decide)
  have t1 : vp_nar .boolean (σ (6 + 1) i) = σ 7 i := by rw [tk_n0 hz hi, nar_b]
  have t2 : vp_nar .boolean (σ (6 + 1) j) = σ 7 j := by rw [tk_n0 hz hj, nar_b]
  obtain ⟨σ0, h0⟩ : ∃ m : Mem, m = up2 (up2 σ 7 j (σ 7 i)) 7 i (σ 7 j) := ⟨_, rfl⟩
  have z0 : zv σ0 6 = sx (zv σ 6) i j 0 := by
    have q1 := zv_s σ 6 hi (j := 0) (by omega)
    have q2 := zv_s σ 6 hj (j := 0) (by omega)
    rw [h0, zv_up_s _ 6 (k := i) (j := 0) hi (by omega) rfl, zv_up_s _ 6 (k := j) (j := 0) hj (by omega) rfl]
    rw [show σ 7 i = zv σ 6 (20 + 4 * i + 0) from q1.symm, show σ 7 j = zv σ 6 (20 + 4 * j + 0) from q2.symm]
    exact sx_comm
  have f0 : ∀ x, x < 6 ∨ 12 ≤ x → σ0 x = σ x := fun x hx => by
    rw [h0, up2_ne _ (x := 7) (y := x) (by omega), up2_ne _ (x := 7) (y := x) (by omega)]
  obtain ⟨σ1, a1, z1, f1⟩ := s_exIn (σ := σ0) (o := 1) hi hj (by omega) (by omega)
  obtain ⟨σ2, a2, z2, f2⟩ := s_exIn (σ := σ1) (o := 2) hi hj (by omega) (by omega)
  obtain ⟨σ3, a3, z3, f3⟩ := s_exIn (σ := σ2) (o := 3) hi hj (by omega) (by omega)
  refine ⟨σ3, ?_, by rw [z3, z2, z1, z0]; rfl, fun x hx => by rw [f3 x hx, f2 x hx, f1 x hx, f0 x hx]⟩
  unfold F_X1_exchange
  rw [s_isSlotN hi, Option.bind_some, if_neg (by decide), s_isSlotN hj, Option.bind_some, if_pos (by decide), if_pos ij, if_pos ii, if_pos ij, if_pos ii, nI_clamp (by omega), nI_clamp (by omega), t1, t2]
  show Option.bind (F_X1_exchangeIn (6 + 1 + 1) (nI i) (nI j) (up2 (up2 σ 7 j (σ 7 i)) 7 i (σ 7 j))) _ = _
  rw [← h0, a1, Option.bind_some]
  show Option.bind (F_X1_exchangeIn (6 + 1 + 2) (nI i) (nI j) σ1) _ = _
  rw [a2, Option.bind_some]
  show Option.bind (F_X1_exchangeIn (6 + 1 + 3) (nI i) (nI j) σ2) _ = _
  rw [a3]; rfl
theorem CA.fr {σ σ' : Mem} (h : CA σ) (e : ∀ x, x ≠ 3 → σ' x = σ x) : CA σ' := by
  have hz : zv σ' 6 = zv σ 6 := zv_cong (fun j k hj => by rw [e _ (by omega)])
  exact ⟨by rw [hz]; exact h.1, fun c c1 c2 => by rw [hz]; exact (h.2 c c1 c2).fr (fun j hj => e _ (by omega))⟩
theorem s_won {σ : Mem} {a b : Int32} (C : CA σ) : ∃ σ', L_X3_swap_30 a b FU 1 σ = some σ' ∧ (∀ x, x ≠ 3 → σ' x = σ x) ∧ ∀ c, 1 ≤ c → c ≤ 15 → σ' 3 c = enc (ch (zv σ 6) c 0) := by
  have key : ∀ (m k fu : Nat) (σ1 : Mem), k + m = 16 → 1 ≤ k → m < fu → (∀ x, x ≠ 3 → σ1 x = σ x) → (∀ c, 1 ≤ c → c < k → σ1 3 c = enc (ch (zv σ 6) c 0)) → ∃ σ', L_X3_swap_30 a b fu (nI k) σ1 = some σ' ∧ (∀ x, x ≠ 3 → σ' x = σ x) ∧ ∀ c, 1 ≤ c → c ≤ 15 → σ' 3 c = enc (ch (zv σ 6) c 0) := by
    intro m
    induction m with
    | zero =>
      intro k fu σ1 hk h1 hf ho hc
      obtain ⟨f, rfl⟩ : ∃ f, fu = f + 1 := ⟨fu - 1, by omega⟩
      have : k = 16 := by omega
      subst this
      exact ⟨σ1, by rw [L_X3_swap_30, if_pos c16], ho, fun c c1 c2 => hc c c1 (by omega)⟩
    | succ m ih =>
      intro k fu σ1 hk h1 hf ho hc
      obtain ⟨f, rfl⟩ : ∃ f, fu = f + 1 := ⟨fu - 1, by omega⟩
      have C1 := C.fr ho
      have z1 : zv σ1 6 = zv σ 6 := zv_cong (fun j k hj => by rw [ho _ (by omega)])
      rw [L_X3_swap_30, if_neg (c15 (by omega)), s_winnerOf C1 h1 (by omega), Option.bind_some, if_pos (inb_nI (by omega) (by decide)), nI_clamp (by omega), show nI k + (1 : Int32) = nI (k + 1) from nI_1 k, z1]
      refine ih (k + 1) f _ (by omega) (by omega) (by omega) (fun x hx => by rw [up2_ne σ1 (x := 3) (y := x) hx]; exact ho x hx) (fun c c1 c2 => ?_)
      unfold up2
      by_cases q : c = k
      · rw [if_pos ⟨rfl, q⟩, q]
      · rw [if_neg (fun w => q w.2)]; exact hc c c1 (by omega)
  exact key 15 1 FU σ rfl (by omega) (by decide) (fun _ _ => rfl) (fun c c1 c2 => by omega)
def mp (a b x : Int32) : Int32 := if ¬ x = a then (if ¬ x = b then x else a) else b
theorem mp_inv (a b x : Int32) : mp a b (mp a b x) = x := by
  unfold mp
  by_cases h1 : x = a
  · by_cases h3 : b = a
    · simp [h1, h3]
    · simp [h1, h3]
  · by_cases h2 : x = b
    · simp [h1, h2]
    · simp [h1, h2]
theorem mp_sym (a b x y : Int32) : x = mp a b y ↔ mp a b x = y := by
  constructor
  · intro h; rw [h, mp_inv]
  · intro h; rw [← h, mp_inv]
def swP (z z' : Zf) (a b : Int32) (c : Nat) : Bool := decide (1 ≤ c) && !decide (enc (ch z' c 0) = mp a b (enc (ch z c 0)))
theorem s_changed {σ : Mem} {z : Zf} {a b : Int32} (C : CA σ) (h3 : ∀ c, 1 ≤ c → c ≤ 15 → σ 3 c = enc (ch z c 0)) : L_X3_swap_71 a b σ FU 0 1 = some (nI (fb_ct (swP z (zv σ 6) a b) 16)) := by
  obtain ⟨r, e, rfl⟩ := lp_inv (L := L_X3_swap_71 a b σ) 16 (fun k v => 1 ≤ k ∧ v = nI (fb_ct (swP z (zv σ 6) a b) k)) (fun v => v = nI (fb_ct (swP z (zv σ 6) a b) 16))
    (fun fu k v hk hv => by
      obtain ⟨h1, rfl⟩ := hv
      refine ⟨_, ?_, by omega, rfl⟩
      rw [L_X3_swap_71, if_neg (c15 (by omega)), if_pos (inb_nI (by omega) (by decide)), nI_clamp (by omega), h3 k h1 (by omega), s_winnerOf C h1 (by omega), show nI k + (1 : Int32) = nI (k + 1) from nI_1 k, ← ct_up (swP z (zv σ 6) a b) k]
      have hm : (if ¬ enc (ch z k 0) = a then (if ¬ enc (ch z k 0) = b then some (enc (ch z k 0)) else some a) else some b) = some (mp a b (enc (ch z k 0))) := by
        unfold mp; split
        · split <;> rfl
        · rfl
      rw [hm, Option.bind_some, Option.bind_some]
      unfold swP
      by_cases q : enc (ch (zv σ 6) k 0) = mp a b (enc (ch z k 0))
      · rw [if_pos q, Option.bind_some]; simp [q, ad0]
      · rw [if_neg q, Option.bind_some]; simp [q, h1]; rfl)
    (fun fu v hv => ⟨v, by rw [L_X3_swap_71, if_pos c16], hv.2⟩) 15 1 FU 0 rfl (by decide) ⟨by omega, by simp [fb_ct, swP]; rfl⟩
  exact e
