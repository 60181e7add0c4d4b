/-! looks of both sides, in numbers: loops, ranks, wins, counts, free slots -/
theorem lp_inv {α β : Type} {L : Nat → β → Int32 → Option α} (N : Nat) (I : Nat → β → Prop) (R : α → Prop)
    (hs : ∀ fu k b, k < N → I k b → ∃ b', L (fu + 1) b (nI k) = L fu b' (nI (k + 1)) ∧ I (k + 1) b')
    (he : ∀ fu b, I N b → ∃ a, L (fu + 1) b (nI N) = some a ∧ R a) : ∀ (m k fu : Nat) (b : β), k + m = N → m < fu → I k b → ∃ a, L fu b (nI k) = some a ∧ R a := by
  intro m
  induction m with
  | zero =>
    intro k fu b hk hf hI
    obtain ⟨f, rfl⟩ : ∃ f, fu = f + 1 := ⟨fu - 1, by omega⟩
    have : k = N := by omega
    subst this
    exact he f b hI
  | succ m ih =>
    intro k fu b hk hf hI
    obtain ⟨f, rfl⟩ : ∃ f, fu = f + 1 := ⟨fu - 1, by omega⟩
    obtain ⟨b', e, hI'⟩ := hs f k b (by omega) hI
    rw [e]
    exact ih (k + 1) f b' (by omega) (by omega) hI'
theorem c15 {c : Nat} (h : c ≤ 15) : ¬ (15 : Int32) < nI c := fun q => absurd ((nI_lt_iff (a := 15) (by omega) (by omega)).mp q) (by omega)
theorem c16 : (15 : Int32) < nI 16 := by decide
theorem d16 {k : Nat} (h : k < 16) : ¬ (16 : Int32) ≤ nI k := fun q => absurd ((nI_le_iff (a := 16) (by omega) (by omega)).mp q) (by omega)
theorem e16 : (16 : Int32) ≤ nI 16 := by decide
theorem if_b0 {α : Type} (a b : α) : (if b2i false = 0 then a else b) = a := if_pos rfl
theorem if_b1 {α : Type} (a b : α) : (if b2i true = 0 then a else b) = b := if_neg (by decide)
theorem if_c0 {α : Type} (a b : α) : (if ¬ b2i false = 0 then a else b) = b := if_neg (by decide)
theorem if_c1 {α : Type} (a b : α) : (if ¬ b2i true = 0 then a else b) = a := if_pos (by decide)
theorem ad0 (x : Int32) : x + b2i false = x := by show x + 0 = x; simp
theorem ad00 (x : Int32) : x + 0 = x := by simp
theorem ct_up (p : Nat → Bool) (k : Nat) : nI (fb_ct p k) + b2i (p k) = nI (fb_ct p (k + 1)) := by
  rw [fb_ct_succ]
  cases p k with
  | false => show nI (fb_ct p k) + nI 0 = _; rw [nI_add]; rfl
  | true => show nI (fb_ct p k) + nI 1 = _; rw [nI_add]; rfl
def rkP (z : Zf) (i j : Nat) : Bool := tk z j && ah z 0 1 j i
def wnP (z : Zf) (i c : Nat) : Bool := decide (1 ≤ c) && decide (ch z c 0 = some i)
theorem ah_irr (z : Zf) (a b : Int) (i : Nat) : ah z a b i i = false := lx_irr _ _ _ _
theorem enc_some {w : Option Nat} {i : Nat} (hw : ∀ k, w = some k → k < 2 ^ 31) (hi : i < 2 ^ 31) : enc w = nI i ↔ w = some i := by
  cases w with
  | none => simp only [enc, reduceCtorEq, iff_false]; exact fun h => nI_ne_m1 hi h.symm
  | some k => simp only [enc, Option.some.injEq]; exact nI_eq_iff (hw k rfl) hi
theorem ch_31 {z : Zf} {c r : Nat} (h1 : 1 ≤ c) (h2 : c ≤ 15) : ∀ k, ch z c r = some k → k < 2 ^ 31 := fun k h => by
  have := ch_slot h
  have := sz_lo h1 h2
  omega
section S30
variable {σ : Mem} {n : Nat}
theorem s_speedI {i : Nat} (h : i < 16) : F_X1_speedOf n (nI i) σ = some (σ (n + 3) i) := s_speed h
theorem s_isAhead {i j : Nat} {x : Int32} (hz : zOK (zv σ n)) (hi : i < 16) (hj : j < 16) (hx : -9999 ≤ x.toInt ∧ x.toInt ≤ 9999) : F_X1_isAhead n (nI i) (nI j) x σ = some (b2i (ah (zv σ n) x.toInt 1 i j)) := by
  unfold F_X1_isAhead
  have hs := hz.s hi
  rw [zv_sp σ n hi] at hs
  rw [s_speed hi, Option.bind_some, s_would hz hi hj hs hx, Option.bind_some, ← zv_sp σ n hi, wb_ah]
theorem tk_n0 {k : Nat} (hz : zOK (zv σ n)) (h : k < 16) : σ (n + 1) k = b2i (tk (zv σ n) k) := by
  rw [← zv_tk σ n h]; exact hz.t h
theorem s_rank {i : Nat} (hz : zOK (zv σ n)) (hi : i < 16) : F_X1_rankOf n (nI i) σ = some (nI (fb_ct (rkP (zv σ n) i) 16)) := by
  unfold F_X1_rankOf
  obtain ⟨a, e, rfl⟩ := lp_inv (L := L_X1_rankOf_4 n (nI i) σ) 16 (fun k b => b = nI (fb_ct (rkP (zv σ n) i) k)) (fun a => a = nI (fb_ct (rkP (zv σ n) i) 16))
    (fun fu k b hk hb => by
      subst hb
      refine ⟨_, ?_, rfl⟩
      rw [L_X1_rankOf_4, if_neg (d16 hk), if_pos (inb_nI hk (by decide)), nI_clamp (by omega), tk_n0 hz hk]
      have hq := s_isAhead (x := 0) hz hk hi (by decide)
      rw [show nI k + (1 : Int32) = nI (k + 1) from nI_1 k, ← ct_up (rkP (zv σ n) i) k]
      unfold rkP
      cases ht : tk (zv σ n) k with
      | false => simp only [if_b0, Option.bind_some, Bool.false_and, Bool.and_false, ad0, ad00]
      | true =>
        rw [if_b1, hq, Option.bind_some]
        show Option.bind (if b2i (ah (zv σ n) 0 1 k i) = 0 then _ else _) _ = _
        cases ah (zv σ n) 0 1 k i with
        | false => simp only [if_b0, Option.bind_some, Bool.false_and, Bool.and_false, ad0, ad00]
        | true => rw [if_b1, Option.bind_some]; rfl)
    (fun fu b hb => ⟨b, by rw [L_X1_rankOf_4, if_pos e16], hb⟩) 16 0 FU 0 rfl (by decide) rfl
  rw [show (0 : Int32) = nI 0 from rfl] at e ⊢
  rw [e]; rfl
theorem s_movers (hz : zOK (zv σ n)) : F_X1_moverCount n σ = some (nI (fb_ct (tk (zv σ n)) 16)) := by
  unfold F_X1_moverCount
  obtain ⟨a, e, rfl⟩ := lp_inv (L := L_X1_moverCount_4 n σ) 16 (fun k b => b = nI (fb_ct (tk (zv σ n)) k)) (fun a => a = nI (fb_ct (tk (zv σ n)) 16))
    (fun fu k b hk hb => by
      subst hb
      refine ⟨_, ?_, rfl⟩
      rw [L_X1_moverCount_4, if_neg (d16 hk), if_pos (inb_nI hk (by decide)), nI_clamp (by omega), tk_n0 hz hk]
      rw [show nI k + (1 : Int32) = nI (k + 1) from nI_1 k, ← ct_up (tk (zv σ n)) k]
      cases ht : tk (zv σ n) k with
      | false => simp only [if_b0, Option.bind_some, Bool.false_and, Bool.and_false, ad0, ad00]
      | true => rw [if_b1, Option.bind_some]; rfl)
    (fun fu b hb => ⟨b, by rw [L_X1_moverCount_4, if_pos e16], hb⟩) 16 0 FU 0 rfl (by decide) rfl
  rw [show (0 : Int32) = nI 0 from rfl] at e ⊢
  rw [e]; rfl
theorem zv_turn (σ : Mem) (n : Nat) {c : Nat} (h1 : 1 ≤ c) (h2 : c ≤ 15) : zv σ n (3 + c) = σ (n + 5) c := zv_t σ n h1 h2
theorem s_allTurned : F_X1_allTurned n σ = some (sumT (fun c => zv σ n (3 + c)) 15 1 0) := by
  have key : ∀ (m c fu : Nat) (a : Int32), c + m = 16 → 1 ≤ c → m < fu → L_X1_allTurned_4 n σ fu a (nI c) = some (sumT (fun c => zv σ n (3 + c)) m c a) := by
    intro m
    induction m with
    | zero =>
      intro c fu a hc h1 hf
      obtain ⟨f, rfl⟩ : ∃ f, fu = f + 1 := ⟨fu - 1, by omega⟩
      have : c = 16 := by omega
      subst this
      rw [L_X1_allTurned_4, if_pos c16]; rfl
    | succ m ih =>
      intro c fu a hc h1 hf
      obtain ⟨f, rfl⟩ : ∃ f, fu = f + 1 := ⟨fu - 1, by omega⟩
      rw [L_X1_allTurned_4, if_neg (c15 (by omega)), if_pos (inb_nI (by omega) (by decide)), nI_clamp (by omega), show nI c + (1 : Int32) = nI (c + 1) from nI_1 c, ih (c + 1) f _ (by omega) (by omega) (by omega), sumT, zv_turn σ n h1 (by omega)]
  unfold F_X1_allTurned
  rw [show (1 : Int32) = nI 1 from rfl, key 15 1 FU 0 rfl (by omega) (by decide)]; rfl
theorem s_turnedOf {c : Nat} (h1 : 1 ≤ c) (h2 : c ≤ 15) : F_X1_turnedOf n (nI c) σ = some (zv σ n (3 + c)) := by
  unfold F_X1_turnedOf
  have e : (nI c).toInt = (c : Int) := nI_toInt (by omega)
  have q : decide ((1 : Int32).toInt ≤ (nI c).toInt ∧ (nI c).toInt ≤ (15 : Int32).toInt) = true := by
    rw [e, show (1 : Int32).toInt = 1 from by decide, show (15 : Int32).toInt = 15 from by decide, decide_eq_true_eq]; omega
  rw [s_within, q, Option.bind_some, if_neg (by decide), if_pos (inb_nI (by omega) (by decide)), nI_clamp (by omega), zv_turn σ n h1 h2]
/-- the first slot that is free, from k on -/
def fsl (z : Zf) : Nat → Nat → Option Nat
  | 0, _ => none
  | m + 1, k => if tk z k then fsl z m (k + 1) else some k
theorem fsl_some {z : Zf} : ∀ (m k i : Nat), fsl z m k = some i → k ≤ i ∧ i < k + m ∧ tk z i = false := by
  intro m
  induction m with
  | zero => intro k i h; cases h
  | succ m ih =>
    intro k i h
    rw [fsl] at h
    cases ht : tk z k with
    | false => rw [ht, if_neg (by decide)] at h; cases h; exact ⟨Nat.le_refl _, by omega, ht⟩
    | true => rw [ht, if_pos rfl] at h; obtain ⟨a, b, c⟩ := ih (k + 1) i h; exact ⟨by omega, by omega, c⟩
theorem s_free (hz : zOK (zv σ n)) : F_X1_freeSlot n σ = some (enc (fsl (zv σ n) 16 0)) := by
  have key : ∀ (m k fu : Nat), k + m = 16 → m < fu → L_X1_freeSlot_2 n σ fu (nI k) = some (enc (fsl (zv σ n) m k)) := by
    intro m
    induction m with
    | zero =>
      intro k fu hc hf
      obtain ⟨f, rfl⟩ : ∃ f, fu = f + 1 := ⟨fu - 1, by omega⟩
      have : k = 16 := by omega
      subst this
      rw [L_X1_freeSlot_2, if_pos e16]; rfl
    | succ m ih =>
      intro k fu hc hf
      obtain ⟨f, rfl⟩ : ∃ f, fu = f + 1 := ⟨fu - 1, by omega⟩
      rw [L_X1_freeSlot_2, if_neg (d16 (by omega)), if_pos (inb_nI (by omega) (by decide)), nI_clamp (by omega), tk_n0 hz (by omega), fsl]
      cases ht : tk (zv σ n) k with
      | false => rw [if_neg (by decide), if_neg (by decide)]; rfl
      | true => rw [if_pos (by decide), if_pos rfl, show nI k + (1 : Int32) = nI (k + 1) from nI_1 k, ih (k + 1) f (by omega) (by omega)]
  exact key 16 0 FU rfl (by decide)
theorem s_winnerOf {c : Nat} (h : CA σ) (h1 : 1 ≤ c) (h2 : c ≤ 15) : F_X3_winnerOf (nI c) σ = some (enc (ch (zv σ 6) c 0)) := by
  unfold F_X3_winnerOf
  rw [s_courseOf h1 h2, Option.bind_some, show (0 : Int32) = nI 0 from rfl, s_winnerIn (h.2 c h1 h2) (by omega), Option.bind_some]
theorem s_wins {i : Nat} (h : CA σ) (hi : i < 16) : F_X3_winsOf (nI i) σ = some (nI (fb_ct (wnP (zv σ 6) i) 16)) := by
  unfold F_X3_winsOf
  obtain ⟨a, e, rfl⟩ := lp_inv (L := L_X3_winsOf_4 (nI i) σ) 16 (fun k b => 1 ≤ k ∧ b = nI (fb_ct (wnP (zv σ 6) i) k)) (fun a => a = nI (fb_ct (wnP (zv σ 6) i) 16))
    (fun fu k b hk hb => by
      obtain ⟨h1, rfl⟩ := hb
      refine ⟨_, ?_, by omega, rfl⟩
      rw [L_X3_winsOf_4, if_neg (c15 (by omega)), s_winnerOf h h1 (by omega), Option.bind_some, show nI k + (1 : Int32) = nI (k + 1) from nI_1 k, ← ct_up (wnP (zv σ 6) i) k]
      simp only [enc_some (ch_31 (z := zv σ 6) (r := 0) h1 (show k ≤ 15 by omega)) (show i < 2 ^ 31 by omega)]
      unfold wnP
      by_cases e : ch (zv σ 6) k 0 = some i
      · simp [e, h1]; rfl
      · simp [e, ad0])
    (fun fu b hb => ⟨b, by rw [L_X3_winsOf_4, if_pos c16], hb.2⟩) 15 1 FU 0 rfl (by decide) ⟨by omega, by unfold fb_ct fb_ct wnP; rfl⟩
  rw [show nI 1 = (1 : Int32) from rfl] at e
  rw [e]; rfl
end S30
section M30
variable {τ : Mem × Int64}
end M30
