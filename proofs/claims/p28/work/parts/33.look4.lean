/-! the looks, on: nextTurn, span, count, setting, leaderAfter, turnsIn -/
def ntS (z : Zf) (k : Nat) : Int32 := match ef z with
  | none => if k = 3 then -1 else 0
  | some g => if k = 0 then wnum z g 1 (z 0) else if k = 1 then wden z g 1 else if k = 2 then nI (fb_ct (fun d => decide (1 ≤ d) && tieB z g d) 16) else nI g
theorem ef_ok {z : Zf} {g : Nat} (h : ef z = some g) : 1 ≤ g ∧ g ≤ 15 ∧ ∃ k, ch z g 1 = some k := efF_ok 15 1 none (by omega) (by omega) (fun _ h => by cases h) g h
theorem lt4 {k : Nat} (h : k ≤ 3) : k = 0 ∨ k = 1 ∨ k = 2 ∨ k = 3 := by omega
theorem s_nextTurn {σ : Mem} {k : Nat} (h : CA σ) (hk : k ≤ 3) : F_X3_nextTurn (nI k) σ = some (.inr (ntS (zv σ 6) k)) := by
  unfold F_X3_nextTurn ntS
  rw [s_first h, Option.bind_some]
  cases he : ef (zv σ 6) with
  | none =>
    have q : ∀ {α : Type} (a b : α), (if ¬ enc none = -1 then a else b) = b := fun a b => if_neg (fun e : ¬ enc none = -1 => e rfl)
    rcases lt4 hk with rfl | rfl | rfl | rfl
    · rw [if_pos (by decide), q]; rfl
    · rw [if_neg (by decide), if_pos (by decide), q]; rfl
    · rw [if_neg (by decide), if_neg (by decide), if_pos (by decide), q]; rfl
    · rw [if_neg (by decide), if_neg (by decide), if_neg (by decide), if_pos (by decide)]; rfl
  | some g =>
    obtain ⟨g1, g2, j, g3⟩ := ef_ok he
    have q : ∀ {α : Type} (a b : α), (if ¬ enc (some g) = -1 then a else b) = a := fun a b => if_pos (show ¬ enc (some g) = -1 from nI_ne_m1 (by omega))
    have hC := h.2 g g1 g2
    rcases lt4 hk with rfl | rfl | rfl | rfl
    · rw [if_pos (by decide), q, show enc (some g) = nI g from rfl, s_courseOf g1 g2, Option.bind_some, show (1 : Int32) = nI 1 from rfl, s_num hC (by omega)]; rfl
    · rw [if_neg (by decide), if_pos (by decide), q, show enc (some g) = nI g from rfl, s_courseOf g1 g2, Option.bind_some, show (1 : Int32) = nI 1 from rfl, s_den hC (by omega)]; rfl
    · rw [if_neg (by decide), if_neg (by decide), if_pos (by decide), q, show enc (some g) = nI g from rfl, s_turningWith h g1 g2 g3]; rfl
    · rw [if_neg (by decide), if_neg (by decide), if_neg (by decide), if_pos (by decide)]; rfl
/-- one length -/
theorem len_one {z : Zf} {l1 l2 : Nat} (h1 : ch z 1 l1 = none) (h2 : ∀ r, r < l2 → ∃ w, ch z 1 r = some w) : l2 ≤ l1 := by
  rcases Nat.lt_or_ge l1 l2 with q | q
  · obtain ⟨w, e⟩ := h2 l1 q
    rw [h1] at e; cases e
  · exact q
def spS (z : Zf) (r k : Nat) : Int32 := if k = 0 then enc (ch z 1 r) else if k = 1 then wnum z 1 r (z 0) else wden z 1 r
theorem lt3 {k : Nat} (h : k ≤ 2) : k = 0 ∨ k = 1 ∨ k = 2 := by omega
theorem lt2 {k : Nat} (h : k ≤ 1) : k = 0 ∨ k = 1 := by omega
theorem tw_at (z : Zf) {c : Nat} {x : Int} (h1 : 1 ≤ c) (h2 : c ≤ 15) (hx : 0 ≤ x) : win z x 1 c = ch z c (tw z c x) := by
  have T := tw_spec (z := z) x h1 h2
  cases hc : ch z c (tw z c x) with
  | none =>
    rcases Nat.eq_zero_or_pos (tw z c x) with q | q
    · rw [q] at hc
      exact win_none (a := 0) (b := 1) hc
    · obtain ⟨k, e, -⟩ := T.1 (tw z c x) q (Nat.le_refl _)
      rw [hc] at e; cases e
  | some w =>
    refine ch_at hx hc ?_ T.2
    rcases Nat.eq_zero_or_pos (tw z c x) with q | q
    · rw [q]
      show (0 : Int) ≤ x * 1
      omega
    · obtain ⟨k, -, e⟩ := T.1 (tw z c x) q (Nat.le_refl _)
      exact e
theorem s_turnsIn {σ : Mem} {x : Int32} (h : CA σ) (hx : 0 ≤ x.toInt ∧ x.toInt ≤ 9999) : ∀ (m c fu : Nat) (a : Int32), c + m = 16 → 1 ≤ c → m < fu → L_X3_turnsIn_25 x σ fu a (nI c) = some (sumT (fun c => nI (tw (zv σ 6) c x.toInt)) m c a) := by
  intro m
  induction m with
  | zero =>
    intro c fu a hc h1 hf
    obtain ⟨f, rfl⟩ : ∃ f, fu = f + 1 := ⟨fu - 1, by omega⟩
    have : c = 16 := by omega
    subst this
    rw [L_X3_turnsIn_25, if_pos c16]; rfl
  | succ m ih =>
    intro c fu a hc h1 hf
    obtain ⟨f, rfl⟩ : ∃ f, fu = f + 1 := ⟨fu - 1, by omega⟩
    rw [L_X3_turnsIn_25, if_neg (c15 (by omega)), s_courseOf h1 (by omega), Option.bind_some, s_turnsWithin h.1 (h.2 c h1 (by omega)) h1 (by omega) hx, Option.bind_some, show nI c + (1 : Int32) = nI (c + 1) from nI_1 c, ih (c + 1) f _ (by omega) (by omega) (by omega), sumT]
