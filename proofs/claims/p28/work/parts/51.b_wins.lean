/-! the law's movers as a row of 84, as the class's; first and wins in numbers -/
def lz (μ : Mem) : Zf := fun x => if x = 3 ∨ x = 19 ∨ 84 ≤ x then 0 else if x < 19 then μ 0 x else μ 1 (x - 20)
theorem lz_lo (μ : Mem) {k : Nat} (h : k < 3) : lz μ k = μ 0 k := by
  unfold lz; rw [if_neg (by omega), if_pos (by omega)]
theorem lz_t (μ : Mem) {c : Nat} (h1 : 1 ≤ c) (h2 : c ≤ 15) : lz μ (3 + c) = μ 0 (3 + c) := by
  unfold lz; rw [if_neg (by omega), if_pos (by omega)]
theorem lz_s (μ : Mem) {k j : Nat} (h1 : k < 16) (h2 : j < 4) : lz μ (20 + 4 * k + j) = μ 1 (4 * k + j) := by
  unfold lz; rw [if_neg (by omega), if_neg (by omega), show 20 + 4 * k + j - 20 = 4 * k + j by omega]
theorem lz_tk {μ : Mem} (hz : zOK (lz μ)) {k : Nat} (h : k < 16) : μ 1 (4 * k) = b2i (tk (lz μ) k) := by
  rw [← hz.t h]; exact (lz_s μ h (j := 0) (by omega)).symm
theorem lz_vv (μ : Mem) {k : Nat} (h : k < 16) : vv (lz μ) k = (μ 1 (4 * k + 1)).toInt := by
  unfold vv; rw [lz_s μ h (by omega)]
theorem lz_sp (μ : Mem) {k : Nat} (h : k < 16) : sp (lz μ) k = (μ 1 (4 * k + 2)).toInt := by
  unfold sp; rw [lz_s μ h (by omega)]
theorem x4 {x : Nat} (hx : x < 16) : inb ((4 : Int32) * nI x) 64 = true ∧ ((4 : Int32) * nI x).toNatClampNeg = 4 * x := by
  have e : (4 : Int32) * nI x = nI (4 * x) := pk_mul 4 x
  rw [e]; exact ⟨inb_nI (by omega) (by decide), nI_clamp (by omega)⟩
theorem x4j {x j : Nat} (hx : x < 16) (hj : j < 4) : inb (((4 : Int32) * nI x) + nI j) 64 = true ∧ (((4 : Int32) * nI x) + nI j).toNatClampNeg = 4 * x + j := by
  have e : (4 : Int32) * nI x = nI (4 * x) := pk_mul 4 x
  rw [e, nI_add]; exact ⟨inb_nI (by omega) (by decide), nI_clamp (by omega)⟩
theorem x41 {x : Nat} (hx : x < 16) : inb (((4 : Int32) * nI x) + (1 : Int32)) 64 = true ∧ (((4 : Int32) * nI x) + (1 : Int32)).toNatClampNeg = 4 * x + 1 := x4j (j := 1) hx (by omega)
theorem x42 {x : Nat} (hx : x < 16) : inb (((4 : Int32) * nI x) + (2 : Int32)) 64 = true ∧ (((4 : Int32) * nI x) + (2 : Int32)).toNatClampNeg = 4 * x + 2 := x4j (j := 2) hx (by omega)
theorem x43 {x : Nat} (hx : x < 16) : inb (((4 : Int32) * nI x) + (3 : Int32)) 64 = true ∧ (((4 : Int32) * nI x) + (3 : Int32)).toNatClampNeg = 4 * x + 3 := x4j (j := 3) hx (by omega)
theorem nI_sj {x y : Nat} (hx : x < 16) (hy : y < 16) : (nI x = nI y) ↔ x = y := nI_eq_iff (by omega) (by omega)
theorem L0 : (0 : Int64).toInt = 0 := by decide
theorem l_first {τ : LM} (hz : zOK (lz τ.2.1)) {x y : Nat} (hx : x < 16) (hy : y < 16) (hxy : x ≠ y) : F_L_first (nI x) (nI y) τ = some (b2i (ah (lz τ.2.1) 0 1 x y)) := by
  have v1 := hz.v hx
  have v2 := hz.v hy
  have s1 := hz.s hx
  have s2 := hz.s hy
  have hup := hz.2.2.2.1
  have ep : ∀ k, pos (lz τ.2.1) 0 1 k = vv (lz τ.2.1) k := fun k => by unfold pos; omega
  have eA : ah (lz τ.2.1) 0 1 x y = if vv (lz τ.2.1) x ≠ vv (lz τ.2.1) y then decide (vv (lz τ.2.1) y < vv (lz τ.2.1) x) else if sp (lz τ.2.1) x ≠ sp (lz τ.2.1) y then decide (sp (lz τ.2.1) y < sp (lz τ.2.1) x) else if up (lz τ.2.1) = true then decide (x < y) else decide (y < x) := by
    unfold ah lx; rw [ep, ep]
  have e0 : lz τ.2.1 1 = τ.2.1 0 1 := lz_lo τ.2.1 (by omega)
  unfold up at eA
  rw [eA]
  rw [lz_vv _ hx] at v1
  rw [lz_vv _ hy] at v2
  rw [lz_sp _ hx] at s1
  rw [lz_sp _ hy] at s2
  rw [e0, lz_vv _ hx, lz_vv _ hy, lz_sp _ hx, lz_sp _ hy]
  rw [e0] at hup
  unfold F_L_first
  simp only [(x41 hx).1, (x41 hy).1, (x42 hx).1, (x42 hy).1, (x41 hx).2, (x41 hy).2, (x42 hx).2, (x42 hy).2, if_true]
  have hP : (τ.2.1 1 (4 * x + 1) - τ.2.1 1 (4 * y + 1)).toInt = (τ.2.1 1 (4 * x + 1)).toInt - (τ.2.1 1 (4 * y + 1)).toInt := fb_subI (by omega) (by omega)
  have hS : (τ.2.1 1 (4 * x + 2) - τ.2.1 1 (4 * y + 2)).toInt = (τ.2.1 1 (4 * x + 2)).toInt - (τ.2.1 1 (4 * y + 2)).toInt := fb_subI (by omega) (by omega)
  generalize τ.2.1 1 (4 * x + 1) - τ.2.1 1 (4 * y + 1) = P at hP ⊢
  generalize τ.2.1 1 (4 * x + 2) - τ.2.1 1 (4 * y + 2) = S at hS ⊢
  generalize (τ.2.1 1 (4 * x + 1)).toInt = vx at *
  generalize (τ.2.1 1 (4 * y + 1)).toInt = vy at *
  generalize (τ.2.1 1 (4 * x + 2)).toInt = sx at *
  generalize (τ.2.1 1 (4 * y + 2)).toInt = sy at *
  have c0 : (0 : Int32).toInt = 0 := by decide
  by_cases hp : P = 0
  · have : vx = vy := by rw [i32_eq, c0] at hp; omega
    rw [if_neg (fun q => q hp), Option.bind_some, if_neg (show ¬ vx ≠ vy from fun q => q this)]
    by_cases hs : S = 0
    · have : sx = sy := by rw [i32_eq, c0] at hs; omega
      rw [if_neg (fun q => q hs), if_neg (show ¬ sx ≠ sy from fun q => q this)]
      have e1 : (nI y ≤ nI x) ↔ ¬ x < y := by rw [nI_le_iff (by omega) (by omega)]; omega
      by_cases hl : x < y
      · rw [if_neg (fun q => e1.mp q hl), Option.bind_some]
        rcases hup with h | h
        · rw [h]; simp [hl, b2i]
        · have : ¬ y < x := by omega
          rw [h]; simp [this, b2i]
      · rw [if_pos (e1.mpr hl), Option.bind_some]
        have : y < x := by omega
        rcases hup with h | h
        · rw [h]; simp [hl, b2i]
        · rw [h]; simp [this, b2i]
    · have h1 : ¬ sx = sy := fun q => hs (by rw [i32_eq, c0]; omega)
      rw [if_pos hs, if_pos (show sx ≠ sy from h1)]
      have e1 : S ≤ 0 ↔ ¬ sy < sx := by rw [i32_le, c0]; omega
      by_cases h2 : sy < sx
      · rw [if_neg (fun q => e1.mp q h2), decide_eq_true h2]; rfl
      · rw [if_pos (e1.mpr h2), decide_eq_false h2]; rfl
  · have h1 : ¬ vx = vy := fun q => hp (by rw [i32_eq, c0]; omega)
    rw [if_pos hp, Option.bind_some, if_pos hp, if_pos (show vx ≠ vy from h1)]
    have e1 : P ≤ 0 ↔ ¬ vy < vx := by rw [i32_le, c0]; omega
    by_cases h2 : vy < vx
    · rw [if_neg (fun q => e1.mp q h2), decide_eq_true h2]; rfl
    · rw [if_pos (e1.mpr h2), decide_eq_false h2]; rfl
/-- a mover's row of moments -/
def WIL (μ : Mem) (x l k : Nat) (lam : MemL) : Prop := WI (lz μ) x l k (lam 0 (4 * x)).toInt (lam 0 (4 * x + 1)).toInt (lam 0 (4 * x + 2)).toInt (lam 0 (4 * x + 3)).toInt
def Kf (x : Nat) (lam lam' : MemL) : Prop := ∀ a b, ¬ (a = 0 ∧ 4 * x ≤ b ∧ b < 4 * x + 4) → lam' a b = lam a b
theorem Kf.rf {x : Nat} {lam : MemL} : Kf x lam lam := fun _ _ _ => rfl
theorem Kf.tr {x : Nat} {a b c : MemL} (h : Kf x a b) (g : Kf x b c) : Kf x a c := fun i j q => (g i j q).trans (h i j q)
theorem Kf.up {x j : Nat} {lam : MemL} {v : Int64} (hj : j < 4) : Kf x lam (upL lam 0 (4 * x + j) v) := fun a b q => by
  unfold upL; rw [if_neg (fun r => q ⟨r.1, by omega, by omega⟩)]
theorem upL_at (lam : MemL) {x k : Nat} {v : Int64} : upL lam x k v x k = v := by simp [upL]
theorem upL_nk (lam : MemL) {x k j : Nat} {v : Int64} (h : j ≠ k) : upL lam x k v x j = lam x j := by simp [upL, h]
theorem negL {x : Int64} (h : -4000000 ≤ x.toInt ∧ x.toInt ≤ 4000000) : (-x).toInt = -x.toInt := by
  rw [Int64.toInt_neg, fb_bmodL (by omega) (by omega)]
theorem lgc_le' {x y : Int64} : lg_cmp x y ≤ 0 ↔ x.toInt ≤ y.toInt := lgc_le
set_option maxHeartbeats 1000000 in
theorem l_wins_loop {σ μ : Mem} (hz : zOK (lz μ)) {x l n : Nat} (hx : x < 16) (hn : l + n ≤ 16) : ∀ (m k fu : Nat) (lam : MemL), k + m = l + n → l ≤ k → m < fu → WIL μ x l k lam →
    ∃ w lam', L_L_wins_37 (nI x) (nI l) (nI n) fu (nI k) (σ, (μ, lam)) = some (b2i w, (σ, (μ, lam'))) ∧ Kf x lam lam' ∧ (w = true → WIL μ x l (l + n) lam' ∧ ((lam' 0 (4 * x + 3)).toInt = 0 ∨ (lam' 0 (4 * x)).toInt * (lam' 0 (4 * x + 3)).toInt < (lam' 0 (4 * x + 2)).toInt * (lam' 0 (4 * x + 1)).toInt)) ∧ (w = false → ∀ a b, 0 ≤ a → 0 < b → ¬ AhA (lz μ) l (l + n) a b x) := by
  intro m
  induction m with
  | zero =>
    intro k fu lam hk hlk hf hW
    obtain ⟨f, rfl⟩ : ∃ f, fu = f + 1 := ⟨fu - 1, by omega⟩
    have hk' : k = l + n := by omega
    subst hk'
    have hle : nI (l + n) ≤ nI (l + n) := (nI_le_iff (by omega) (by omega)).mpr (Nat.le_refl _)
    have h0 := hW.1
    rw [L_L_wins_37, nI_add, if_pos hle]
    simp only [(x4 hx).1, (x41 hx).1, (x42 hx).1, (x43 hx).1, (x4 hx).2, (x41 hx).2, (x42 hx).2, (x43 hx).2, if_true]
    by_cases h3 : (lam 0 (4 * x + 3)).toInt = 0
    · refine ⟨true, lam, ?_, Kf.rf, fun _ => ⟨hW, Or.inl h3⟩, fun q => by cases q⟩
      rw [if_pos (lgc_eq.mpr (by rw [h3, L0]))]; rfl
    · have m1 := (mulL (x := lam 0 (4 * x)) (y := lam 0 (4 * x + 3)) (B := 4000000) (C := 198) (by omega) (by omega) (by decide)).1
      have m2 := (mulL (x := lam 0 (4 * x + 2)) (y := lam 0 (4 * x + 1)) (B := 4000000) (C := 198) (by omega) (by omega) (by decide)).1
      rw [if_neg (fun q => h3 (by have := lgc_eq.mp q; rw [L0] at this; exact this))]
      by_cases h4 : (lam 0 (4 * x)).toInt * (lam 0 (4 * x + 3)).toInt < (lam 0 (4 * x + 2)).toInt * (lam 0 (4 * x + 1)).toInt
      · refine ⟨true, lam, ?_, Kf.rf, fun _ => ⟨hW, Or.inr h4⟩, fun q => by cases q⟩
        rw [if_neg (fun q => by have := lgc_ge.mp q; rw [m1, m2] at this; omega)]; rfl
      · refine ⟨false, lam, ?_, Kf.rf, (fun q => by cases q), fun _ a b ha hb hL => hW.no (fun q => q.elim h3 h4) ha hb hL⟩
        rw [if_pos (lgc_ge.mpr (by rw [m1, m2]; omega))]; rfl
  | succ m ih =>
    intro k fu lam hk hlk hf hW
    obtain ⟨f, rfl⟩ : ∃ f, fu = f + 1 := ⟨fu - 1, by omega⟩
    have hk16 : k < 16 := by omega
    have h0 := hW.1
    have nxt : ∀ lam1 : MemL, Kf x lam lam1 → WIL μ x l (k + 1) lam1 → ∃ w lam', L_L_wins_37 (nI x) (nI l) (nI n) f (nI k + 1) (σ, (μ, lam1)) = some (b2i w, (σ, (μ, lam'))) ∧ Kf x lam lam' ∧ (w = true → WIL μ x l (l + n) lam' ∧ ((lam' 0 (4 * x + 3)).toInt = 0 ∨ (lam' 0 (4 * x)).toInt * (lam' 0 (4 * x + 3)).toInt < (lam' 0 (4 * x + 2)).toInt * (lam' 0 (4 * x + 1)).toInt)) ∧ (w = false → ∀ a b, 0 ≤ a → 0 < b → ¬ AhA (lz μ) l (l + n) a b x) := fun lam1 hK hW1 => by
      obtain ⟨w, lam', e1, e2, e3⟩ := ih (k + 1) f lam1 (by omega) (by omega) (by omega) hW1
      exact ⟨w, lam', by rw [nI_1]; exact e1, hK.tr e2, e3⟩
    rw [L_L_wins_37, nI_add, if_neg (fun q => absurd ((nI_le_iff (by omega) (by omega)).mp q) (by omega))]
    by_cases hkx : k = x
    · rw [if_pos (by rw [hkx])]
      exact nxt lam Kf.rf (hW.skip (Or.inl hkx))
    rw [if_neg (fun q => hkx ((nI_sj hk16 hx).mp q)), if_pos (x4 hk16).1]
    simp only [(x4 hk16).2]
    rw [lz_tk hz hk16]
    by_cases ht : tk (lz μ) k = true
    rotate_left
    · have ht : tk (lz μ) k = false := by simpa using ht
      rw [ht, if_neg (fun q : ¬ b2i false = 0 => q rfl)]
      exact nxt lam Kf.rf (hW.skip (Or.inr ht))
    rw [ht, if_pos (show ¬ b2i true = 0 by decide), if_pos (x42 hx).1, if_pos (x42 hk16).1, if_pos (x41 hk16).1, if_pos (x41 hx).1]
    simp only [(x41 hx).1, (x42 hx).1, (x43 hx).1, (x4 hx).1, (x41 hx).2, (x42 hx).2, (x43 hx).2, (x4 hx).2, (x41 hk16).2, (x42 hk16).2, if_true]
    have v1 := hz.v hx
    have v2 := hz.v hk16
    have s1 := hz.s hx
    have s2 := hz.s hk16
    have hB : ((μ 1 (4 * x + 2) - μ 1 (4 * k + 2)).toInt64).toInt = sp (lz μ) x - sp (lz μ) k := by
      rw [lz_sp _ hx] at s1 ⊢
      rw [lz_sp _ hk16] at s2 ⊢
      rw [toL]; exact fb_subI (by omega) (by omega)
    have hG : ((μ 1 (4 * k + 1) - μ 1 (4 * x + 1)).toInt64).toInt = vv (lz μ) k - vv (lz μ) x := by
      rw [lz_vv _ hx] at v1 ⊢
      rw [lz_vv _ hk16] at v2 ⊢
      rw [toL]; exact fb_subI (by omega) (by omega)
    generalize (μ 1 (4 * x + 2) - μ 1 (4 * k + 2)).toInt64 = B at hB ⊢
    generalize (μ 1 (4 * k + 1) - μ 1 (4 * x + 1)).toInt64 = G at hG ⊢
    have bB : -198 ≤ B.toInt ∧ B.toInt ≤ 198 := by omega
    have bG : -4000000 ≤ G.toInt ∧ G.toInt ≤ 4000000 := by omega
    have q0 : lg_cmp B 0 = 0 ↔ B.toInt = 0 := by rw [lgc_eq, L0]
    have qle : lg_cmp B 0 ≤ 0 ↔ B.toInt ≤ 0 := by rw [lgc_le, L0]
    have qge : 0 ≤ lg_cmp B 0 ↔ 0 ≤ B.toInt := by rw [lgc_ge, L0]
    rcases Int.lt_trichotomy B.toInt 0 with hb | hb | hb
    · -- the other is faster
      have a1 : ¬ lg_cmp B 0 = 0 := fun q => by have := q0.mp q; omega
      have a2 : lg_cmp B 0 ≤ 0 := qle.mpr (by omega)
      have a3 : ¬ 0 ≤ lg_cmp B 0 := fun q => by have := qge.mp q; omega
      rw [if_pos a1, if_pos a2, Option.bind_some, if_neg a3]
      have hs : sp (lz μ) x < sp (lz μ) k := by omega
      have nG : (-G).toInt = vv (lz μ) x - vv (lz μ) k := by
        rw [negL (by omega)]; omega
      have nB : (-B).toInt = sp (lz μ) k - sp (lz μ) x := by
        rw [negL (by omega)]; omega
      have put : (WI (lz μ) x l (k + 1) (lam 0 (4 * x)).toInt (lam 0 (4 * x + 1)).toInt (vv (lz μ) x - vv (lz μ) k) (sp (lz μ) k - sp (lz μ) x)) → WIL μ x l (k + 1) (upL (upL lam 0 (4 * x + 2) (-G)) 0 (4 * x + 3) (-B)) := fun h => by
        unfold WIL
        rw [upL_at, upL_nk _ (show 4 * x + 2 ≠ 4 * x + 3 by omega), upL_at, upL_nk _ (show 4 * x ≠ 4 * x + 3 by omega), upL_nk _ (show 4 * x ≠ 4 * x + 2 by omega), upL_nk _ (show 4 * x + 1 ≠ 4 * x + 3 by omega), upL_nk _ (show 4 * x + 1 ≠ 4 * x + 2 by omega), nG, nB]
        exact h
      have kk : Kf x lam (upL (upL lam 0 (4 * x + 2) (-G)) 0 (4 * x + 3) (-B)) := (Kf.up (j := 2) (by omega)).tr (Kf.up (j := 3) (by omega))
      by_cases h3 : (lam 0 (4 * x + 3)).toInt = 0
      · rw [if_pos (lgc_eq.mpr (by rw [h3, L0])), Option.bind_some]
        exact nxt _ kk (put (hW.fastY hz hx hk16 hlk ht hkx hs (Or.inl h3)))
      · rw [if_neg (fun q => h3 (by have := lgc_eq.mp q; rw [L0] at this; exact this))]
        have m1 := (mulL (x := G) (y := lam 0 (4 * x + 3)) (B := 4000000) (C := 198) bG (by omega) (by decide)).1
        have m2 := (mulL (x := lam 0 (4 * x + 2)) (y := B) (B := 4000000) (C := 198) (by omega) bB (by decide)).1
        have e1 : (vv (lz μ) x - vv (lz μ) k) * (lam 0 (4 * x + 3)).toInt = -((vv (lz μ) k - vv (lz μ) x) * (lam 0 (4 * x + 3)).toInt) := by rw [← Int.neg_mul]; congr 1; omega
        have e2 : (lam 0 (4 * x + 2)).toInt * (sp (lz μ) k - sp (lz μ) x) = -((lam 0 (4 * x + 2)).toInt * (sp (lz μ) x - sp (lz μ) k)) := by rw [← Int.mul_neg]; congr 1; omega
        rw [hG] at m1
        rw [hB] at m2
        by_cases h4 : lg_cmp (G * lam 0 (4 * x + 3)) (lam 0 (4 * x + 2) * B) ≤ 0
        · rw [if_pos h4, Option.bind_some]
          have := lgc_le.mp h4
          rw [m1, m2] at this
          exact nxt lam Kf.rf (hW.fastN hs (by omega) (by omega))
        · rw [if_neg h4, Option.bind_some]
          have : ¬ (G * lam 0 (4 * x + 3)).toInt ≤ (lam 0 (4 * x + 2) * B).toInt := fun q => h4 (lgc_le.mpr q)
          rw [m1, m2] at this
          exact nxt _ kk (put (hW.fastY hz hx hk16 hlk ht hkx hs (Or.inr (by omega))))
    · -- alike
      have a1 : lg_cmp B 0 = 0 := q0.mpr hb
      have a2 : lg_cmp B 0 ≤ 0 := qle.mpr (by omega)
      have a3 : 0 ≤ lg_cmp B 0 := qge.mpr (by omega)
      rw [if_neg (fun q => q a1), l_first (τ := (σ, (μ, lam))) hz hx hk16 (Ne.symm hkx), Option.bind_some]
      show ∃ w lam', (if ¬ b2i (ah (lz μ) 0 1 x k) = 0 then _ else _) = _ ∧ _
      cases hA : ah (lz μ) 0 1 x k with
      | true =>
        rw [if_pos (show ¬ b2i true = 0 by decide), if_pos a2, Option.bind_some, if_pos a3, Option.bind_some]
        exact nxt lam Kf.rf (hW.same (by omega) hA)
      | false =>
        rw [if_neg (show ¬ ¬ b2i false = 0 from fun q => q rfl)]
        refine ⟨false, lam, rfl, Kf.rf, (fun q => by cases q), fun _ a b ha hb' hL => ?_⟩
        have := ah_same (a' := 0) (b' := 1) (show sp (lz μ) k = sp (lz μ) x by omega) hb' (by decide) (hL k hlk (by omega) ht hkx)
        rw [hA] at this; cases this
    · -- the other is slower
      have a1 : ¬ lg_cmp B 0 = 0 := fun q => by have := q0.mp q; omega
      have a2 : ¬ lg_cmp B 0 ≤ 0 := fun q => by have := qle.mp q; omega
      have a3 : 0 ≤ lg_cmp B 0 := qge.mpr (by omega)
      rw [if_pos a1, if_neg a2]
      have hs : sp (lz μ) k < sp (lz μ) x := by omega
      have m1 := (mulL (x := G) (y := lam 0 (4 * x + 1)) (B := 4000000) (C := 198) bG (by omega) (by decide)).1
      have m2 := (mulL (x := lam 0 (4 * x)) (y := B) (B := 4000000) (C := 198) (by omega) bB (by decide)).1
      rw [hG] at m1
      rw [hB] at m2
      by_cases h4 : lg_cmp (G * lam 0 (4 * x + 1)) (lam 0 (4 * x) * B) ≤ 0
      · rw [if_pos h4, Option.bind_some, if_pos a3, Option.bind_some]
        have := lgc_le.mp h4
        rw [m1, m2] at this
        exact nxt lam Kf.rf (hW.slowN hs this)
      · rw [if_neg h4, Option.bind_some, if_pos a3, Option.bind_some]
        have : ¬ (G * lam 0 (4 * x + 1)).toInt ≤ (lam 0 (4 * x) * B).toInt := fun q => h4 (lgc_le.mpr q)
        rw [m1, m2] at this
        refine nxt (upL (upL lam 0 (4 * x) G) 0 (4 * x + 1) B) ((Kf.up (j := 0) (by omega)).tr (Kf.up (j := 1) (by omega))) ?_
        unfold WIL
        rw [upL_at, upL_nk _ (show 4 * x ≠ 4 * x + 1 by omega), upL_at, upL_nk _ (show 4 * x + 2 ≠ 4 * x + 1 by omega), upL_nk _ (show 4 * x + 2 ≠ 4 * x by omega), upL_nk _ (show 4 * x + 3 ≠ 4 * x + 1 by omega), upL_nk _ (show 4 * x + 3 ≠ 4 * x by omega), hG, hB]
        exact hW.slowY hz hx hk16 hlk ht hkx hs (by omega)
/-- wins, of a contest's places -/
theorem l_wins {σ μ : Mem} {lam : MemL} (hz : zOK (lz μ)) {c x : Nat} (h1 : 1 ≤ c) (h2 : c ≤ 15) (hx : lo c ≤ x) (hx2 : x < lo c + sz c) (ht : tk (lz μ) x = true) :
    ∃ w lam', F_L_wins (nI x) (nI (lo c)) (nI (sz c)) (σ, (μ, lam)) = some (b2i w, (σ, (μ, lam'))) ∧ Kf x lam lam' ∧ (w = true → (0 ≤ (lam' 0 (4 * x)).toInt ∧ (lam' 0 (4 * x)).toInt ≤ 4000000 ∧ 1 ≤ (lam' 0 (4 * x + 1)).toInt ∧ (lam' 0 (4 * x + 1)).toInt ≤ 198) ∧ ∃ r, ch (lz μ) c r = some x ∧ (lam' 0 (4 * x)).toInt * mB (lz μ) c r = mA (lz μ) c r * (lam' 0 (4 * x + 1)).toInt) ∧ (w = false → ∀ r, ch (lz μ) c r ≠ some x) := by
  have hs := (sz_lo h1 h2).1
  have hx16 : x < 16 := by omega
  obtain ⟨lam0, hlam0⟩ : ∃ q : MemL, q = upL (upL (upL (upL lam 0 (4 * x) (0 : Int64)) 0 (4 * x + 1) (1 : Int64)) 0 (4 * x + 2) (1 : Int64)) 0 (4 * x + 3) (0 : Int64) := ⟨_, rfl⟩
  have hK0 : Kf x lam lam0 := by
    rw [hlam0]
    exact (((Kf.up (j := 0) (by omega)).tr (Kf.up (j := 1) (by omega))).tr (Kf.up (j := 2) (by omega))).tr (Kf.up (j := 3) (by omega))
  have hW0 : WIL μ x (lo c) (lo c) lam0 := by
    rw [hlam0]
    unfold WIL
    rw [upL_at, upL_nk _ (show 4 * x + 2 ≠ 4 * x + 3 by omega), upL_at, upL_nk _ (show 4 * x + 1 ≠ 4 * x + 3 by omega), upL_nk _ (show 4 * x + 1 ≠ 4 * x + 2 by omega), upL_at, upL_nk _ (show 4 * x ≠ 4 * x + 3 by omega), upL_nk _ (show 4 * x ≠ 4 * x + 2 by omega), upL_nk _ (show 4 * x ≠ 4 * x + 1 by omega), upL_at]
    exact WI.z0 _ _ _
  obtain ⟨w, lam', e1, e2, e3, e4⟩ := l_wins_loop (σ := σ) hz hx16 (show lo c + sz c ≤ 16 by omega) (sz c) (lo c) FU lam0 rfl (Nat.le_refl _) (by show sz c < 1000; omega) hW0
  refine ⟨w, lam', ?_, hK0.tr e2, fun hw => ?_, fun hw r hr => ?_⟩
  · unfold F_L_wins
    simp only [(x4 hx16).1, (x41 hx16).1, (x42 hx16).1, (x43 hx16).1, (x4 hx16).2, (x41 hx16).2, (x42 hx16).2, (x43 hx16).2, if_true]
    rw [← hlam0]
    exact e1
  · obtain ⟨g1, g2⟩ := e3 hw
    have g0 := g1.1
    exact ⟨⟨g0.1, g0.2.1, g0.2.2.1, g0.2.2.2.1⟩, wi_row h1 h2 hx hx2 ht g1 g2⟩
  · obtain ⟨i1, i2, i3, i4, i5, i6⟩ := ch_lead hr
    exact e4 hw _ _ i2 i1 i6
