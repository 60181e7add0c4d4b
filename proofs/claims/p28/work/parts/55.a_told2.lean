/-! told, on: the movers one by one, the contests one by one -/
section TE
variable {σ μ : Mem}
theorem mvS_0 (μ : Mem) {x : Nat} (hx : x < 16) : mvS (lz μ) x 0 = μ 1 (4 * x + 1) := lz_s μ hx (j := 1) (by omega)
theorem mvS_1 (μ : Mem) {x : Nat} (hx : x < 16) : mvS (lz μ) x 1 = μ 1 (4 * x + 2) := lz_s μ hx (j := 2) (by omega)
theorem mvS_6 (μ : Mem) {x : Nat} (hx : x < 16) : mvS (lz μ) x 6 = μ 1 (4 * x + 3) := lz_s μ hx (j := 3) (by omega)
theorem b2i_if (w : Bool) : (if b2i w = 0 then some (0 : Int32) else some (1 : Int32)) = some (b2i w) := by cases w <;> rfl
set_option maxHeartbeats 1000000 in
theorem l_told_291 (hC : CA σ) (hzv : zv σ 6 = lz μ) {len : Nat} (hle : len ≤ 16) (h48 : σ 48 5 = nI len) (hend : ch (lz μ) 1 len = none) (hch : ∀ r, r < len → ∃ w, ch (lz μ) 1 r = some w) : ∀ (m k fu : Nat) (lam : MemL), k + m = 16 → m < fu → (∀ r x, ch (lz μ) 1 r = some x → x < k → RW (lz μ) lam x r) →
    ∃ lam', L_L_told_291 (sumT (fun c => lz μ (3 + c)) 15 1 0) fu (nI (fb_ct (tk (lz μ)) k)) (nI (fb_ct (rwp (lz μ) 1 0 len) k)) (nI k) (σ, (μ, lam)) = some ((1 : Int32), (σ, (μ, lam'))) := by
  have hz : zOK (lz μ) := by rw [← hzv]; exact hC.1
  intro m
  induction m with
  | zero =>
    intro k fu lam hk hf hR
    obtain ⟨f, rfl⟩ : ∃ f, fu = f + 1 := ⟨fu - 1, by omega⟩
    have hk' : k = 16 := by omega
    subst hk'
    have el : fb_ct (rwp (lz μ) 1 0 len) 16 = len := by rw [ct_rwp (by omega) (by omega) len (by omega) hch]; omega
    rw [el]
    exact ⟨lam, l_told_end hC hzv hle h48 hch (fun r x h => hR r x h (by have := ch_slot h; rw [lo1, sz1] at this; omega)) f⟩
  | succ m ih =>
    intro k fu lam hk hf hR
    obtain ⟨f, rfl⟩ : ∃ f, fu = f + 1 := ⟨fu - 1, by omega⟩
    have hk16 : k < 16 := by omega
    rw [L_L_told_291, if_neg (d16 hk16), if_pos (x4 hk16).1]
    simp only [(x4 hk16).2]
    rw [lz_tk hz hk16]
    by_cases ht : tk (lz μ) k = true
    rotate_left
    · have ht : tk (lz μ) k = false := by simpa using ht
      have hn : rwp (lz μ) 1 0 len k = false := by
        rcases hq : rwp (lz μ) 1 0 len k with _ | _
        · rfl
        · obtain ⟨r, q, -⟩ := (rwp_iff (by omega) (by omega)).mp hq
          have := (ch_slot q).2.2; rw [ht] at this; cases this
      rw [ht, if_neg (fun q : ¬ b2i false = 0 => q rfl), nI_1]
      obtain ⟨lam', e⟩ := ih (k + 1) f lam (by omega) (by omega) (fun r x h hx => by
        rcases lt_cases hx with q | q
        · exact hR r x h q
        · subst q; have := (ch_slot h).2.2; rw [ht] at this; cases this)
      refine ⟨lam', ?_⟩
      rw [fb_ct_succ, fb_ct_succ, ht, hn] at e
      exact e
    have hrk := l_rank (σ := σ) (lam := lam) hz hk16 (nI (fb_ct (tk (lz μ)) k) + 1) (sumT (fun c => lz μ (3 + c)) 15 1 0) (nI (fb_ct (rwp (lz μ) 1 0 len) k)) 16 0 FU (by omega) (by decide)
    have hrk : L_L_told_319 (nI (fb_ct (tk (lz μ)) k) + 1) (sumT (fun c => lz μ (3 + c)) 15 1 0) (nI (fb_ct (rwp (lz μ) 1 0 len) k)) (nI k) (σ, (μ, lam)) FU (0 : Int32) (0 : Int32) = some (nI (fb_ct (rkP (lz μ) k) 16)) := hrk
    obtain ⟨w, lam1, e1, e2, e3, e4⟩ := l_wins (σ := σ) (lam := lam) (c := 1) hz (by omega) (by omega) (show lo 1 ≤ k by rw [lo1]; omega) (show k < lo 1 + sz 1 by rw [lo1, sz1]; omega) ht
    have e1 : F_L_wins (nI k) (0 : Int32) (16 : Int32) (σ, (μ, lam)) = some (b2i w, (σ, (μ, lam1))) := by
      rw [lo1, sz1] at e1; exact e1
    have mv : ∀ j, j ≤ 6 → F_X3_mover (nI k) (nI j) σ = some (.inr (mvS (lz μ) k j)) := fun j hj => by
      have := s_mover (i := k) (k := j) hC hk16 hj (by rw [hzv]; exact ht)
      rw [hzv] at this; exact this
    have m0 : F_X3_mover (nI k) (0 : Int32) σ = some (.inr (μ 1 (4 * k + 1))) := by have := mv 0 (by omega); rw [mvS_0 μ hk16] at this; exact this
    have m1 : F_X3_mover (nI k) (1 : Int32) σ = some (.inr (μ 1 (4 * k + 2))) := by have := mv 1 (by omega); rw [mvS_1 μ hk16] at this; exact this
    have m2 : F_X3_mover (nI k) (2 : Int32) σ = some (.inr (nI (fb_ct (rkP (lz μ) k) 16))) := mv 2 (by omega)
    have m6 : F_X3_mover (nI k) (6 : Int32) σ = some (.inr (μ 1 (4 * k + 3))) := by have := mv 6 (by omega); rw [mvS_6 μ hk16] at this; exact this
    have m4 : F_X3_mover (nI k) (4 : Int32) σ = some (.inr (mvS (lz μ) k 4)) := mv 4 (by omega)
    have m5 : F_X3_mover (nI k) (5 : Int32) σ = some (.inr (mvS (lz μ) k 5)) := mv 5 (by omega)
    have keep : ∀ r x, ch (lz μ) 1 r = some x → x < k → RW (lz μ) lam1 x r := fun r x h hx => by
      have := hR r x h hx
      unfold RW at this ⊢
      rw [e2 0 (4 * x) (fun q => by omega), e2 0 (4 * x + 1) (fun q => by omega)]
      exact this
    have ltl : ∀ r, ch (lz μ) 1 r = some k → r < len := fun r h => by
      rcases Nat.lt_or_ge r len with q | q
      · exact q
      · rw [ch_end hend r q] at h; cases h
    obtain ⟨v, hv, hs, hw, hR1⟩ : ∃ v : Int64, (if b2i w = 0 then some (0 : Int64) else some (lam1 0 (4 * k + 1))) = some v ∧ F_L_same (lam1 0 (4 * k)) v (mvS (lz μ) k 4) (mvS (lz μ) k 5) (σ, (μ, lam1)) = some 1 ∧ rwp (lz μ) 1 0 len k = w ∧ (∀ r x, ch (lz μ) 1 r = some x → x < k + 1 → RW (lz μ) lam1 x r) := by
      cases w with
      | true =>
        obtain ⟨⟨b0, b0', b1, b1'⟩, r, hr, er⟩ := e3 rfl
        obtain ⟨v4, v5⟩ := mv4 hr
        refine ⟨lam1 0 (4 * k + 1), if_neg (by decide), ?_, (rwp_iff (by omega) (by omega)).mpr ⟨r, hr, by omega, ltl r hr⟩, fun r' x h hx => ?_⟩
        · rw [v4, v5]
          exact l_same1 (z := lz μ) hz (show μ 0 0 = lz μ 0 from (lz_lo μ (by omega)).symm) (by omega) (by omega) hr ⟨b0, b0'⟩ ⟨b1, b1'⟩ er
        · rcases lt_cases hx with q | q
          · exact keep r' x h q
          · subst q
            have := ch_inj h hr
            subst this
            exact ⟨b0, b0', b1, b1', er⟩
      | false =>
        have hn := e4 rfl
        obtain ⟨v4, v5⟩ := mv4n (z := lz μ) (x := k) hn
        refine ⟨0, if_pos rfl, ?_, ?_, fun r' x h hx => ?_⟩
        · rw [v4, v5]; exact l_same0 L0
        · rcases hq : rwp (lz μ) 1 0 len k with _ | _
          · rfl
          · obtain ⟨r, q, -⟩ := (rwp_iff (by omega) (by omega)).mp hq
            exact (hn r q).elim
        · rcases lt_cases hx with q | q
          · exact keep r' x h q
          · subst q; exact (hn r' h).elim
    obtain ⟨lam', e⟩ := ih (k + 1) f lam1 (by omega) (by omega) hR1
    refine ⟨lam', ?_⟩
    rw [ht, if_pos (show ¬ b2i true = 0 by decide), hrk, Option.bind_some, e1, Option.bind_some]
    simp only [b2i_if, Option.bind_some, m0, m1, m2, m4, m5, m6, oR_inr, (x41 hk16).1, (x42 hk16).1, (x43 hk16).1, (x4 hk16).1, (x41 hk16).2, (x42 hk16).2, (x43 hk16).2, (x4 hk16).2, if_true, not_true_eq_false, if_false, hv, hs]
    rw [if_pos (show ¬ (1 : Int32) = 0 by decide), ← hw, ct_up, nI_1, nI_1]
    rw [fb_ct_succ (tk (lz μ)), ht] at e
    exact e
theorem frac_cmp {f0 f1 a b g0 g1 a' b' : Int} (hf : 0 < f1) (hb : 0 < b) (hg : 0 < g1) (hb' : 0 < b') (e : f0 * b = a * f1) (e' : g0 * b' = a' * g1) : f0 * g1 < g0 * f1 ↔ a * b' < a' * b := by
  constructor
  · intro h
    have F := (@fr_tr a b f0 f1 g0 g1 hb hf hg (by omega) (by omega)).2 (Or.inr h)
    exact (@fr_tr a b g0 g1 a' b' hb hg hb' (by omega) (by omega)).2 (Or.inl F)
  · intro h
    have F := (@fr_tr f0 f1 a b a' b' hf hb hb' (by omega) (by omega)).2 (Or.inr h)
    exact (@fr_tr f0 f1 a' b' g0 g1 hf hb' hg (by omega) (by omega)).2 (Or.inl F)
/-- the first moment so far -/
def AB (z : Zf) (f : Option Nat) (A B : Int64) : Prop := match f with
  | none => A.toInt = 0 ∧ B.toInt = 0
  | some g => 0 ≤ A.toInt ∧ A.toInt ≤ 4000000 ∧ 1 ≤ B.toInt ∧ B.toInt ≤ 198 ∧ A.toInt * mB z g 1 = mA z g 1 * B.toInt
theorem l_first1 {z : Zf} {c n : Nat} {f : Option Nat} {lam : MemL} {A B : Int64} (hc1 : 1 ≤ c) (hc2 : c ≤ 15) (hI : efI z c f n) (hG : GT z c lam) (hAB : AB z f A B) :
    ∃ A' B', (if 0 ≤ lg_cmp (lam 1 1) (0 : Int64) then (Option.bind (if 0 ≤ enc f then some ((lam 1 2 * B) - (A * lam 1 3)) else some (-1 : Int64)) (fun v144 : Int64 => (Option.bind (if 0 ≤ lg_cmp v144 (0 : Int64) then (if ¬ lg_cmp v144 (0 : Int64) = 0 then some (nI n) else some (nI n + (1 : Int32))) else some (1 : Int32)) (fun v174 : Int32 => (if lg_cmp v144 (0 : Int64) < 0 then some (lam 1 2, lam 1 3, v174, nI c) else some (A, B, v174, enc f)))))) else some (A, B, nI n, enc f)) = some (A', B', nI (efN z c f n), enc (efS z f c)) ∧ AB z (efS z f c) A' B' := by
  obtain ⟨g0, g1, gn, gs⟩ := hG
  cases hc : ch z c 1 with
  | none =>
    rw [hc] at g1
    have e1 : efS z f c = f := by unfold efS; rw [hc]
    have e2 : efN z c f n = n := by unfold efN; rw [hc]
    rw [e1, e2]
    refine ⟨A, B, ?_, hAB⟩
    rw [if_neg (fun q => by have := lgc_ge.mp q; rw [L0, g1] at this; exact absurd this (by decide))]
  | some k =>
    rw [hc] at g1
    obtain ⟨b1, b2, b3, b4, b5⟩ := gs k hc
    have hk : (0 : Int) ≤ oI (some k) := by show (0 : Int) ≤ (k : Int); omega
    rw [if_pos (lgc_ge.mpr (by rw [L0, g1]; exact hk))]
    cases f with
    | none =>
      have e1 : efS z none c = some c := by unfold efS; rw [hc]
      have e2 : efN z c none n = 1 := by unfold efN; rw [hc]
      rw [e1, e2]
      refine ⟨lam 1 2, lam 1 3, ?_, b1, b2, b3, b4, b5⟩
      rw [if_neg (show ¬ 0 ≤ enc none by decide), Option.bind_some, if_neg (by decide), Option.bind_some, if_pos (by decide)]
      rfl
    | some g =>
      obtain ⟨i1, i2, ⟨kg, i3⟩, -⟩ := hI
      obtain ⟨c1, c2, c3, c4, c5⟩ := hAB
      have bc := (ch_lead hc).1
      have bg := (ch_lead i3).1
      have p1 := mulL (x := lam 1 2) (y := B) (B := 4000000) (C := 198) (by omega) (by omega) (by decide)
      have p2 := mulL (x := A) (y := lam 1 3) (B := 4000000) (C := 198) (by omega) (by omega) (by decide)
      have p3 := subL p1.2 p2.2 (by decide)
      rw [p1.1, p2.1] at p3
      have x1 := frac_cmp (show 0 < (lam 1 3).toInt by omega) bc (show 0 < B.toInt by omega) bg b5 c5
      have x2 := frac_cmp (show 0 < B.toInt by omega) bg (show 0 < (lam 1 3).toInt by omega) bc c5 b5
      rw [if_pos (show 0 ≤ enc (some g) from nI_pos' (by omega)), Option.bind_some]
      generalize lam 1 2 * B - A * lam 1 3 = v at p3 ⊢
      have hS : efS z (some g) c = if mA z c 1 * mB z g 1 < mA z g 1 * mB z c 1 then some c else some g := by unfold efS; rw [hc]
      have hN : efN z c (some g) n = if mA z c 1 * mB z g 1 < mA z g 1 * mB z c 1 then 1 else if mA z c 1 * mB z g 1 = mA z g 1 * mB z c 1 then n + 1 else n := by unfold efN; rw [hc]
      rcases Int.lt_trichotomy v.toInt 0 with q | q | q
      · have hlt := x1.mp (by omega)
        rw [hS, hN, if_pos hlt, if_pos hlt]
        refine ⟨lam 1 2, lam 1 3, ?_, b1, b2, b3, b4, b5⟩
        rw [if_neg (fun w => by have := lgc_ge.mp w; rw [L0] at this; omega), Option.bind_some, if_pos (lgc_lt.mpr (by rw [L0]; exact q))]
        rfl
      · have h1 : ¬ mA z c 1 * mB z g 1 < mA z g 1 * mB z c 1 := fun w => by have := x1.mpr w; omega
        have h2 : ¬ mA z g 1 * mB z c 1 < mA z c 1 * mB z g 1 := fun w => by have := x2.mpr w; omega
        rw [hS, hN, if_neg h1, if_neg h1, if_pos (show mA z c 1 * mB z g 1 = mA z g 1 * mB z c 1 by omega)]
        refine ⟨A, B, ?_, c1, c2, c3, c4, c5⟩
        rw [if_pos (lgc_ge.mpr (by rw [L0]; omega)), if_neg (fun w => w (lgc_eq.mpr (by rw [L0]; exact q))), Option.bind_some, if_neg (fun w => by have := lgc_lt.mp w; rw [L0] at this; omega), nI_1]
      · have h1 : ¬ mA z c 1 * mB z g 1 < mA z g 1 * mB z c 1 := fun w => by have := x1.mpr w; omega
        have h2 : mA z g 1 * mB z c 1 < mA z c 1 * mB z g 1 := x2.mp (by omega)
        rw [hS, hN, if_neg h1, if_neg h1, if_neg (show ¬ mA z c 1 * mB z g 1 = mA z g 1 * mB z c 1 by omega)]
        refine ⟨A, B, ?_, c1, c2, c3, c4, c5⟩
        rw [if_pos (lgc_ge.mpr (by rw [L0]; omega)), if_pos (show ¬ lg_cmp v 0 = 0 from fun w => by have := lgc_eq.mp w; rw [L0] at this; omega), Option.bind_some, if_neg (fun w => by have := lgc_lt.mp w; rw [L0] at this; omega)]
set_option maxHeartbeats 1000000 in
theorem l_told_21 (hC : CA σ) (hzv : zv σ 6 = lz μ) : ∀ (m c fu : Nat) (lam : MemL) (f : Option Nat) (n : Nat) (A B : Int64) (S9 : Int32), c + m = 16 → 1 ≤ c → m < fu → efI (lz μ) c f n → AB (lz μ) f A B → efF (lz μ) m c f = ef (lz μ) → sumT (fun c => lz μ (3 + c)) m c S9 = sumT (fun c => lz μ (3 + c)) 15 1 0 →
    ∃ lam', L_L_told_21 fu (0 : Int32) S9 A B (nI n) (enc f) (nI c) (σ, (μ, lam)) = some ((1 : Int32), (σ, (μ, lam'))) := by
  have hz : zOK (lz μ) := by rw [← hzv]; exact hC.1
  have h00 : μ 0 0 = lz μ 0 := (lz_lo μ (by omega)).symm
  intro m
  induction m with
  | zero =>
    intro c fu lam f n A B S9 hc h1 hf hI hAB hef hS
    obtain ⟨fu, rfl⟩ : ∃ g, fu = g + 1 := ⟨fu - 1, by omega⟩
    have hc' : c = 16 := by omega
    subst hc'
    have hef : f = ef (lz μ) := hef
    have hS : S9 = sumT (fun c => lz μ (3 + c)) 15 1 0 := hS
    rw [L_L_told_21, if_pos e16]
    have nt : ∀ k, k ≤ 3 → F_X3_nextTurn (nI k) σ = some (.inr (ntS (lz μ) k)) := fun k hk => by
      have := s_nextTurn (k := k) hC hk
      rw [hzv] at this; exact this
    have n0 : F_X3_nextTurn (0 : Int32) σ = some (.inr (ntS (lz μ) 0)) := nt 0 (by omega)
    have n1 : F_X3_nextTurn (1 : Int32) σ = some (.inr (ntS (lz μ) 1)) := nt 1 (by omega)
    have n2 : F_X3_nextTurn (2 : Int32) σ = some (.inr (ntS (lz μ) 2)) := nt 2 (by omega)
    have n3 : F_X3_nextTurn (3 : Int32) σ = some (.inr (ntS (lz μ) 3)) := nt 3 (by omega)
    have hs : F_L_same A B (ntS (lz μ) 0) (ntS (lz μ) 1) (σ, (μ, lam)) = some 1 ∧ ntS (lz μ) 2 = nI n ∧ ntS (lz μ) 3 = enc f := by
      unfold ntS
      rw [← hef]
      cases f with
      | none =>
        obtain ⟨a1, a2⟩ := hI
        subst a1
        exact ⟨l_same0 hAB.2, rfl, rfl⟩
      | some g =>
        obtain ⟨a1, a2, ⟨kg, a3⟩, a4, a5⟩ := hI
        obtain ⟨b1, b2, b3, b4, b5⟩ := hAB
        refine ⟨?_, ?_, rfl⟩
        · exact l_same1 (z := lz μ) hz h00 a1 (by omega) a3 ⟨b1, b2⟩ ⟨b3, b4⟩ b5
        · rw [a5]; rfl
    obtain ⟨hs1, hs2, hs3⟩ := hs
    rw [hs2] at n2
    rw [hs3] at n3
    rw [n0, oR_inr, n1, oR_inr, hs1, Option.bind_some, if_neg (show ¬ (1 : Int32) = 0 by decide), n2, oR_inr, if_neg (fun q => q rfl), n3, oR_inr, if_pos rfl]
    obtain ⟨lam1, e1, -⟩ := l_turns (σ := σ) (lam := lam) (c := 1) hz (by omega) (by omega) (x := 0) (by decide)
    have e1 : F_L_turns (1 : Int32) (0 : Int32) (σ, (μ, lam)) = some (nI (tw (lz μ) 1 (0 : Int32).toInt), (σ, (μ, lam1))) := e1
    rw [e1, Option.bind_some, hS]
    obtain ⟨len, hle, h48, hend, hch⟩ := q_len hC
    rw [hzv] at hend hch
    obtain ⟨lam2, e2⟩ := l_told_291 hC hzv hle h48 hend hch 16 0 FU lam1 (by omega) (by decide) (fun r x _ h => by omega)
    exact ⟨lam2, e2⟩
  | succ m ih =>
    intro c fu lam f n A B S9 hc h1 hf hI hAB hef hS
    obtain ⟨fu, rfl⟩ : ∃ g, fu = g + 1 := ⟨fu - 1, by omega⟩
    have h2 : c ≤ 15 := by omega
    rw [L_L_told_21, if_neg (d16 (by omega))]
    obtain ⟨lam1, e1, hG⟩ := l_turns (σ := σ) (lam := lam) (c := c) hz h1 h2 (x := 0) (by decide)
    have co : ∀ k, k ≤ 5 → F_X3_contest (nI c) (nI k) σ = some (.inr (coS (lz μ) c k)) := fun k hk => by
      have := s_contest (c := c) (k := k) hC h1 h2 hk
      rw [hzv] at this; exact this
    have c0 : F_X3_contest (nI c) (0 : Int32) σ = some (.inr (enc (ch (lz μ) c 0))) := co 0 (by omega)
    have c4 : F_X3_contest (nI c) (4 : Int32) σ = some (.inr (enc (ch (lz μ) c 1))) := co 4 (by omega)
    have c2 : F_X3_contest (nI c) (2 : Int32) σ = some (.inr (wnum (lz μ) c 1 (lz μ 0))) := co 2 (by omega)
    have c3 : F_X3_contest (nI c) (3 : Int32) σ = some (.inr (wden (lz μ) c 1)) := co 3 (by omega)
    have c5 : F_X3_contest (nI c) (5 : Int32) σ = some (.inr (μ 0 (3 + c))) := by
      have := co 5 (by omega)
      rw [show (5 : Int32) = nI 5 from rfl, this]
      show some (Sum.inr (lz μ (3 + c))) = _
      rw [lz_t μ h1 h2]
    have hs : F_L_same (lam1 1 2) (lam1 1 3) (wnum (lz μ) c 1 (lz μ 0)) (wden (lz μ) c 1) (σ, (μ, lam1)) = some 1 := by
      cases hk : ch (lz μ) c 1 with
      | none =>
        have w0 : wnum (lz μ) c 1 (lz μ 0) = 0 ∧ wden (lz μ) c 1 = 0 := by unfold wnum wden; rw [hk]; exact ⟨rfl, rfl⟩
        rw [w0.1, w0.2]
        exact l_same0 (hG.2.2.1 hk).2
      | some k =>
        obtain ⟨b1, b2, b3, b4, b5⟩ := hG.2.2.2 k hk
        exact l_same1 (z := lz μ) hz h00 h1 h2 hk ⟨b1, b2⟩ ⟨b3, b4⟩ b5
    have i3 : (3 : Int32) + nI c = nI (3 + c) := nI_add 3 c
    have ii : inb (nI (3 + c)) 19 = true := inb_nI (by omega) (by decide)
    obtain ⟨A', B', f1, f2⟩ := l_first1 h1 h2 hI hG hAB
    obtain ⟨lam', e9⟩ := ih (c + 1) fu lam1 (efS (lz μ) f c) (efN (lz μ) c f n) A' B' (S9 + μ 0 (3 + c)) (by omega) (by omega) (by omega) (ef_step h1 hI) f2 hef (by rw [← lz_t μ h1 h2]; exact hS)
    refine ⟨lam', ?_⟩
    rw [e1, Option.bind_some, c0, oR_inr, if_neg (fun q => q (lgc_eq.mpr (by rw [toL, enc_I (ch_31 h1 h2)]; exact hG.1.symm))), c4, oR_inr, if_neg (fun q => q (lgc_eq.mpr (by rw [toL, enc_I (ch_31 h1 h2)]; exact hG.2.1.symm))), c2, oR_inr, c3, oR_inr]
    show Option.bind (F_L_same (lam1 1 2) (lam1 1 3) (wnum (lz μ) c 1 (lz μ 0)) (wden (lz μ) c 1) (σ, (μ, lam1))) _ = _
    rw [hs, Option.bind_some, if_neg (show ¬ (1 : Int32) = 0 by decide), c5, oR_inr, i3, if_pos ii, nI_clamp (by omega), if_pos rfl, if_pos ii]
    show Option.bind (if 0 ≤ lg_cmp (lam1 1 1) (0 : Int64) then (Option.bind (if 0 ≤ enc f then some ((lam1 1 2 * B) - (A * lam1 1 3)) else some (-1 : Int64)) (fun v144 : Int64 => (Option.bind (if 0 ≤ lg_cmp v144 (0 : Int64) then (if ¬ lg_cmp v144 (0 : Int64) = 0 then some (nI n) else some (nI n + (1 : Int32))) else some (1 : Int32)) (fun v174 : Int32 => (if lg_cmp v144 (0 : Int64) < 0 then some (lam1 1 2, lam1 1 3, v174, nI c) else some (A, B, v174, enc f)))))) else some (A, B, nI n, enc f)) _ = _
    rw [f1, Option.bind_some, nI_1]
    exact e9
/-- told says yes -/
theorem l_told (hC : CA σ) (hzv : zv σ 6 = lz μ) (lam : MemL) : ∃ lam', F_L_told (σ, (μ, lam)) = some ((1 : Int32), (σ, (μ, lam'))) :=
  l_told_21 hC hzv 15 1 FU lam none 0 0 0 0 (by omega) (by omega) (by decide) ⟨rfl, fun d d1 d2 => by omega⟩ ⟨L0, L0⟩ rfl rfl
end TE
