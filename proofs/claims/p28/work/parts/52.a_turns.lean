/-! the turns of a contest, found place by place -/
theorem l_size : ∀ c, c < 16 → 1 ≤ c → F_L_size (nI c) = some (nI (sz c)) := by decide +kernel
theorem l_begin : ∀ c, c < 16 → 1 ≤ c → F_L_begin (nI c) = some (nI (lo c)) := by decide +kernel
theorem rof_of {z : Zf} {c i r : Nat} (h : ch z c r = some i) : ∀ (m k : Nat), k ≤ r → r < k + m → rof z c i m k = some r := by
  intro m
  induction m with
  | zero => intro k h1 h2; omega
  | succ m ih =>
    intro k h1 h2
    obtain ⟨w, hw⟩ := ch_prev h h1
    rw [rof]
    by_cases e : w = i
    · subst e
      have : k = r := ch_inj hw h
      subst this
      simp [hw]
    · have hne : k ≠ r := fun q => by subst q; rw [h] at hw; cases hw; exact e rfl
      have := ih (k + 1) (by omega) (by omega)
      simp [hw, e, this]
theorem ro_of {z : Zf} {c i r : Nat} (h1 : 1 ≤ c) (h2 : c ≤ 15) (h : ch z c r = some i) : ro z c i = some r := rof_of h 17 0 (by omega) (by have := ch_len h1 h2 h; omega)
/-- the places of the rows from a to below n -/
def rwp (z : Zf) (c a n y : Nat) : Bool := match ro z c y with
  | some r => decide (a ≤ r) && decide (r < n)
  | none => false
theorem rwp_iff {z : Zf} {c a n y : Nat} (h1 : 1 ≤ c) (h2 : c ≤ 15) : rwp z c a n y = true ↔ ∃ r, ch z c r = some y ∧ a ≤ r ∧ r < n := by
  unfold rwp
  cases hr : ro z c y with
  | none =>
    simp only [Bool.false_eq_true, false_iff]
    rintro ⟨r, h, -⟩
    rw [ro_of h1 h2 h] at hr; cases hr
  | some r =>
    have hc := ro_ch hr
    simp only [Bool.and_eq_true, decide_eq_true_eq]
    constructor
    · intro h; exact ⟨r, hc, h.1, h.2⟩
    · rintro ⟨r', h, q⟩
      rw [ch_inj hc h]; exact q
theorem ct_rwp {z : Zf} {c a : Nat} (h1 : 1 ≤ c) (h2 : c ≤ 15) : ∀ n, a ≤ n → (∀ r, r < n → ∃ w, ch z c r = some w) → fb_ct (rwp z c a n) 16 = n - a := by
  intro n
  induction n with
  | zero =>
    intro ha _
    rw [fb_ct_zero.mpr]
    · omega
    · intro k _
      rcases hq : rwp z c a 0 k with _ | _
      · rfl
      · obtain ⟨r, -, -, q⟩ := (rwp_iff h1 h2).mp hq; omega
  | succ n ih =>
    intro ha h
    by_cases e : a = n + 1
    · rw [fb_ct_zero.mpr]
      · omega
      · intro k _
        rcases hq : rwp z c a (n + 1) k with _ | _
        · rfl
        · obtain ⟨r, -, q1, q2⟩ := (rwp_iff h1 h2).mp hq; omega
    · obtain ⟨w, hw⟩ := h n (by omega)
      have hs := ch_slot hw
      have hl := (sz_lo h1 h2).1
      have key : ∀ k, k < 16 → rwp z c a (n + 1) k = (fun k => if k = w then true else rwp z c a n k) k := by
        intro k _
        by_cases hk : k = w
        · subst hk
          show _ = (if k = k then true else _)
          rw [if_pos rfl]
          exact (rwp_iff h1 h2).mpr ⟨n, hw, by omega, by omega⟩
        · show _ = (if k = w then true else _)
          rw [if_neg hk]
          rw [Bool.eq_iff_iff, rwp_iff h1 h2, rwp_iff h1 h2]
          constructor
          · rintro ⟨r, q1, q2, q3⟩
            refine ⟨r, q1, q2, ?_⟩
            have : r ≠ n := fun q => by subst q; rw [hw] at q1; cases q1; exact hk rfl
            omega
          · rintro ⟨r, q1, q2, q3⟩; exact ⟨r, q1, q2, by omega⟩
      rw [fb_ct_cong key]
      have hu := fb_ct_upd (rwp z c a n) true (i := w) (n := 16) (by omega)
      have hf : rwp z c a n w = false := by
        rcases hq : rwp z c a n w with _ | _
        · rfl
        · obtain ⟨r, q1, q2, q3⟩ := (rwp_iff h1 h2).mp hq
          have := ch_inj q1 hw; omega
      rw [hf] at hu
      have := ih (by omega) (fun r hr => h r (by omega))
      simp only [Bool.false_eq_true, if_false, if_true] at hu
      omega
/-- places beyond the contest's have no row -/
theorem rwp_out {z : Zf} {c a n y : Nat} (h1 : 1 ≤ c) (h2 : c ≤ 15) (h : y < lo c ∨ lo c + sz c ≤ y) : rwp z c a n y = false := by
  rcases hq : rwp z c a n y with _ | _
  · rfl
  · obtain ⟨r, q1, -⟩ := (rwp_iff h1 h2).mp hq
    have := ch_slot q1; omega
theorem ct_ext (p : Nat → Bool) {a : Nat} : ∀ n, a ≤ n → (∀ k, a ≤ k → k < n → p k = false) → fb_ct p n = fb_ct p a := by
  intro n
  induction n with
  | zero => intro h _; rw [show a = 0 by omega]
  | succ n ih =>
    intro h hp
    by_cases e : a = n + 1
    · rw [e]
    · rw [fb_ct_succ, hp n (by omega) (by omega), ih (by omega) (fun k h1 h2 => hp k h1 (by omega))]; rfl
theorem frac_le {f0 f1 a b x : Int} (hf : 0 < f1) (hb : 0 < b) (e : f0 * b = a * f1) : f0 ≤ x * f1 ↔ a ≤ x * b := by
  constructor
  · intro h
    have := (@fr_tr a b f0 f1 x 1 hb hf (by decide) (by omega) (by omega)).1
    omega
  · intro h
    have := (@fr_tr f0 f1 a b x 1 hf hb (by decide) (by omega) (by omega)).1
    omega
theorem row_zero {z : Zf} {c r x : Nat} {f0 f1 : Int} (h : ch z c r = some x) (hf : 1 ≤ f1) (h0 : 0 ≤ f0) (e : f0 * mB z c r = mA z c r * f1) : f0 = 0 ↔ r = 0 := by
  constructor
  · intro q
    subst q
    rw [Int.zero_mul] at e
    cases r with
    | zero => rfl
    | succ r =>
      have := Int.mul_pos (ch_later h) (show 0 < f1 by omega)
      omega
  · rintro rfl
    have : f0 * 1 = 0 * f1 := e
    omega
/-- of two rows: the earlier moment is the lower row's -/
theorem row_cmp {z : Zf} {c r x r' x' : Nat} {f0 f1 g0 g1 : Int} (h : ch z c r = some x) (h' : ch z c r' = some x') (hf : 1 ≤ f1) (hg : 1 ≤ g1) (e : f0 * mB z c r = mA z c r * f1) (e' : g0 * mB z c r' = mA z c r' * g1) : f0 * g1 < g0 * f1 ↔ r < r' := by
  have b1 := (ch_lead h).1
  have b2 := (ch_lead h').1
  constructor
  · intro q
    rcases Nat.lt_trichotomy r r' with w | w | w
    · exact w
    · subst w
      exfalso
      have F := (@fr_tr (mA z c r) (mB z c r) f0 f1 g0 g1 b1 (by omega) (by omega) (by omega) (by omega)).2 (Or.inr q)
      omega
    · exfalso
      have hl := ch_lt h w
      have F := (@fr_tr (mA z c r) (mB z c r) f0 f1 g0 g1 b1 (by omega) (by omega) (by omega) (by omega)).1
      have G := (@fr_tr (mA z c r) (mB z c r) g0 g1 (mA z c r') (mB z c r') b1 (by omega) b2 F (by omega)).1
      omega
  · intro w
    have hl := ch_lt h' w
    have F := (@fr_tr f0 f1 (mA z c r) (mB z c r) (mA z c r') (mB z c r') (by omega) b1 b2 (by omega) (by omega)).2 (Or.inr hl)
    exact (@fr_tr f0 f1 (mA z c r') (mB z c r') g0 g1 (by omega) b2 (by omega) (by omega) (by omega)).2 (Or.inl F)
/-- what g holds behind the places below k -/
def GI (z : Zf) (c k : Nat) (lam : MemL) : Prop :=
  (∀ w, ch z c 0 = some w → w < k → (lam 1 0).toInt = w) ∧ ((∀ w, ch z c 0 = some w → k ≤ w) → (lam 1 0).toInt = -1) ∧
  (((lam 1 1).toInt = -1 ∧ (lam 1 2).toInt = 0 ∧ (lam 1 3).toInt = 0 ∧ ∀ r y, 1 ≤ r → ch z c r = some y → k ≤ y) ∨
   ∃ r y, 1 ≤ r ∧ ch z c r = some y ∧ y < k ∧ (lam 1 1).toInt = y ∧ 0 ≤ (lam 1 2).toInt ∧ (lam 1 2).toInt ≤ 4000000 ∧ 1 ≤ (lam 1 3).toInt ∧ (lam 1 3).toInt ≤ 198 ∧ (lam 1 2).toInt * mB z c r = mA z c r * (lam 1 3).toInt ∧ ∀ r' y', 1 ≤ r' → ch z c r' = some y' → y' < k → r ≤ r')
theorem GI.row {z : Zf} {c k : Nat} {lam lam' : MemL} (h : GI z c k lam) (e : ∀ j, lam' 1 j = lam 1 j) : GI z c k lam' := by
  unfold GI at h ⊢
  rw [e, e, e, e]; exact h
/-- a place without a row -/
theorem GI.skip {z : Zf} {c k : Nat} {lam : MemL} (h : GI z c k lam) (hn : ∀ r, ch z c r ≠ some k) : GI z c (k + 1) lam := by
  obtain ⟨a, b, d⟩ := h
  refine ⟨fun w hw hk => a w hw ?_, fun q => b (fun w hw => by have := q w hw; omega), ?_⟩
  · rcases lt_cases hk with q | q
    · exact q
    · subst q; exact (hn 0 hw).elim
  · rcases d with ⟨d1, d2, d3, d4⟩ | ⟨r, y, e1, e2, e3, e4, e5, e6, e7, e8, e9, e10⟩
    · refine Or.inl ⟨d1, d2, d3, fun r y hr hy => ?_⟩
      have := d4 r y hr hy
      have : y ≠ k := fun q => by subst q; exact hn r hy
      omega
    · refine Or.inr ⟨r, y, e1, e2, by omega, e4, e5, e6, e7, e8, e9, fun r' y' h1 h2 h3 => ?_⟩
      rcases lt_cases h3 with q | q
      · exact e10 r' y' h1 h2 q
      · subst q; exact (hn r' h2).elim
/-- the winner now -/
theorem GI.now {z : Zf} {c k : Nat} {lam : MemL} {v : Int64} (h : GI z c k lam) (hk : ch z c 0 = some k) (hv : v.toInt = k) : GI z c (k + 1) (upL lam 1 0 v) := by
  obtain ⟨a, b, d⟩ := h
  have e0 : upL lam 1 0 v 1 0 = v := upL_at lam
  have ne : ∀ j, j ≠ 0 → upL lam 1 0 v 1 j = lam 1 j := fun j hj => upL_nk lam hj
  unfold GI
  rw [e0, ne 1 (by omega), ne 2 (by omega), ne 3 (by omega)]
  refine ⟨fun w hw _ => by rw [hk] at hw; cases hw; exact hv, fun q => by have := q k hk; omega, ?_⟩
  have hn : ∀ r, 1 ≤ r → ch z c r ≠ some k := fun r hr q => by have := ch_inj q hk; omega
  rcases d with ⟨d1, d2, d3, d4⟩ | ⟨r, y, e1, e2, e3, e4, e5, e6, e7, e8, e9, e10⟩
  · refine Or.inl ⟨d1, d2, d3, fun r y hr hy => ?_⟩
    have := d4 r y hr hy
    have : y ≠ k := fun q => by subst q; exact hn r hr hy
    omega
  · refine Or.inr ⟨r, y, e1, e2, by omega, e4, e5, e6, e7, e8, e9, fun r' y' h1 h2 h3 => ?_⟩
    rcases lt_cases h3 with q | q
    · exact e10 r' y' h1 h2 q
    · subst q; exact (hn r' h1 h2).elim
theorem GI.z {z : Zf} {c : Nat} {lam : MemL} (h0 : (lam 1 0).toInt = -1) (h1 : (lam 1 1).toInt = -1) (h2 : (lam 1 2).toInt = 0) (h3 : (lam 1 3).toInt = 0) : GI z c (lo c) lam :=
  ⟨fun w hw hk => by have := ch_slot hw; omega, fun _ => h0, Or.inl ⟨h1, h2, h3, fun r y _ hy => (ch_slot hy).1⟩⟩
/-- a later winner, put down or passed by -/
theorem GI.put {z : Zf} {c k r : Nat} {lam lam' : MemL} (h : GI z c k lam) (hr : 1 ≤ r) (hk : ch z c r = some k) (e0 : lam' 1 0 = lam 1 0) (e1 : (lam' 1 1).toInt = k) (b2 : 0 ≤ (lam' 1 2).toInt ∧ (lam' 1 2).toInt ≤ 4000000) (b3 : 1 ≤ (lam' 1 3).toInt ∧ (lam' 1 3).toInt ≤ 198) (e : (lam' 1 2).toInt * mB z c r = mA z c r * (lam' 1 3).toInt) (hb : (lam 1 1).toInt = -1 ∨ (lam' 1 2).toInt * (lam 1 3).toInt < (lam 1 2).toInt * (lam' 1 3).toInt) : GI z c (k + 1) lam' := by
  obtain ⟨a, b, d⟩ := h
  have h0 : ∀ w, ch z c 0 = some w → w ≠ k := fun w hw q => by subst q; have := ch_inj hk hw; omega
  refine ⟨fun w hw hk' => ?_, fun q => ?_, Or.inr ⟨r, k, hr, hk, by omega, e1, b2.1, b2.2, b3.1, b3.2, e, fun r' y' g1 g2 g3 => ?_⟩⟩
  · rw [e0]; have := h0 w hw; exact a w hw (by omega)
  · rw [e0]; exact b (fun w hw => by have := q w hw; omega)
  · rcases lt_cases g3 with q | q
    · rcases d with ⟨d1, d2, d3, d4⟩ | ⟨r2, y2, f1, f2, f3, f4, f5, f6, f7, f8, f9, f10⟩
      · have := d4 r' y' g1 g2; omega
      · have h2 := f10 r' y' g1 g2 q
        rcases hb with hb | hb
        · omega
        · have := (row_cmp hk f2 b3.1 f7 e f9).mp hb; omega
    · subst q; rw [ch_inj g2 hk]; exact Nat.le_refl _
theorem GI.past {z : Zf} {c k r : Nat} {lam : MemL} {f0 f1 : Int} (h : GI z c k lam) (hr : 1 ≤ r) (hk : ch z c r = some k) (b1 : 1 ≤ f1) (e : f0 * mB z c r = mA z c r * f1) (h1 : ¬ (lam 1 1).toInt < 0) (hb : ¬ f0 * (lam 1 3).toInt < (lam 1 2).toInt * f1) : GI z c (k + 1) lam := by
  obtain ⟨a, b, d⟩ := h
  have h0 : ∀ w, ch z c 0 = some w → w ≠ k := fun w hw q => by subst q; have := ch_inj hk hw; omega
  refine ⟨fun w hw hk' => ?_, fun q => ?_, ?_⟩
  · have := h0 w hw; exact a w hw (by omega)
  · exact b (fun w hw => by have := q w hw; omega)
  · rcases d with ⟨d1, d2, d3, d4⟩ | ⟨r2, y2, f1', f2, f3, f4, f5, f6, f7, f8, f9, f10⟩
    · omega
    · refine Or.inr ⟨r2, y2, f1', f2, by omega, f4, f5, f6, f7, f8, f9, fun r' y' g1 g2 g3 => ?_⟩
      rcases lt_cases g3 with q | q
      · exact f10 r' y' g1 g2 q
      · subst q
        have e2 := ch_inj g2 hk
        subst e2
        rcases Nat.lt_or_ge r' r2 with w | w
        · exact (hb ((row_cmp hk f2 b1 f7 e f9).mpr w)).elim
        · exact w
theorem upL_01 (lam : MemL) {k b : Nat} {v : Int64} : upL lam 1 k v 0 b = lam 0 b := by simp [upL]
theorem Kf.r1 {x j : Nat} {lam lam' : MemL} (h : Kf x lam lam') : lam' 1 j = lam 1 j := h 1 j (fun q => by omega)
theorem nI_L {k : Nat} (h : k < 2 ^ 31) : (nI k).toInt64.toInt = (k : Int) := by rw [toL, nI_toInt h]
set_option maxHeartbeats 1000000 in
theorem l_turns_loop {σ μ : Mem} (hz : zOK (lz μ)) {c : Nat} (h1 : 1 ≤ c) (h2 : c ≤ 15) {x : Int32} (hx : 0 ≤ x.toInt ∧ x.toInt ≤ 9999) : ∀ (m k fu : Nat) (lam : MemL), k + m = lo c + sz c → lo c ≤ k → m < fu → GI (lz μ) c k lam →
    ∃ lam', L_L_turns_33 (nI c) x fu (nI (fb_ct (rwp (lz μ) c 1 (tw (lz μ) c x.toInt + 1)) k)) (nI k) (σ, (μ, lam)) = some (nI (fb_ct (rwp (lz μ) c 1 (tw (lz μ) c x.toInt + 1)) (lo c + sz c)), (σ, (μ, lam'))) ∧ GI (lz μ) c (lo c + sz c) lam' := by
  have hsz := (sz_lo h1 h2).1
  obtain ⟨P, hP⟩ : ∃ P, P = rwp (lz μ) c 1 (tw (lz μ) c x.toInt + 1) := ⟨_, rfl⟩
  rw [← hP]
  intro m
  induction m with
  | zero =>
    intro k fu lam hk hlk hf hG
    obtain ⟨f, rfl⟩ : ∃ f, fu = f + 1 := ⟨fu - 1, by omega⟩
    have hk' : k = lo c + sz c := by omega
    subst hk'
    refine ⟨lam, ?_, hG⟩
    rw [L_L_turns_33, l_begin c (by omega) h1, Option.bind_some, l_size c (by omega) h1, Option.bind_some, nI_add, if_pos ((nI_le_iff (by omega) (by omega)).mpr (Nat.le_refl _))]
  | succ m ih =>
    intro k fu lam hk hlk hf hG
    obtain ⟨f, rfl⟩ : ∃ f, fu = f + 1 := ⟨fu - 1, by omega⟩
    have hk16 : k < 16 := by omega
    have nxt : ∀ (lam1 : MemL) (a6 : Int32), a6 = nI (fb_ct P (k + 1)) → GI (lz μ) c (k + 1) lam1 → ∃ lam', L_L_turns_33 (nI c) x f a6 (nI k + 1) (σ, (μ, lam1)) = some (nI (fb_ct P (lo c + sz c)), (σ, (μ, lam'))) ∧ GI (lz μ) c (lo c + sz c) lam' := fun lam1 a6 e6 hG1 => by
      obtain ⟨lam', e1, e2⟩ := ih (k + 1) f lam1 (by omega) (by omega) (by omega) hG1
      exact ⟨lam', by rw [nI_1, e6]; exact e1, e2⟩
    have noP : (∀ r, 1 ≤ r → ch (lz μ) c r ≠ some k) → nI (fb_ct P k) = nI (fb_ct P (k + 1)) := fun hn => by
      have : P k = false := by
        rcases hq : P k with _ | _
        · rfl
        · rw [hP] at hq
          obtain ⟨r, q1, q2, -⟩ := (rwp_iff h1 h2).mp hq
          exact (hn r q2 q1).elim
      rw [fb_ct_succ, this]; rfl
    rw [L_L_turns_33, l_begin c (by omega) h1, Option.bind_some, l_size c (by omega) h1, Option.bind_some, nI_add, if_neg (fun q => absurd ((nI_le_iff (by omega) (by omega)).mp q) (by omega)), if_pos (x4 hk16).1]
    simp only [(x4 hk16).2]
    rw [lz_tk hz hk16]
    by_cases ht : tk (lz μ) k = true
    rotate_left
    · have ht : tk (lz μ) k = false := by simpa using ht
      have hn : ∀ r, ch (lz μ) c r ≠ some k := fun r q => by have := (ch_slot q).2.2; rw [ht] at this; cases this
      rw [ht, if_pos (show b2i false = 0 from rfl), Option.bind_some]
      exact nxt lam _ (noP (fun r _ => hn r)) (hG.skip hn)
    obtain ⟨w, lam1, e1, e2, e3, e4⟩ := l_wins (σ := σ) (lam := lam) hz h1 h2 hlk (show k < lo c + sz c by omega) ht
    have hG1 : GI (lz μ) c k lam1 := hG.row (fun j => e2.r1)
    rw [ht, if_neg (show ¬ b2i true = 0 by decide), Option.bind_some, Option.bind_some, e1, Option.bind_some]
    cases w with
    | false =>
      have hn := e4 rfl
      rw [if_neg (show ¬ ¬ b2i false = 0 from fun q => q rfl), Option.bind_some]
      exact nxt lam1 _ (noP (fun r _ => hn r)) (hG1.skip hn)
    | true =>
      obtain ⟨⟨b0, b0', b1, b1'⟩, r, hr, er⟩ := e3 rfl
      have hz0 := row_zero hr b1 b0 er
      rw [if_pos (show ¬ b2i true = 0 by decide), if_pos (x4 hk16).1]
      simp only [(x4 hk16).1, (x4 hk16).2, (x41 hk16).1, (x41 hk16).2, if_true, upL_01]
      by_cases hr0 : r = 0
      · subst hr0
        rw [if_neg (fun q : ¬ lg_cmp (lam1 0 (4 * k)) 0 = 0 => q (lgc_eq.mpr (by rw [hz0.mpr rfl, L0]))), Option.bind_some]
        refine nxt _ _ (noP (fun r hr1 q => by have := ch_inj q hr; omega)) (hG1.now hr (nI_L (by omega)))
      · have hf0 : ¬ (lam1 0 (4 * k)).toInt = 0 := fun q => hr0 (hz0.mp q)
        rw [if_pos (show ¬ lg_cmp (lam1 0 (4 * k)) 0 = 0 from fun q => hf0 (by have := lgc_eq.mp q; rw [L0] at this; exact this))]
        have m1 := (mulL (x := x.toInt64) (y := lam1 0 (4 * k + 1)) (B := 9999) (C := 198) (by rw [toL]; omega) (by omega) (by decide)).1
        rw [toL] at m1
        have hbP : (if 0 < lg_cmp (lam1 0 (4 * k)) (x.toInt64 * lam1 0 (4 * k + 1)) then (some (0 : Int32) : Option Int32) else some (1 : Int32)) = some (b2i (P k)) := by
          have hi := frac_le (x := x.toInt) (f0 := (lam1 0 (4 * k)).toInt) (f1 := (lam1 0 (4 * k + 1)).toInt) (by omega) (ch_lead hr).1 er
          have hT := (tw_spec (z := lz μ) (c := c) x.toInt h1 h2).iff (show 1 ≤ r by omega) hr
          by_cases hq : (lam1 0 (4 * k)).toInt ≤ x.toInt * (lam1 0 (4 * k + 1)).toInt
          · have : P k = true := by rw [hP]; exact (rwp_iff h1 h2).mpr ⟨r, hr, by omega, by have := hT.mp (hi.mp hq); omega⟩
            rw [this, if_neg (fun q => by have := lgc_gt.mp q; rw [m1] at this; omega)]; rfl
          · have : P k = false := by
              rcases hq' : P k with _ | _
              · rfl
              · rw [hP] at hq'
                obtain ⟨r', g1, g2, g3⟩ := (rwp_iff h1 h2).mp hq'
                have := ch_inj g1 hr
                subst this
                exact (hq (hi.mpr (hT.mpr (by omega)))).elim
            rw [this, if_pos (lgc_gt.mpr (by rw [m1]; omega))]; rfl
        rw [hbP, Option.bind_some, ct_up]
        have hput : ∀ lam' : MemL, lam' = upL (upL (upL lam1 1 1 (nI k).toInt64) 1 2 (lam1 0 (4 * k))) 1 3 (lam1 0 (4 * k + 1)) → ((lam1 1 1).toInt = -1 ∨ (lam1 0 (4 * k)).toInt * (lam1 1 3).toInt < (lam1 1 2).toInt * (lam1 0 (4 * k + 1)).toInt) → GI (lz μ) c (k + 1) lam' := fun lam' he hb => by
          have a1 : lam' 1 1 = (nI k).toInt64 := by rw [he, upL_nk _ (by omega), upL_nk _ (by omega), upL_at]
          have a2 : lam' 1 2 = lam1 0 (4 * k) := by rw [he, upL_nk _ (by omega), upL_at]
          have a3 : lam' 1 3 = lam1 0 (4 * k + 1) := by rw [he, upL_at]
          have a0 : lam' 1 0 = lam1 1 0 := by rw [he, upL_nk _ (by omega), upL_nk _ (by omega), upL_nk _ (by omega)]
          exact hG1.put (by omega) hr a0 (by rw [a1, nI_L (by omega)]) (by rw [a2]; omega) (by rw [a3]; omega) (by rw [a2, a3]; exact er) (by rw [a2, a3]; exact hb)
        have hlow : (lam1 1 1).toInt = -1 ∨ (0 ≤ (lam1 1 1).toInt ∧ 0 ≤ (lam1 1 2).toInt ∧ (lam1 1 2).toInt ≤ 4000000 ∧ 1 ≤ (lam1 1 3).toInt ∧ (lam1 1 3).toInt ≤ 198) := by
          rcases hG1.2.2 with ⟨d1, -⟩ | ⟨r2, y2, f1, f2, f3, f4, f5, f6, f7, f8, -⟩
          · exact Or.inl d1
          · exact Or.inr ⟨by omega, f5, f6, f7, f8⟩
        rcases hlow with hq | ⟨g1, g2, g3, g4, g5⟩
        · rw [if_pos (show lg_cmp (lam1 1 1) 0 < 0 from lgc_lt.mpr (by rw [hq, L0]; decide)), Option.bind_some]
          exact nxt _ _ rfl (hput _ rfl (Or.inl hq))
        · rw [if_neg (show ¬ lg_cmp (lam1 1 1) 0 < 0 from fun q => by have := lgc_lt.mp q; rw [L0] at this; omega)]
          have m2 := (mulL (x := lam1 0 (4 * k)) (y := lam1 1 3) (B := 4000000) (C := 198) (by omega) (by omega) (by decide)).1
          have m3 := (mulL (x := lam1 1 2) (y := lam1 0 (4 * k + 1)) (B := 4000000) (C := 198) (by omega) (by omega) (by decide)).1
          by_cases h9 : lg_cmp (lam1 0 (4 * k) * lam1 1 3) (lam1 1 2 * lam1 0 (4 * k + 1)) < 0
          · rw [if_pos h9, Option.bind_some]
            have := lgc_lt.mp h9
            rw [m2, m3] at this
            exact nxt _ _ rfl (hput _ rfl (Or.inr this))
          · rw [if_neg h9, Option.bind_some]
            have : ¬ (lam1 0 (4 * k) * lam1 1 3).toInt < (lam1 1 2 * lam1 0 (4 * k + 1)).toInt := fun q => h9 (lgc_lt.mpr q)
            rw [m2, m3] at this
            exact nxt lam1 _ rfl (hG1.past (by omega) hr b1 er (by omega) this)
def oI : Option Nat → Int
  | none => -1
  | some k => k
theorem enc_I {w : Option Nat} (h : ∀ k, w = some k → k < 2 ^ 31) : (enc w).toInt = oI w := by
  cases w with
  | none => decide
  | some k => exact nI_toInt (h k rfl)
/-- what turns leaves in g: the winner now, the next one, its moment -/
def GT (z : Zf) (c : Nat) (lam : MemL) : Prop := (lam 1 0).toInt = oI (ch z c 0) ∧ (lam 1 1).toInt = oI (ch z c 1) ∧ (ch z c 1 = none → (lam 1 2).toInt = 0 ∧ (lam 1 3).toInt = 0) ∧ ∀ k, ch z c 1 = some k → 0 ≤ (lam 1 2).toInt ∧ (lam 1 2).toInt ≤ 4000000 ∧ 1 ≤ (lam 1 3).toInt ∧ (lam 1 3).toInt ≤ 198 ∧ (lam 1 2).toInt * mB z c 1 = mA z c 1 * (lam 1 3).toInt
theorem GI.fin {z : Zf} {c : Nat} {lam : MemL} (h : GI z c (lo c + sz c) lam) : GT z c lam := by
  obtain ⟨a, b, d⟩ := h
  refine ⟨?_, ?_⟩
  · cases hc : ch z c 0 with
    | none => exact b (fun w hw => by rw [hc] at hw; cases hw)
    | some w => exact a w hc (ch_slot hc).2.1
  · rcases d with ⟨d1, d2, d3, d4⟩ | ⟨r, y, e1, e2, e3, e4, e5, e6, e7, e8, e9, e10⟩
    · have hn : ch z c 1 = none := by
        cases hc : ch z c 1 with
        | none => rfl
        | some w => have := d4 1 w (by omega) hc; have := (ch_slot hc).2.1; omega
      rw [hn]
      exact ⟨d1, fun _ => ⟨d2, d3⟩, fun k hk => by cases hk⟩
    · obtain ⟨w, hw⟩ := ch_prev e2 e1
      have := e10 1 w (by omega) hw (ch_slot hw).2.1
      have er : r = 1 := by omega
      subst er
      rw [hw] at e2; cases e2
      rw [hw]
      exact ⟨e4, (fun q => by cases q), fun k _ => ⟨e5, e6, e7, e8, e9⟩⟩
theorem l_turns {σ μ : Mem} {lam : MemL} (hz : zOK (lz μ)) {c : Nat} (h1 : 1 ≤ c) (h2 : c ≤ 15) {x : Int32} (hx : 0 ≤ x.toInt ∧ x.toInt ≤ 9999) : ∃ lam', F_L_turns (nI c) x (σ, (μ, lam)) = some (nI (tw (lz μ) c x.toInt), (σ, (μ, lam'))) ∧ GT (lz μ) c lam' := by
  have hsz := (sz_lo h1 h2).1
  obtain ⟨lam0, hlam0⟩ : ∃ q : MemL, q = upL (upL (upL (upL lam 1 0 (-1 : Int64)) 1 1 (-1 : Int64)) 1 2 (0 : Int64)) 1 3 (0 : Int64) := ⟨_, rfl⟩
  have hm1 : (-1 : Int64).toInt = -1 := by decide
  have hG : GI (lz μ) c (lo c) lam0 := by
    refine GI.z ?_ ?_ ?_ ?_
    · rw [hlam0, upL_nk _ (by omega), upL_nk _ (by omega), upL_nk _ (by omega), upL_at, hm1]
    · rw [hlam0, upL_nk _ (by omega), upL_nk _ (by omega), upL_at, hm1]
    · rw [hlam0, upL_nk _ (by omega), upL_at, L0]
    · rw [hlam0, upL_at, L0]
  obtain ⟨lam', e1, e2⟩ := l_turns_loop (σ := σ) hz h1 h2 hx (sz c) (lo c) FU lam0 rfl (Nat.le_refl _) (by show sz c < 1000; omega) hG
  have c0 : fb_ct (rwp (lz μ) c 1 (tw (lz μ) c x.toInt + 1)) (lo c) = 0 := fb_ct_zero.mpr (fun k hk => rwp_out h1 h2 (Or.inl hk))
  have c1 : fb_ct (rwp (lz μ) c 1 (tw (lz μ) c x.toInt + 1)) (lo c + sz c) = tw (lz μ) c x.toInt := by
    have hT := tw_spec (z := lz μ) (c := c) x.toInt h1 h2
    rw [← ct_ext _ 16 (by omega) (fun k q1 q2 => rwp_out h1 h2 (Or.inr q1))]
    by_cases ht : tw (lz μ) c x.toInt = 0
    · rw [ht, fb_ct_zero.mpr]
      intro k _
      rcases hq : rwp (lz μ) c 1 (0 + 1) k with _ | _
      · rfl
      · obtain ⟨r, -, q1, q2⟩ := (rwp_iff h1 h2).mp hq; omega
    · obtain ⟨w, hw, -⟩ := hT.1 (tw (lz μ) c x.toInt) (by omega) (Nat.le_refl _)
      rw [ct_rwp h1 h2 _ (by omega) (fun r hr => ch_prev hw (by omega))]; omega
  rw [c0, c1] at e1
  refine ⟨lam', ?_, e2.fin⟩
  unfold F_L_turns
  rw [l_begin c (by omega) h1, Option.bind_some, ← hlam0]
  rw [show (0 : Int32) = nI 0 from rfl, e1]; rfl
