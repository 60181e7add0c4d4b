/-! leastSpeed, both sides -/
theorem up2_up2 (σ : Mem) (x k : Nat) (v w : Int32) : up2 (up2 σ x k v) x k w = up2 σ x k w := by
  funext a b; unfold up2; split <;> simp_all
theorem up2_same (σ : Mem) (x k : Nat) : up2 σ x k (σ x k) = σ := by
  funext a b; unfold up2; split
  · rename_i h; rw [h.1, h.2]
  · rfl
theorem mz_up (τ : Mem × Int64) {k j : Nat} {v : Int32} (h1 : k < 16) (h2 : j < 4) : mz (up2 τ.1 1 (20 + 4 * k + j) v, τ.2) = up1 (mz τ) (20 + 4 * k + j) v := by
  funext x
  show (if x = 3 ∨ x = 19 ∨ 84 ≤ x then 0 else up2 τ.1 1 (20 + 4 * k + j) v 1 x) = if x = 20 + 4 * k + j then v else (if x = 3 ∨ x = 19 ∨ 84 ≤ x then 0 else τ.1 1 x)
  by_cases e : x = 20 + 4 * k + j
  · subst e
    rw [if_neg (by omega), if_pos rfl]
    unfold up2; rw [if_pos ⟨rfl, rfl⟩]
  · rw [if_neg e]
    have : up2 τ.1 1 (20 + 4 * k + j) v 1 x = τ.1 1 x := by unfold up2; rw [if_neg (fun q => e q.2)]
    rw [this]
theorem m_speedFor {τ : Mem × Int64} {i : Nat} {x : Int32} (hz : zOK (mz τ)) (hi : i < 16) (ht : tk (mz τ) i = true) (hx : 0 ≤ x.toInt ∧ x.toInt ≤ 9999) : ∃ v, F_X4_speedFor (nI i) x τ = some (v, τ) ∧ LSp (lsP (mz τ) x.toInt i) v.toInt := by
  have key : ∀ (m l fu : Nat) (s' : Int32), l + m = 199 → m < fu → (∀ u, u < l → lsP (mz τ) x.toInt i ((u : Int) - 99) = false) →
      ∃ v s2, L_X4_speedFor_20 (nI i) x (τ.1 1 (20 + 4 * i + 2)) fu (-100) (iS l) (up2 τ.1 1 (20 + 4 * i + 2) s', τ.2) = some (v, (up2 τ.1 1 (20 + 4 * i + 2) s2, τ.2)) ∧ LSp (lsP (mz τ) x.toInt i) v.toInt := by
    intro m
    induction m with
    | zero =>
      intro l fu s' hl hf hu
      obtain ⟨f, rfl⟩ : ∃ f, fu = f + 1 := ⟨fu - 1, by omega⟩
      have : l = 199 := by omega
      subst this
      refine ⟨-100, s', by rw [L_X4_speedFor_20, if_pos (by decide)], Or.inr ⟨by decide, fun u u1 u2 => ?_⟩⟩
      have := hu (u + 99).toNat (by omega)
      rw [show (((u + 99).toNat : Nat) : Int) - 99 = u by omega] at this
      exact this
    | succ m ih =>
      intro l fu s' hl hf hu
      obtain ⟨f, rfl⟩ : ∃ f, fu = f + 1 := ⟨fu - 1, by omega⟩
      have tl := iS_toInt l (by omega)
      have t100 : (100 : Int32).toInt = 100 := by decide
      rw [L_X4_speedFor_20, if_neg (fun q => by rw [i32_le, tl, t100] at q; omega), if_neg (fun q => q rfl), m_at, Option.bind_some, if_pos (m_idx2 hi).1, (m_idx2 hi).2]
      have hm : mz (up2 τ.1 1 (20 + 4 * i + 2) (iS l), τ.2) = up1 (mz τ) (20 + 4 * i + 2) (iS l) := mz_up τ hi (by omega)
      have hz2 : zOK (mz (up2 τ.1 1 (20 + 4 * i + 2) (iS l), τ.2)) := by rw [hm]; exact zOK_sp hz (by rw [tl]; omega)
      have hw := m_winnerAt (τ := (up2 τ.1 1 (20 + 4 * i + 2) (iS l), τ.2)) (c := 1) (a := x.toInt64) (b := 1) hz2 (by omega) (by omega) (by rw [toL]; omega) (by decide)
      rw [toL, hm] at hw
      have hw' : F_X4_winnerAt (1 : Int32) x.toInt64 (1 : Int64) (up2 τ.1 1 (20 + 4 * i + 2) (iS l), τ.2) = some (enc (win (up1 (mz τ) (20 + 4 * i + 2) (iS l)) x.toInt 1 1)) := hw
      show ∃ v s2, Option.bind (F_X4_winnerAt (1 : Int32) x.toInt64 (1 : Int64) (up2 (up2 τ.1 1 (20 + 4 * i + 2) s') 1 (20 + 4 * i + 2) (iS l), τ.2)) _ = _ ∧ _
      rw [up2_up2, hw', Option.bind_some]
      have hls := ls_win (z := mz τ) (x := x.toInt) (i := i) (s := iS l) hi ht
      rw [tl] at hls
      have h31 : ∀ k, win (up1 (mz τ) (20 + 4 * i + 2) (iS l)) x.toInt 1 1 = some k → k < 2 ^ 31 := fun k hk => by
        have B := win_B (up1 (mz τ) (20 + 4 * i + 2) (iS l)) x.toInt 1 1
        rw [hk] at B
        have h1 := B.2.1
        have h2 := (sz_lo (c := 1) (by omega) (by omega)).1
        omega
      simp only [enc_some h31 (show i < 2 ^ 31 by omega), hls]
      cases hp : lsP (mz τ) x.toInt i ((l : Int) - 99) with
      | true =>
        rw [if_neg (fun q => q rfl), Option.bind_some]
        refine ⟨iS l, iS l, ?_, Or.inl ⟨by omega, by omega, by rw [tl]; exact hp, fun u u1 u2 => ?_⟩⟩
        · obtain ⟨f, rfl⟩ : ∃ g, f = g + 1 := ⟨f - 1, by omega⟩
          rw [L_X4_speedFor_20]
          split
          · rfl
          · rw [if_pos (fun q => by have := congrArg Int32.toInt q; rw [tl, show (-100 : Int32).toInt = -100 from by decide] at this; omega)]
        · have := hu (u + 99).toNat (by omega)
          rw [show (((u + 99).toNat : Nat) : Int) - 99 = u by omega] at this
          exact this
      | false =>
        rw [if_pos (by decide), Option.bind_some, iS_1]
        refine ih (l + 1) f (iS l) (by omega) (by omega) (fun u hu' => ?_)
        by_cases e : u = l
        · rw [e]; exact hp
        · exact hu u (by omega)
  unfold F_X4_speedFor
  obtain ⟨v, s2, e, h⟩ := key 199 0 FU (τ.1 1 (20 + 4 * i + 2)) rfl (by decide) (fun u hu => by omega)
  rw [up2_same] at e
  have e' : L_X4_speedFor_20 (nI i) x (τ.1 1 (20 + 4 * i + 2)) FU (-100) (-99) τ = some (v, (up2 τ.1 1 (20 + 4 * i + 2) s2, τ.2)) := e
  refine ⟨v, ?_, h⟩
  rw [m_at, Option.bind_some, if_pos (m_idx2 hi).1, (m_idx2 hi).2, e', Option.bind_some, Option.bind_some, if_pos (m_idx2 hi).1, (m_idx2 hi).2]
  show some (v, (up2 (up2 τ.1 1 (20 + 4 * i + 2) s2) 1 (20 + 4 * i + 2) (τ.1 1 (20 + 4 * i + 2)), τ.2)) = _
  rw [up2_up2, up2_same]
theorem o_leastSpeed {σ : Mem} {τ : Mem × Int64} (R : Rel σ τ) (a b : Int32) : ∃ res v τ', F_X3_leastSpeed a b σ = some res ∧ F_X4_leastSpeed a b τ = some (v, τ') ∧ Ag [(2, 1), (0, 2)] res v (τ'.1 0 5) ∧ Keep5 τ τ' := by
  have hz := R.zm
  have hzz : mz (t0 τ) = zv σ 6 := by rw [t0_mz, ← R.1]
  unfold F_X4_leastSpeed F_X3_leastSpeed
  rw [show (up2 τ.1 0 5 (0 : Int32), τ.2) = t0 τ from rfl, m_isMover, hzz, s_hasX R.2.1.1, Option.bind_some, Option.bind_some]
  cases hA : hasA (zv σ 6) a with
  | false =>
    obtain ⟨τ', e, K, h5⟩ := m_fails τ 1
    refine ⟨.inl 2, 0, τ', by rw [if_c0], by rw [if_c0, e]; rfl, ?_, K⟩
    rw [h5]; exact List.mem_cons_self ..
  | true =>
    obtain ⟨i, hi, rfl, ht⟩ := hasA_some hA
    rw [if_c1, if_c1, m_in, s_within, Option.bind_some, Option.bind_some]
    by_cases hb : (0 : Int32).toInt ≤ b.toInt ∧ b.toInt ≤ (999 : Int32).toInt
    · have hb' : 0 ≤ b.toInt ∧ b.toInt ≤ 999 := hb
      obtain ⟨v, e, hv⟩ := m_speedFor (τ := t0 τ) (x := b) hz hi (by rw [hzz]; exact ht) (by omega)
      rw [hzz] at hv
      rw [decide_eq_true hb, if_c1, if_b1, e, Option.bind_some]
      have hf : F_X1_foremost 6 (0 : Int32) (16 : Int32) (nI i) b σ = some (enc (rv (zv σ 6) b.toInt i)) := s_foremost (a := 0) (hi := 16) (ex := nI i) (x := b) R.2.1.1 (by omega) (by omega) (by omega)
      rw [hf, Option.bind_some]
      refine ⟨.inr v, v, t0 τ, ?_, rfl, ⟨t0_5 τ, rfl⟩, t0_k5 τ⟩
      cases hr : rv (zv σ 6) b.toInt i with
      | none =>
        rw [if_neg (fun q : ¬ enc none = -1 => q rfl)]
        have h1 : LSp (lsP (zv σ 6) b.toInt i) (-99) := Or.inl ⟨by omega, by omega, by unfold lsP; rw [hr], fun u u1 u2 => by omega⟩
        have := h1.one hv
        rw [show v = -99 from i32_eq.mpr (by rw [← this]; decide)]; rfl
      | some j =>
        obtain ⟨j1, -, -, -⟩ := rv_some hi hr
        rw [if_pos (show ¬ enc (some j) = -1 from nI_ne_m1 (by omega))]
        obtain ⟨w, e2, hw⟩ := s_leastAgainst (σ := σ) (x := b) R.2.1.1 hi j1 (by omega)
        have h1 : LSp (lsP (zv σ 6) b.toInt i) w.toInt := by
          have : lsP (zv σ 6) b.toInt i = fun t => wb (zv σ 6) t b.toInt i j := by funext t; unfold lsP; rw [hr]
          rw [this]; exact hw
        rw [show enc (some j) = nI j from rfl, e2, show w = v from i32_eq.mpr (h1.one hv)]; rfl
    · obtain ⟨τ', e, K, h5⟩ := m_fails τ 2
      refine ⟨.inl 0, 0, τ', by rw [decide_eq_false hb, if_c0], by rw [decide_eq_false hb, if_b0, e]; rfl, ?_, K⟩
      rw [h5]; exact List.mem_cons_of_mem _ (List.mem_cons_self ..)
