/-! the looks, on: nextTurn, span, count, setting, leaderAfter, turnsIn -/
def ntS (z : Zf) (k : Nat) : Int32 := match ef z with
  | none => if k = 3 then -1 else 0
  | some g => if k = 0 then wnum z g 1 (z 0) else if k = 1 then wden z g 1 else if k = 2 then nI (fb_ct (fun d => decide (1 ≤ d) && tieB z g d) 16) else nI g
theorem ef_ok {z : Zf} {g : Nat} (h : ef z = some g) : 1 ≤ g ∧ g ≤ 15 ∧ ∃ k, ch z g 1 = some k := efF_ok 15 1 none (by omega) (by omega) (fun _ h => by cases h) g h
theorem lt4 {k : Nat} (h : k ≤ 3) : k = 0 ∨ k = 1 ∨ k = 2 ∨ k = 3 := by omega
theorem s_nextTurn {σ : Mem} {k : Nat} (h : CA σ) (hk : k ≤ 3) : F_X3_nextTurn (nI k) σ = some (.inr (ntS (zv σ 6) k)) := by
  unfold F_X3_nextTurn ntS
  rw [s_first h, Option.bind_some]
  cases he : ef (zv σ 6) with
  | none =>
    have q : ∀ {α : Type} (a b : α), (if ¬ enc none = -1 then a else b) = b := fun a b => if_neg (fun e : ¬ enc none = -1 => e rfl)
    rcases lt4 hk with rfl | rfl | rfl | rfl
    · rw [if_pos (by decide), q]; rfl
    · rw [if_neg (by decide), if_pos (by decide), q]; rfl
    · rw [if_neg (by decide), if_neg (by decide), if_pos (by decide), q]; rfl
    · rw [if_neg (by decide), if_neg (by decide), if_neg (by decide), if_pos (by decide)]; rfl
  | some g =>
    obtain ⟨g1, g2, j, g3⟩ := ef_ok he
    have q : ∀ {α : Type} (a b : α), (if ¬ enc (some g) = -1 then a else b) = a := fun a b => if_pos (show ¬ enc (some g) = -1 from nI_ne_m1 (by omega))
    have hC := h.2 g g1 g2
    rcases lt4 hk with rfl | rfl | rfl | rfl
    · rw [if_pos (by decide), q, show enc (some g) = nI g from rfl, s_courseOf g1 g2, Option.bind_some, show (1 : Int32) = nI 1 from rfl, s_num hC (by omega)]; rfl
    · rw [if_neg (by decide), if_pos (by decide), q, show enc (some g) = nI g from rfl, s_courseOf g1 g2, Option.bind_some, show (1 : Int32) = nI 1 from rfl, s_den hC (by omega)]; rfl
    · rw [if_neg (by decide), if_neg (by decide), if_pos (by decide), q, show enc (some g) = nI g from rfl, s_turningWith h g1 g2 g3]; rfl
    · rw [if_neg (by decide), if_neg (by decide), if_neg (by decide), if_pos (by decide)]; rfl
theorem m_turnOf {τ : Mem × Int64} {k : Nat} (hz : zOK (mz τ)) (hk : k ≤ 3) : ∃ τ', F_X4_turnOf (nI k) τ = some (ntS (mz τ) k, τ') ∧ Keep τ τ' := by
  obtain ⟨τ', n, e, ⟨K, h13, h12, hAB⟩, hI⟩ := m_layFirst hz
  refine ⟨τ', ?_, K⟩
  unfold F_X4_turnOf ntS
  rw [e, Option.bind_some]
  have hef : efF (mz τ) 15 1 none = ef (mz τ) := rfl
  rw [hef] at h13 hAB hI
  cases he : ef (mz τ) with
  | none =>
    rw [he] at h13 hAB hI
    obtain ⟨a, b⟩ := hAB
    have n0 : n = 0 := hI.1
    rw [a, b, h13, h12, n0]
    rcases lt4 hk with rfl | rfl | rfl | rfl
    · rw [if_neg (by decide), s_moment0]; rfl
    · rw [if_neg (by decide), s_moment0]; rfl
    · rw [if_pos (by decide), if_neg (by decide)]; rfl
    · rw [if_pos (by decide), if_pos (by decide)]; rfl
  | some g =>
    rw [he] at h13 hAB hI
    obtain ⟨g1, g2, ⟨j, g3⟩, -, hn⟩ := hI
    obtain ⟨a, b⟩ := hAB
    have hm := m_mom (τ := τ') (z := mz τ) hz g1 (by omega) g3 (by rw [K.1]; rfl)
    rw [a, b, h13, h12, hn]
    rcases lt4 hk with rfl | rfl | rfl | rfl
    · rw [if_neg (by decide), show nI 0 = (0 : Int32) from rfl, hm.1]; rfl
    · rw [if_neg (by decide), show nI 1 = (1 : Int32) from rfl, hm.2]; rfl
    · rw [if_pos (by decide), if_neg (by decide)]; rfl
    · rw [if_pos (by decide), if_pos (by decide)]; rfl
theorem o_nextTurn {σ : Mem} {τ : Mem × Int64} (R : Rel σ τ) (a : Int32) : ∃ res v τ', F_X3_nextTurn a σ = some res ∧ F_X4_nextTurn a τ = some (v, τ') ∧ Ag [(0, 1)] res v (τ'.1 0 5) ∧ Keep5 τ τ' := by
  have hz := R.zm
  have hzz : mz (t0 τ) = zv σ 6 := by rw [t0_mz, ← R.1]
  unfold F_X4_nextTurn
  rw [show (up2 τ.1 0 5 (0 : Int32), τ.2) = t0 τ from rfl, m_in, Option.bind_some]
  by_cases hb : (0 : Int32).toInt ≤ a.toInt ∧ a.toInt ≤ (3 : Int32).toInt
  · obtain ⟨k, hk, rfl⟩ := sm_nI (a := a) (N := 3) hb
    obtain ⟨τ', e, K⟩ := m_turnOf (τ := t0 τ) hz hk
    obtain ⟨K5, h5⟩ := t0_Keep K
    refine ⟨_, ntS (zv σ 6) k, τ', s_nextTurn R.2.1 hk, ?_, ⟨h5, rfl⟩, K5⟩
    rw [decide_eq_true hb, if_b1, e, hzz]; rfl
  · obtain ⟨τ', e, K, h5⟩ := m_fails τ 1
    refine ⟨.inl 0, 0, τ', ?_, ?_, ?_, K⟩
    · unfold F_X3_nextTurn
      rw [s_first R.2.1, Option.bind_some, if_neg (fun q => hb (by rw [q]; decide)), if_neg (fun q => hb (by rw [q]; decide)), if_neg (fun q => hb (by rw [q]; decide)), if_neg (fun q => hb (by rw [q]; decide))]
    · rw [decide_eq_false hb, if_b0, e]; rfl
    · rw [h5]; exact List.mem_cons_self ..
/-- one length -/
theorem len_one {z : Zf} {l1 l2 : Nat} (h1 : ch z 1 l1 = none) (h2 : ∀ r, r < l2 → ∃ w, ch z 1 r = some w) : l2 ≤ l1 := by
  rcases Nat.lt_or_ge l1 l2 with q | q
  · obtain ⟨w, e⟩ := h2 l1 q
    rw [h1] at e; cases e
  · exact q
def spS (z : Zf) (r k : Nat) : Int32 := if k = 0 then enc (ch z 1 r) else if k = 1 then wnum z 1 r (z 0) else wden z 1 r
theorem lt3 {k : Nat} (h : k ≤ 2) : k = 0 ∨ k = 1 ∨ k = 2 := by omega
theorem o_span {σ : Mem} {τ : Mem × Int64} (R : Rel σ τ) (a b : Int32) : ∃ res v τ', F_X3_span a b σ = some res ∧ F_X4_span a b τ = some (v, τ') ∧ Ag [(0, 1)] res v (τ'.1 0 5) ∧ Keep5 τ τ' := by
  have hz := R.zm
  have hzz : mz (t0 τ) = zv σ 6 := by rw [t0_mz, ← R.1]
  unfold F_X4_span F_X3_span
  rw [show (up2 τ.1 0 5 (0 : Int32), τ.2) = t0 τ from rfl, m_in, s_within]
  by_cases ha : a < 0
  · obtain ⟨τ', e, K, h5⟩ := m_fails τ 1
    refine ⟨.inl 0, 0, τ', by rw [if_pos ha], by rw [if_pos ha, e]; rfl, ?_, K⟩
    rw [h5]; exact List.mem_cons_self ..
  · rw [if_neg ha, if_neg ha, Option.bind_some, Option.bind_some]
    by_cases hb : (0 : Int32).toInt ≤ b.toInt ∧ b.toInt ≤ (2 : Int32).toInt
    · obtain ⟨k, hk, rfl⟩ := sm_nI (a := b) (N := 2) hb
      have ha0 : 0 ≤ a.toInt := by
        rw [i32_lt] at ha
        have : (0 : Int32).toInt = 0 := by decide
        omega
      have ha1 := Int32.toInt_lt a
      obtain ⟨r, hr, rfl⟩ := sm_nI (a := a) (N := 2147483647) ⟨ha0, by omega⟩
      obtain ⟨τ', len, e, K, S, hl, hle⟩ := m_laySpans hz
      obtain ⟨K5, h5⟩ := t0_Keep K
      obtain ⟨len2, hle2, hR, hend⟩ := R.2.1.2 1 (by omega) (by omega)
      rw [hzz] at S hl hz
      have el : len = len2 := by
        have q1 := len_one hl (l2 := len2) (fun i hi => by obtain ⟨w, e, -⟩ := hR.2.2.2 i hi; exact ⟨w, e⟩)
        have q2 := len_one hend (l2 := len) (fun i hi => by obtain ⟨w, e, -⟩ := S.2 i hi; exact ⟨w, e⟩)
        omega
      subst el
      have h48 : σ 48 5 = nI len := hR.2.2.1
      rw [decide_eq_true hb, if_c1, if_c1, e, Option.bind_some, S.1, h48]
      by_cases hrl : r < len
      · refine ⟨.inr (spS (zv σ 6) r k), spS (zv σ 6) r k, τ', ?_, ?_, ⟨h5, rfl⟩, K5⟩
        · rw [if_pos ((nI_lt_iff (by omega) (by omega)).mpr hrl)]
          have hC := R.2.1.2 1 (by omega) (by omega)
          rcases lt3 hk with rfl | rfl | rfl
          · rw [if_neg (by decide), show F_X0_winnerIn 48 (nI r) σ = _ from s_winnerIn hC (by omega)]; rfl
          · rw [if_pos (by decide), if_neg (by decide), show F_X0_numerator 48 (nI r) (σ 6 5) σ = _ from s_num hC (by omega) _]; rfl
          · rw [if_pos (by decide), if_pos (by decide), show F_X0_denominator 48 (nI r) σ = _ from s_den hC (by omega)]; rfl
        · rw [if_neg (fun q => absurd ((nI_le_iff (by omega) (by omega)).mp q) (by omega))]
          obtain ⟨w, s1, s2, s3, s4⟩ := S.2 r hrl
          have hm := m_mom (τ := τ') (z := zv σ 6) hz (by omega) (by omega) s1 (by rw [K.1, R.1]; rfl)
          unfold F_X4_spanTold
          rw [if_pos (inb_nI (by omega) (by decide)), if_pos (inb_nI (by omega) (by decide)), if_pos (inb_nI (by omega) (by decide)), nI_clamp (by omega), s2, s3, s4]
          rcases lt3 hk with rfl | rfl | rfl
          · rw [if_neg (by decide)]; show some (nI w, τ') = some (enc (ch (zv σ 6) 1 r), τ'); rw [s1]; rfl
          · rw [if_pos (by decide), show nI 1 - (1 : Int32) = 0 from by decide, hm.1]; rfl
          · rw [if_pos (by decide), show nI 2 - (1 : Int32) = 1 from by decide, hm.2]; rfl
      · refine ⟨.inr (-1), -1, τ', ?_, ?_, ⟨h5, rfl⟩, K5⟩
        · rw [if_neg (fun q => hrl ((nI_lt_iff (by omega) (by omega)).mp q))]; rfl
        · rw [if_pos ((nI_le_iff (by omega) (by omega)).mpr (by omega))]
    · obtain ⟨τ', e, K, h5⟩ := m_fails τ 1
      refine ⟨.inl 0, 0, τ', by rw [decide_eq_false hb, if_c0], by rw [decide_eq_false hb, if_c0, e]; rfl, ?_, K⟩
      rw [h5]; exact List.mem_cons_self ..
theorem o_count {σ : Mem} {τ : Mem × Int64} (R : Rel σ τ) (a : Int32) : ∃ res v τ', F_X3_count a σ = some res ∧ F_X4_count a τ = some (v, τ') ∧ Ag [(0, 1)] res v (τ'.1 0 5) ∧ Keep5 τ τ' := by
  have hz := R.zm
  have hzz : mz (t0 τ) = zv σ 6 := by rw [t0_mz, ← R.1]
  unfold F_X4_count F_X3_count
  rw [show (up2 τ.1 0 5 (0 : Int32), τ.2) = t0 τ from rfl, m_in, Option.bind_some]
  by_cases hb : (0 : Int32).toInt ≤ a.toInt ∧ a.toInt ≤ (6 : Int32).toInt
  · obtain ⟨k, hk, rfl⟩ := sm_nI (a := a) (N := 6) hb
    obtain ⟨τ', len, e, K, S, hl, hle⟩ := m_laySpans hz
    obtain ⟨K5, h5⟩ := t0_Keep K
    obtain ⟨len2, hle2, hR, hend⟩ := R.2.1.2 1 (by omega) (by omega)
    have hz' : mz τ' = zv σ 6 := K.mz.trans hzz
    rw [hzz] at S hl hz
    have el : len = len2 := by
      have q1 := len_one hl (l2 := len2) (fun i hi => by obtain ⟨w, e, -⟩ := hR.2.2.2 i hi; exact ⟨w, e⟩)
      have q2 := len_one hend (l2 := len) (fun i hi => by obtain ⟨w, e, -⟩ := S.2 i hi; exact ⟨w, e⟩)
      omega
    subst el
    have h48 : σ 48 5 = nI len := hR.2.2.1
    have hzt : zOK (mz τ') := by rw [hz']; exact hz
    unfold F_X4_counted
    rw [decide_eq_true hb, if_b1, e, Option.bind_some, S.1, h48, m_movers hzt, m_soFar, s_movers R.2.1.1, s_allTurned, show F_X1_turnedOf 6 (1 : Int32) σ = _ from s_turnedOf (c := 1) (by omega) (by omega), hz']
    rcases lt7 hk with rfl | rfl | rfl | rfl | rfl | rfl | rfl
    · refine ⟨.inr (σ 6 5), σ 6 5, τ', by rw [if_pos (by decide)]; rfl, ?_, ⟨h5, rfl⟩, K5⟩
      rw [if_pos (by decide)]
      show some (τ'.1 1 0, τ') = _
      rw [← mz_lo τ' (k := 0) (by omega), hz']; rfl
    · refine ⟨.inr _, _, τ', by rw [if_neg (by decide), if_pos (by decide)]; rfl, ?_, ⟨h5, rfl⟩, K5⟩
      rw [if_neg (by decide), if_pos (by decide)]; rfl
    · refine ⟨.inr _, _, τ', by rw [if_neg (by decide), if_neg (by decide), if_pos (by decide)]; rfl, ?_, ⟨h5, rfl⟩, K5⟩
      rw [if_neg (by decide), if_neg (by decide), if_pos (by decide)]; rfl
    · refine ⟨.inr _, _, τ', by rw [if_neg (by decide), if_neg (by decide), if_neg (by decide), if_pos (by decide)]; rfl, ?_, ⟨h5, rfl⟩, K5⟩
      rw [if_neg (by decide), if_neg (by decide), if_neg (by decide), if_pos (by decide)]; rfl
    · refine ⟨.inr _, _, τ', by rw [if_neg (by decide), if_neg (by decide), if_neg (by decide), if_neg (by decide), if_pos (by decide)]; rfl, ?_, ⟨h5, rfl⟩, K5⟩
      rw [if_neg (by decide), if_neg (by decide), if_neg (by decide), if_neg (by decide), if_pos (by decide)]
      show some (τ'.1 1 4, τ') = _
      rw [← mz_t τ' (c := 1) (by omega) (by omega), hz']
    · refine ⟨.inr _, _, τ', by rw [if_neg (by decide), if_neg (by decide), if_neg (by decide), if_neg (by decide), if_neg (by decide), if_pos (by decide)]; rfl, ?_, ⟨h5, rfl⟩, K5⟩
      rw [if_neg (by decide), if_neg (by decide), if_neg (by decide), if_neg (by decide), if_neg (by decide), if_pos (by decide)]; rfl
    · refine ⟨.inr (σ 0 3), σ 0 3, τ', by rw [if_neg (by decide), if_neg (by decide), if_neg (by decide), if_neg (by decide), if_neg (by decide), if_neg (by decide), if_pos (by decide)]; rfl, ?_, ⟨h5, rfl⟩, K5⟩
      rw [if_neg (by decide), if_neg (by decide), if_neg (by decide), if_neg (by decide), if_neg (by decide), if_neg (by decide)]
      obtain ⟨o, s, -, -, -, r2, r3, -⟩ := R.2.2.1
      rw [r2, ← r3, K5.2.2.2.1]; rfl
  · obtain ⟨τ', e, K, h5⟩ := m_fails τ 1
    refine ⟨.inl 0, 0, τ', ?_, ?_, ?_, K⟩
    · rw [if_neg (fun q => hb (by rw [q]; decide)), if_neg (fun q => hb (by rw [q]; decide)), if_neg (fun q => hb (by rw [q]; decide)), if_neg (fun q => hb (by rw [q]; decide)), if_neg (fun q => hb (by rw [q]; decide)), if_neg (fun q => hb (by rw [q]; decide)), if_neg (fun q => hb (by rw [q]; decide))]
    · rw [decide_eq_false hb, if_b0, e]; rfl
    · rw [h5]; exact List.mem_cons_self ..
theorem lt2 {k : Nat} (h : k ≤ 1) : k = 0 ∨ k = 1 := by omega
theorem o_setting {σ : Mem} {τ : Mem × Int64} (R : Rel σ τ) (a : Int32) : ∃ res v τ', F_X3_setting a σ = some res ∧ F_X4_setting a τ = some (v, τ') ∧ Ag [(2, 1)] res v (τ'.1 0 5) ∧ Keep5 τ τ' := by
  have hzz : mz (t0 τ) = zv σ 6 := by rw [t0_mz, ← R.1]
  unfold F_X4_setting F_X3_setting
  rw [show (up2 τ.1 0 5 (0 : Int32), τ.2) = t0 τ from rfl, m_in, Option.bind_some]
  by_cases hb : (0 : Int32).toInt ≤ a.toInt ∧ a.toInt ≤ (1 : Int32).toInt
  · obtain ⟨k, hk, rfl⟩ := sm_nI (a := a) (N := 1) hb
    rw [decide_eq_true hb, if_b1, show (1 : Int32) + nI k = nI (1 + k) from nI_add 1 k, if_pos (inb_nI (by omega) (by decide)), nI_clamp (by omega)]
    refine ⟨.inr (zv σ 6 (1 + k)), zv σ 6 (1 + k), t0 τ, ?_, ?_, ⟨t0_5 τ, rfl⟩, t0_k5 τ⟩
    · rcases lt2 hk with rfl | rfl
      · rw [if_pos (by decide), if_neg (by decide)]; rfl
      · rw [if_neg (by decide), if_pos (by decide), if_pos (by decide)]; rfl
    · rw [← hzz, mz_lo _ (by omega)]; rfl
  · obtain ⟨τ', e, K, h5⟩ := m_fails τ 1
    refine ⟨.inl 2, 0, τ', ?_, ?_, ?_, K⟩
    · rw [if_neg (fun q => hb (by rw [q]; decide)), if_neg (fun q => hb (by rw [q]; decide))]
    · rw [decide_eq_false hb, if_b0, e]; rfl
    · rw [h5]; exact List.mem_cons_self ..
theorem tw_at (z : Zf) {c : Nat} {x : Int} (h1 : 1 ≤ c) (h2 : c ≤ 15) (hx : 0 ≤ x) : win z x 1 c = ch z c (tw z c x) := by
  have T := tw_spec (z := z) x h1 h2
  cases hc : ch z c (tw z c x) with
  | none =>
    rcases Nat.eq_zero_or_pos (tw z c x) with q | q
    · rw [q] at hc
      exact win_none (a := 0) (b := 1) hc
    · obtain ⟨k, e, -⟩ := T.1 (tw z c x) q (Nat.le_refl _)
      rw [hc] at e; cases e
  | some w =>
    refine ch_at hx hc ?_ T.2
    rcases Nat.eq_zero_or_pos (tw z c x) with q | q
    · rw [q]
      show (0 : Int) ≤ x * 1
      omega
    · obtain ⟨k, -, e⟩ := T.1 (tw z c x) q (Nat.le_refl _)
      exact e
theorem o_leaderAfter {σ : Mem} {τ : Mem × Int64} (R : Rel σ τ) (a : Int32) : ∃ res v τ', F_X3_leaderAfter a σ = some res ∧ F_X4_leaderAfter a τ = some (v, τ') ∧ Ag [(0, 1)] res v (τ'.1 0 5) ∧ Keep5 τ τ' := by
  have hz := R.zm
  have hzz : mz (t0 τ) = zv σ 6 := by rw [t0_mz, ← R.1]
  unfold F_X4_leaderAfter F_X3_leaderAfter
  rw [show (up2 τ.1 0 5 (0 : Int32), τ.2) = t0 τ from rfl, m_in, s_within, Option.bind_some, Option.bind_some]
  by_cases hb : (0 : Int32).toInt ≤ a.toInt ∧ a.toInt ≤ (9999 : Int32).toInt
  · have hb' : 0 ≤ a.toInt ∧ a.toInt ≤ 9999 := hb
    have hC := R.2.1.2 1 (by omega) (by omega)
    have hw := m_winnerAt (τ := t0 τ) (c := 1) (a := a.toInt64) (b := 1) hz (by omega) (by omega) (by rw [toL]; omega) (by decide)
    rw [toL, hzz] at hw
    have hw' : F_X4_winnerAt (1 : Int32) a.toInt64 (1 : Int64) (t0 τ) = some (enc (win (zv σ 6) a.toInt 1 1)) := hw
    obtain ⟨len, hle, hR, hend⟩ := hC
    have hp := tw_lt (z := zv σ 6) (x := a.toInt) (by omega) (by omega) hend
    refine ⟨.inr (enc (win (zv σ 6) a.toInt 1 1)), enc (win (zv σ 6) a.toInt 1 1), t0 τ, ?_, ?_, ⟨t0_5 τ, rfl⟩, t0_k5 τ⟩
    · rw [decide_eq_true hb, if_c1, show F_X0_turnsWithin 48 a σ = _ from s_turnsWithin R.2.1.1 (R.2.1.2 1 (by omega) (by omega)) (by omega) (by omega) hb', Option.bind_some,
        show F_X0_winnerIn 48 (nI (tw (zv σ 6) 1 a.toInt)) σ = _ from s_winnerIn (R.2.1.2 1 (by omega) (by omega)) (by omega), tw_at _ (by omega) (by omega) hb'.1]; rfl
    · rw [decide_eq_true hb, if_b1, hw']; rfl
  · obtain ⟨τ', e, K, h5⟩ := m_fails τ 1
    refine ⟨.inl 0, 0, τ', ?_, ?_, ?_, K⟩
    · rw [decide_eq_false hb, if_c0]
    · rw [decide_eq_false hb, if_b0, e]; rfl
    · rw [h5]; exact List.mem_cons_self ..
theorem s_turnsIn {σ : Mem} {x : Int32} (h : CA σ) (hx : 0 ≤ x.toInt ∧ x.toInt ≤ 9999) : ∀ (m c fu : Nat) (a : Int32), c + m = 16 → 1 ≤ c → m < fu → L_X3_turnsIn_25 x σ fu a (nI c) = some (sumT (fun c => nI (tw (zv σ 6) c x.toInt)) m c a) := by
  intro m
  induction m with
  | zero =>
    intro c fu a hc h1 hf
    obtain ⟨f, rfl⟩ : ∃ f, fu = f + 1 := ⟨fu - 1, by omega⟩
    have : c = 16 := by omega
    subst this
    rw [L_X3_turnsIn_25, if_pos c16]; rfl
  | succ m ih =>
    intro c fu a hc h1 hf
    obtain ⟨f, rfl⟩ : ∃ f, fu = f + 1 := ⟨fu - 1, by omega⟩
    rw [L_X3_turnsIn_25, if_neg (c15 (by omega)), s_courseOf h1 (by omega), Option.bind_some, s_turnsWithin h.1 (h.2 c h1 (by omega)) h1 (by omega) hx, Option.bind_some, show nI c + (1 : Int32) = nI (c + 1) from nI_1 c, ih (c + 1) f _ (by omega) (by omega) (by omega), sumT]
theorem o_turnsIn {σ : Mem} {τ : Mem × Int64} (R : Rel σ τ) (a : Int32) : ∃ res v τ', F_X3_turnsIn a σ = some res ∧ F_X4_turnsIn a τ = some (v, τ') ∧ Ag [(0, 1)] res v (τ'.1 0 5) ∧ Keep5 τ τ' := by
  have hz := R.zm
  have hzz : mz (t0 τ) = zv σ 6 := by rw [t0_mz, ← R.1]
  unfold F_X4_turnsIn F_X3_turnsIn
  rw [show (up2 τ.1 0 5 (0 : Int32), τ.2) = t0 τ from rfl, m_in, s_within, Option.bind_some, Option.bind_some]
  by_cases hb : (0 : Int32).toInt ≤ a.toInt ∧ a.toInt ≤ (999 : Int32).toInt
  · have hb' : 0 ≤ a.toInt ∧ a.toInt ≤ 999 := hb
    obtain ⟨τ', e, K⟩ := m_turnsAll (x := a) hz (by omega)
    obtain ⟨K5, h5⟩ := t0_Keep K
    rw [hzz] at e
    refine ⟨.inr (sumT (fun c => nI (tw (zv σ 6) c a.toInt)) 15 1 0), sumT (fun c => nI (tw (zv σ 6) c a.toInt)) 15 1 0, τ', ?_, ?_, ⟨h5, rfl⟩, K5⟩
    · rw [decide_eq_true hb, if_c1, show (1 : Int32) = nI 1 from rfl, s_turnsIn R.2.1 (by omega) 15 1 FU 0 rfl (by omega) (by decide)]; rfl
    · rw [decide_eq_true hb, if_b1, e]; rfl
  · obtain ⟨τ', e, K, h5⟩ := m_fails τ 1
    refine ⟨.inl 0, 0, τ', ?_, ?_, ?_, K⟩
    · rw [decide_eq_false hb, if_c0]
    · rw [decide_eq_false hb, if_b0, e]; rfl
    · rw [h5]; exact List.mem_cons_self ..
