/-! class and reference side by side; the looks: mover, contest, nextTurn, span, count, setting, leaderAfter, overtakes, turnsIn -/
def mrow (τ : Mem × Int64) (k : Nat) : Zf := fun x => if x = 3 ∨ x = 19 ∨ 84 ≤ x then 0 else τ.1 2 (84 * k + x)
def Rg (σ : Mem) (τ : Mem × Int64) : Prop := ∃ o s, o < 6 ∧ s ≤ 6 ∧ σ 0 2 = nI o ∧ σ 0 3 = nI s ∧ τ.1 0 2 = nI s ∧ ∀ k, k < s → zv σ (12 + 6 * ((o + k) % 6)) = mrow τ k ∧ zOK (mrow τ k)
def Tx (σ : Mem) (τ : Mem × Int64) : Prop := ∃ L, L ≤ 60 ∧ σ 4 1 = nI L ∧ τ.1 0 4 = nI L ∧ ∀ i, i < L → ∃ k, 33 ≤ k ∧ k ≤ 126 ∧ σ 5 i = nI k ∧ τ.1 3 i = nI k
def Rel (σ : Mem) (τ : Mem × Int64) : Prop := zv σ 6 = mz τ ∧ CA σ ∧ Rg σ τ ∧ Tx σ τ
def Keep5 (τ τ' : Mem × Int64) : Prop := τ'.1 1 = τ.1 1 ∧ τ'.1 2 = τ.1 2 ∧ τ'.1 3 = τ.1 3 ∧ τ'.1 0 2 = τ.1 0 2 ∧ τ'.1 0 4 = τ.1 0 4
theorem Keep5.rel {σ : Mem} {τ τ' : Mem × Int64} (K : Keep5 τ τ') (h : Rel σ τ) : Rel σ τ' := by
  obtain ⟨k1, k2, k3, k4, k5⟩ := K
  obtain ⟨a, b, ⟨o, s, o1, s1, r1, r2, r3, r4⟩, ⟨L, l1, l2, l3, l4⟩⟩ := h
  have e : ∀ k, mrow τ' k = mrow τ k := fun k => by funext x; unfold mrow; rw [k2]
  refine ⟨a.trans (mz_cong k1).symm, b, ⟨o, s, o1, s1, r1, r2, by rw [k4]; exact r3, fun k hk => ?_⟩, ⟨L, l1, l2, by rw [k5]; exact l3, fun i hi => ?_⟩⟩
  · rw [e]; exact r4 k hk
  · rw [k3]; exact l4 i hi
/-- what both tell: a kind of throw and the reference's number for it, or the same answer -/
def Ag (l : List (Nat × Int32)) (res : Nat ⊕ Int32) (b t : Int32) : Prop := match res with
  | .inl k => (k, t) ∈ l
  | .inr v => t = 0 ∧ b = v
def t0 (τ : Mem × Int64) : Mem × Int64 := (up2 τ.1 0 5 0, τ.2)
theorem t0_mz (τ : Mem × Int64) : mz (t0 τ) = mz τ := mz_cong (up2_ne (k := 5) (v := 0) τ.1 (x := 0) (y := 1) (by omega))
theorem t0_5 (τ : Mem × Int64) : (t0 τ).1 0 5 = 0 := by unfold t0 up2; simp
theorem t0_k5 (τ : Mem × Int64) : Keep5 τ (t0 τ) := by
  have e : ∀ x, x ≠ 0 → (t0 τ).1 x = τ.1 x := fun x hx => up2_ne τ.1 hx
  exact ⟨e 1 (by omega), e 2 (by omega), e 3 (by omega), by unfold t0 up2; simp, by unfold t0 up2; simp⟩
theorem t0_Keep {τ τ' : Mem × Int64} (K : Keep (t0 τ) τ') : Keep5 τ τ' ∧ τ'.1 0 5 = 0 := by
  obtain ⟨k1, k2, k3, k4, k5, k6, -⟩ := K
  obtain ⟨j1, j2, j3, j4, j5⟩ := t0_k5 τ
  exact ⟨⟨k1.trans j1, k2.trans j2, k3.trans j3, k4.trans j4, k5.trans j5⟩, k6.trans (t0_5 τ)⟩
theorem m_fails (τ : Mem × Int64) (k : Int32) : ∃ τ', F_X4_fails k (t0 τ) = some (0, τ') ∧ Keep5 τ τ' ∧ τ'.1 0 5 = k := by
  refine ⟨(up2 (t0 τ).1 0 5 k, (t0 τ).2), rfl, ?_, by unfold up2; simp⟩
  obtain ⟨j1, j2, j3, j4, j5⟩ := t0_k5 τ
  have e : ∀ x, x ≠ 0 → (up2 (t0 τ).1 0 5 k) x = (t0 τ).1 x := fun x hx => up2_ne _ hx
  exact ⟨(e 1 (by omega)).trans j1, (e 2 (by omega)).trans j2, (e 3 (by omega)).trans j3, by unfold t0 up2; simp, by unfold t0 up2; simp⟩
theorem sm_nI {a : Int32} {N : Nat} (h : 0 ≤ a.toInt ∧ a.toInt ≤ N) : ∃ k, k ≤ N ∧ a = nI k := ⟨a.toInt.toNat, by omega, i_nI (by omega)⟩
theorem lt7 {k : Nat} (h : k ≤ 6) : k = 0 ∨ k = 1 ∨ k = 2 ∨ k = 3 ∨ k = 4 ∨ k = 5 ∨ k = 6 := by omega
/-- what mover tells -/
def mvS (z : Zf) (i k : Nat) : Int32 :=
  if k = 0 then z (20 + 4 * i + 1) else if k = 1 then z (20 + 4 * i + 2) else if k = 2 then nI (fb_ct (rkP z i) 16) else if k = 3 then nI (fb_ct (wnP z i) 16)
  else if k = 4 then (match ro z 1 i with | none => 0 | some r => wnum z 1 r (z 0)) else if k = 5 then (match ro z 1 i with | none => 0 | some r => wden z 1 r) else z (20 + 4 * i + 3)
def coS (z : Zf) (c k : Nat) : Int32 :=
  if k = 0 then enc (ch z c 0) else if k = 1 then enc (los z c) else if k = 2 then wnum z c 1 (z 0) else if k = 3 then wden z c 1 else if k = 4 then enc (ch z c 1) else z (3 + c)
theorem ro_lt {z : Zf} {i r : Nat} (h : ro z 1 i = some r) : r < 16 := ch_len (c := 1) (by omega) (by omega) (ro_ch h)
section S32
variable {σ : Mem}
theorem s_mover {i k : Nat} (h : CA σ) (hi : i < 16) (hk : k ≤ 6) (ht : tk (zv σ 6) i = true) : F_X3_mover (nI i) (nI k) σ = some (.inr (mvS (zv σ 6) i k)) := by
  unfold F_X3_mover
  rw [s_has h.1 hi, ht, Option.bind_some, if_c1]
  have hz := h.1
  have hC := h.2 1 (by omega) (by omega)
  have r0 : F_X0_rowOf 48 (nI i) σ = some (enc (ro (zv σ 6) 1 i)) := s_rowOf hC hi (by omega) (by omega)
  rcases lt7 hk with rfl | rfl | rfl | rfl | rfl | rfl | rfl
  · rw [if_pos (by decide), s_value hi]
    show some (Sum.inr (σ 8 i)) = some (Sum.inr (zv σ 6 (20 + 4 * i + 1)))
    rw [zv_s σ 6 hi (by omega)]
  · rw [if_neg (by decide), if_pos (by decide), s_speed hi]
    show some (Sum.inr (σ 9 i)) = some (Sum.inr (zv σ 6 (20 + 4 * i + 2)))
    rw [zv_s σ 6 hi (by omega)]
  · rw [if_neg (by decide), if_neg (by decide), if_pos (by decide), s_rank hz hi]; rfl
  · rw [if_neg (by decide), if_neg (by decide), if_neg (by decide), if_pos (by decide), s_wins h hi]; rfl
  · rw [if_neg (by decide), if_neg (by decide), if_neg (by decide), if_neg (by decide), if_pos (by decide), r0, Option.bind_some]
    show inR _ = some (Sum.inr (match ro (zv σ 6) 1 i with | none => 0 | some r => wnum (zv σ 6) 1 r (zv σ 6 0)))
    cases hr : ro (zv σ 6) 1 i with
    | none => rw [show enc none = (-1 : Int32) from rfl, show F_X0_numerator 48 (-1) (σ 6 5) σ = some 0 from s_numM (c := 1) _]; rfl
    | some r =>
      have := ro_lt hr
      rw [show enc (some r) = nI r from rfl, show F_X0_numerator 48 (nI r) (σ 6 5) σ = some (wnum (zv σ 6) 1 r (σ 6 5)) from s_num hC (by omega) _]; rfl
  · rw [if_neg (by decide), if_neg (by decide), if_neg (by decide), if_neg (by decide), if_neg (by decide), if_pos (by decide), r0, Option.bind_some]
    show inR _ = some (Sum.inr (match ro (zv σ 6) 1 i with | none => 0 | some r => wden (zv σ 6) 1 r))
    cases hr : ro (zv σ 6) 1 i with
    | none => rw [show enc none = (-1 : Int32) from rfl, show F_X0_denominator 48 (-1) σ = some 0 from s_denM (c := 1)]; rfl
    | some r =>
      have := ro_lt hr
      rw [show enc (some r) = nI r from rfl, show F_X0_denominator 48 (nI r) σ = some (wden (zv σ 6) 1 r) from s_den hC (by omega)]; rfl
  · rw [if_neg (by decide), if_neg (by decide), if_neg (by decide), if_neg (by decide), if_neg (by decide), if_neg (by decide), if_pos (by decide), s_added hi]
    show some (Sum.inr (σ 10 i)) = some (Sum.inr (zv σ 6 (20 + 4 * i + 3)))
    rw [zv_s σ 6 hi (by omega)]
theorem s_contest {c k : Nat} (h : CA σ) (h1 : 1 ≤ c) (h2 : c ≤ 15) (hk : k ≤ 5) : F_X3_contest (nI c) (nI k) σ = some (.inr (coS (zv σ 6) c k)) := by
  unfold F_X3_contest
  have e : (nI c).toInt = (c : Int) := nI_toInt (by omega)
  have q : decide ((1 : Int32).toInt ≤ (nI c).toInt ∧ (nI c).toInt ≤ (15 : Int32).toInt) = true := by
    rw [e, show (1 : Int32).toInt = 1 from by decide, show (15 : Int32).toInt = 15 from by decide, decide_eq_true_eq]; omega
  have hC := h.2 c h1 h2
  rw [s_within, q, Option.bind_some, if_c1, s_courseOf h1 h2, Option.bind_some]
  rcases lt7 (show k ≤ 6 by omega) with rfl | rfl | rfl | rfl | rfl | rfl | rfl
  · rw [if_pos (by decide), show (0 : Int32) = nI 0 from rfl, s_winnerIn hC (by omega)]; rfl
  · rw [if_neg (by decide), if_pos (by decide), s_loser h h1 h2]; rfl
  · rw [if_neg (by decide), if_neg (by decide), if_pos (by decide), show (1 : Int32) = nI 1 from rfl, s_num hC (by omega)]; rfl
  · rw [if_neg (by decide), if_neg (by decide), if_neg (by decide), if_pos (by decide), show (1 : Int32) = nI 1 from rfl, s_den hC (by omega)]; rfl
  · rw [if_neg (by decide), if_neg (by decide), if_neg (by decide), if_neg (by decide), if_pos (by decide), show (1 : Int32) = nI 1 from rfl, s_winnerIn hC (by omega)]; rfl
  · rw [if_neg (by decide), if_neg (by decide), if_neg (by decide), if_neg (by decide), if_neg (by decide), if_pos (by decide), s_turnedOf h1 h2]; rfl
  · omega
end S32
section M32
variable {τ : Mem × Int64}
theorem m_leadsAt {i k : Nat} (hz : zOK (mz τ)) (hi : i < 16) (hk : k < 2) : ∃ τ', F_X4_leadsAt (nI i) (nI k) τ = some (mvS (mz τ) i (4 + k), τ') ∧ Keep τ τ' := by
  obtain ⟨τ', len, e, K, S, hl, -⟩ := m_spanOf hz hi
  refine ⟨τ', ?_, K⟩
  unfold F_X4_leadsAt
  rw [e, Option.bind_some]
  cases hr : ro (mz τ) 1 i with
  | none =>
    rw [if_neg (fun q : ¬ enc none = -1 => q rfl)]
    rcases (show k = 0 ∨ k = 1 by omega) with rfl | rfl
    · unfold mvS; simp [hr]
    · unfold mvS; simp [hr]
  | some r =>
    have r16 := ro_lt hr
    have hc := ro_ch hr
    rw [if_pos (show ¬ enc (some r) = -1 from nI_ne_m1 (by omega))]
    show (if inb (nI r) 16 then if inb (nI r) 16 then Option.bind (F_X4_moment (τ'.1 7 (nI r).toNatClampNeg) (τ'.1 8 (nI r).toNatClampNeg) (nI k) τ') _ else _ else _) = _
    rw [if_pos (inb_nI r16 (by decide)), if_pos (inb_nI r16 (by decide)), nI_clamp (by omega)]
    have hrl : r < len := by
      rcases Nat.lt_or_ge r len with q | q
      · exact q
      · rw [ch_end hl r q] at hc; cases hc
    obtain ⟨w, s1, -, s3, s4⟩ := S.2 r hrl
    have hm := m_mom (τ := τ') (z := mz τ) hz (by omega) (by omega) s1 (by rw [K.1]; rfl)
    rw [s3, s4]
    rcases (show k = 0 ∨ k = 1 by omega) with rfl | rfl
    · rw [show nI 0 = (0 : Int32) from rfl, hm.1, Option.bind_some]; unfold mvS; simp [hr]
    · rw [show nI 1 = (1 : Int32) from rfl, hm.2, Option.bind_some]; unfold mvS; simp [hr]
theorem m_moverOf {i k : Nat} (hz : zOK (mz τ)) (hi : i < 16) (hk : k ≤ 6) : ∃ τ', F_X4_moverOf (nI i) (nI k) τ = some (mvS (mz τ) i k, τ') ∧ Keep τ τ' := by
  unfold F_X4_moverOf
  rcases lt7 hk with rfl | rfl | rfl | rfl | rfl | rfl | rfl
  · refine ⟨τ, ?_, Keep.rf⟩
    rw [if_pos (by decide), m_at, Option.bind_some, show nI (20 + 4 * i) + (1 : Int32) + nI 0 = nI (20 + 4 * i + 1) by rw [show nI (20 + 4 * i) + (1 : Int32) = nI (20 + 4 * i + 1) from nI_1 _, nI_add], if_pos (inb_nI (by omega) (by decide)), nI_clamp (by omega), ← mz_s τ hi (by omega)]; rfl
  · refine ⟨τ, ?_, Keep.rf⟩
    rw [if_neg (by decide), if_pos (by decide), m_at, Option.bind_some, show nI (20 + 4 * i) + (1 : Int32) + nI 1 = nI (20 + 4 * i + 2) by rw [show nI (20 + 4 * i) + (1 : Int32) = nI (20 + 4 * i + 1) from nI_1 _, nI_add], if_pos (inb_nI (by omega) (by decide)), nI_clamp (by omega), ← mz_s τ hi (by omega)]; rfl
  · exact ⟨τ, by rw [if_neg (by decide), if_neg (by decide), if_pos (by decide), m_rank hz hi]; rfl, Keep.rf⟩
  · exact ⟨τ, by rw [if_neg (by decide), if_neg (by decide), if_neg (by decide), if_pos (by decide), m_wins hz hi]; rfl, Keep.rf⟩
  · obtain ⟨τ', e, K⟩ := m_leadsAt (k := 0) hz hi (by omega)
    refine ⟨τ', ?_, K⟩
    rw [if_neg (by decide), if_neg (by decide), if_neg (by decide), if_neg (by decide), if_pos (by decide), show nI 4 - (4 : Int32) = nI 0 from by decide, e]; rfl
  · obtain ⟨τ', e, K⟩ := m_leadsAt (k := 1) hz hi (by omega)
    refine ⟨τ', ?_, K⟩
    rw [if_neg (by decide), if_neg (by decide), if_neg (by decide), if_neg (by decide), if_neg (by decide), if_pos (by decide), show nI 5 - (4 : Int32) = nI 1 from by decide, e]; rfl
  · refine ⟨τ, ?_, Keep.rf⟩
    rw [if_neg (by decide), if_neg (by decide), if_neg (by decide), if_neg (by decide), if_neg (by decide), if_neg (by decide), if_pos (by decide), m_at, Option.bind_some, if_pos (m_idx3 hi).1, (m_idx3 hi).2, ← mz_s τ hi (by omega)]; rfl
theorem m_contestOf {c k : Nat} (hz : zOK (mz τ)) (h1 : 1 ≤ c) (h2 : c ≤ 15) (hk : k ≤ 5) : ∃ τ', F_X4_contestOf (nI c) (nI k) τ = some (coS (mz τ) c k, τ') ∧ Keep τ τ' := by
  unfold F_X4_contestOf
  have key : ∀ j, j < 2 → ∃ v, F_X4_moment ((nN (mz τ) c (0 + 1) τ).1 0 6) ((nN (mz τ) c (0 + 1) τ).1 0 7) (nI j) (nN (mz τ) c (0 + 1) τ) = some v ∧ v = coS (mz τ) c (2 + j) := by
    intro j hj
    cases hc : ch (mz τ) c 1 with
    | none =>
      have hn := nN_6n (z := mz τ) (c := c) (r := 0 + 1) τ hc
      rw [hn.1, hn.2, s_moment0]
      refine ⟨0, rfl, ?_⟩
      rcases (show j = 0 ∨ j = 1 by omega) with rfl | rfl
      · unfold coS wnum; simp [hc]
      · unfold coS wden; simp [hc]
    | some w =>
      have hn := nN_6 (z := mz τ) (c := c) (r := 0 + 1) τ hc
      have hm := m_mom (τ := nN (mz τ) c (0 + 1) τ) (z := mz τ) hz h1 h2 hc (by rw [(nN_keep (mz τ) c (0 + 1) τ).1]; rfl)
      rw [hn.1, hn.2]
      rcases (show j = 0 ∨ j = 1 by omega) with rfl | rfl
      · exact ⟨_, hm.1, by unfold coS; simp⟩
      · exact ⟨_, hm.2, by unfold coS; simp⟩
  have hl := m_lay (τ := τ) (r := 0) hz h1 h2
  rcases lt7 (show k ≤ 6 by omega) with rfl | rfl | rfl | rfl | rfl | rfl | rfl
  · exact ⟨τ, by rw [if_neg (by decide), if_neg (by decide), m_winnerOf hz h1 h2]; rfl, Keep.rf⟩
  · exact ⟨τ, by rw [if_neg (by decide), if_pos (by decide), m_loser hz h1 h2]; rfl, Keep.rf⟩
  · obtain ⟨v, e, rfl⟩ := key 0 (by omega)
    refine ⟨_, ?_, nN_keep (mz τ) c (0 + 1) τ⟩
    rw [if_pos (by decide), if_pos (by decide), m_winnerOf hz h1 h2, Option.bind_some, hl, Option.bind_some, if_pos (by decide), show nI 2 - (2 : Int32) = nI 0 from by decide, e]; rfl
  · obtain ⟨v, e, rfl⟩ := key 1 (by omega)
    refine ⟨_, ?_, nN_keep (mz τ) c (0 + 1) τ⟩
    rw [if_pos (by decide), if_pos (by decide), m_winnerOf hz h1 h2, Option.bind_some, hl, Option.bind_some, if_pos (by decide), show nI 3 - (2 : Int32) = nI 1 from by decide, e]; rfl
  · refine ⟨_, ?_, nN_keep (mz τ) c (0 + 1) τ⟩
    rw [if_pos (by decide), if_pos (by decide), m_winnerOf hz h1 h2, Option.bind_some, hl, Option.bind_some, if_neg (by decide), nN_8]; rfl
  · refine ⟨τ, ?_, Keep.rf⟩
    rw [if_pos (by decide), if_neg (by decide), show (3 : Int32) + nI c = nI (3 + c) from nI_add 3 c, if_pos (inb_nI (by omega) (by decide)), nI_clamp (by omega), ← mz_t τ h1 h2]; rfl
  · omega
end M32
theorem toInt_c (k : Nat) (h : k < 2 ^ 31) : (nI k).toInt = (k : Int) := nI_toInt h
theorem Rel.zm {σ : Mem} {τ : Mem × Int64} (R : Rel σ τ) : zOK (mz (t0 τ)) := by rw [t0_mz, ← R.1]; exact R.2.1.1
theorem o_mover {σ : Mem} {τ : Mem × Int64} (R : Rel σ τ) (a b : Int32) : ∃ res v τ', F_X3_mover a b σ = some res ∧ F_X4_mover a b τ = some (v, τ') ∧ Ag [(2, 1), (0, 2)] res v (τ'.1 0 5) ∧ Keep5 τ τ' := by
  have hz := R.zm
  have hzz : mz (t0 τ) = zv σ 6 := by rw [t0_mz, ← R.1]
  unfold F_X4_mover
  rw [show (up2 τ.1 0 5 (0 : Int32), τ.2) = t0 τ from rfl, m_isMover, hzz, Option.bind_some]
  cases hA : hasA (zv σ 6) a with
  | false =>
    obtain ⟨τ', e, K, h5⟩ := m_fails τ 1
    refine ⟨.inl 2, 0, τ', ?_, ?_, ?_, K⟩
    · unfold F_X3_mover; rw [s_hasX R.2.1.1, hA, Option.bind_some, if_c0]
    · rw [if_c0, e]; rfl
    · rw [h5]; exact List.mem_cons_self ..
  | true =>
    obtain ⟨i, hi, rfl, ht⟩ := hasA_some hA
    rw [if_c1, m_in, Option.bind_some]
    by_cases hb : (0 : Int32).toInt ≤ b.toInt ∧ b.toInt ≤ (6 : Int32).toInt
    · obtain ⟨k, hk, rfl⟩ := sm_nI (a := b) (N := 6) hb
      obtain ⟨τ', e, K⟩ := m_moverOf (τ := t0 τ) hz hi hk
      obtain ⟨K5, h5⟩ := t0_Keep K
      refine ⟨_, mvS (zv σ 6) i k, τ', s_mover R.2.1 hi hk ht, ?_, ⟨h5, rfl⟩, K5⟩
      rw [decide_eq_true hb, if_b1, e, hzz]; rfl
    · obtain ⟨τ', e, K, h5⟩ := m_fails τ 2
      refine ⟨.inl 0, 0, τ', ?_, ?_, ?_, K⟩
      · unfold F_X3_mover
        rw [s_has R.2.1.1 hi, ht, Option.bind_some, if_c1, if_neg (fun q => hb (by rw [q]; decide)), if_neg (fun q => hb (by rw [q]; decide)), if_neg (fun q => hb (by rw [q]; decide)), if_neg (fun q => hb (by rw [q]; decide)), if_neg (fun q => hb (by rw [q]; decide)), if_neg (fun q => hb (by rw [q]; decide)), if_neg (fun q => hb (by rw [q]; decide))]
      · rw [decide_eq_false hb, if_b0, e]; rfl
      · rw [h5]; exact List.mem_cons_of_mem _ (List.mem_cons_self ..)
theorem o_contest {σ : Mem} {τ : Mem × Int64} (R : Rel σ τ) (a b : Int32) : ∃ res v τ', F_X3_contest a b σ = some res ∧ F_X4_contest a b τ = some (v, τ') ∧ Ag [(2, 1), (0, 2)] res v (τ'.1 0 5) ∧ Keep5 τ τ' := by
  have hz := R.zm
  have hzz : mz (t0 τ) = zv σ 6 := by rw [t0_mz, ← R.1]
  unfold F_X4_contest
  rw [show (up2 τ.1 0 5 (0 : Int32), τ.2) = t0 τ from rfl, m_in, Option.bind_some]
  by_cases ha : (1 : Int32).toInt ≤ a.toInt ∧ a.toInt ≤ (15 : Int32).toInt
  · rw [decide_eq_true ha, if_c1, m_in, Option.bind_some]
    have h15 : (15 : Int32).toInt = 15 := by decide
    have h1' : (1 : Int32).toInt = 1 := by decide
    obtain ⟨c, hc, rfl⟩ := sm_nI (a := a) (N := 15) ⟨by omega, by omega⟩
    have e := toInt_c c (by omega)
    have c1 : 1 ≤ c := by omega
    by_cases hb : (0 : Int32).toInt ≤ b.toInt ∧ b.toInt ≤ (5 : Int32).toInt
    · obtain ⟨k, hk, rfl⟩ := sm_nI (a := b) (N := 5) hb
      obtain ⟨τ', e, K⟩ := m_contestOf (τ := t0 τ) hz c1 hc hk
      obtain ⟨K5, h5⟩ := t0_Keep K
      refine ⟨_, coS (zv σ 6) c k, τ', s_contest R.2.1 c1 hc hk, ?_, ⟨h5, rfl⟩, K5⟩
      rw [decide_eq_true hb, if_b1, e, hzz]; rfl
    · obtain ⟨τ', e, K, h5⟩ := m_fails τ 2
      refine ⟨.inl 0, 0, τ', ?_, ?_, ?_, K⟩
      · unfold F_X3_contest
        rw [s_within, decide_eq_true ha, Option.bind_some, if_c1, s_courseOf c1 hc, Option.bind_some, if_neg (fun q => hb (by rw [q]; decide)), if_neg (fun q => hb (by rw [q]; decide)), if_neg (fun q => hb (by rw [q]; decide)), if_neg (fun q => hb (by rw [q]; decide)), if_neg (fun q => hb (by rw [q]; decide)), if_neg (fun q => hb (by rw [q]; decide))]
      · rw [decide_eq_false hb, if_b0, e]; rfl
      · rw [h5]; exact List.mem_cons_of_mem _ (List.mem_cons_self ..)
  · obtain ⟨τ', e, K, h5⟩ := m_fails τ 1
    refine ⟨.inl 2, 0, τ', ?_, ?_, ?_, K⟩
    · unfold F_X3_contest; rw [s_within, decide_eq_false ha, Option.bind_some, if_c0]
    · rw [decide_eq_false ha, if_c0, e]; rfl
    · rw [h5]; exact List.mem_cons_self ..
