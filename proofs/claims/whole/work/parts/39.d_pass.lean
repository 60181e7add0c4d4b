/-! set, pass, passToTurn -/
theorem mz_upG (τ : Mem × Int64) {x : Nat} {v : Int32} (h3 : x ≠ 3) (h19 : x ≠ 19) (h84 : x < 84) : mz (up2 τ.1 1 x v, τ.2) = up1 (mz τ) x v := by
  funext y
  show (if y = 3 ∨ y = 19 ∨ 84 ≤ y then 0 else up2 τ.1 1 x v 1 y) = if y = x then v else (if y = 3 ∨ y = 19 ∨ 84 ≤ y then 0 else τ.1 1 y)
  by_cases e : y = x
  · subst e
    rw [if_neg (by omega), if_pos rfl]
    unfold up2; rw [if_pos ⟨rfl, rfl⟩]
  · rw [if_neg e]
    have : up2 τ.1 1 x v 1 y = τ.1 1 y := by unfold up2; rw [if_neg (fun q => e q.2)]
    rw [this]
theorem zOK_set {z : Zf} {k : Nat} {v : Int32} (hz : zOK z) (h : (k = 1 ∧ (v = 0 ∨ v = 1)) ∨ (k = 2 ∧ 1 ≤ v.toInt ∧ v.toInt ≤ 999)) : zOK (up1 z k v) := by
  have hk : 1 ≤ k ∧ k ≤ 2 := by omega
  have e : ∀ x, x ≠ k → up1 z k v x = z x := fun x hx => if_neg hx
  refine ⟨fun j hj => ?_, fun j hj => ?_, fun j hj => ?_, ?_, ?_, ?_⟩
  · rw [e _ (by omega)]; exact hz.1 j hj
  · unfold vv; rw [e 0 (by omega), e (20 + 4 * j + 1) (by omega)]; exact hz.2.1 j hj
  · unfold sp; rw [e _ (by omega)]; exact hz.2.2.1 j hj
  · by_cases q : k = 1
    · have : up1 z k v 1 = v := if_pos q.symm
      rw [this]
      rcases h with ⟨-, h⟩ | ⟨h, -⟩
      · exact h
      · omega
    · rw [e 1 (by omega)]; exact hz.2.2.2.1
  · rw [e 0 (by omega)]; exact hz.2.2.2.2.1
  · by_cases q : k = 2
    · have : up1 z k v 2 = v := if_pos q.symm
      rw [this]; omega
    · rw [e 2 (by omega)]; exact hz.2.2.2.2.2
theorem o_set {σ : Mem} {τ : Mem × Int64} (R : Rel σ τ) (a b : Int32) : ∃ res v τ', F_X3_set a b σ = some res ∧ F_X4_set a b τ = some (v, τ') ∧ AgM [(2, 1), (0, 2)] res σ τ v τ' := by
  have hzz : mz (t0 τ) = zv σ 6 := by rw [t0_mz, ← R.1]
  have RS0 : RS σ (t0 τ) := R.rs.k5 (t0_k5 τ)
  unfold F_X4_set F_X3_set
  rw [show (up2 τ.1 0 5 (0 : Int32), τ.2) = t0 τ from rfl, m_in, Option.bind_some]
  by_cases ha : (0 : Int32).toInt ≤ a.toInt ∧ a.toInt ≤ (1 : Int32).toInt
  · rw [decide_eq_true ha, if_c1]
    obtain ⟨σ1, τ1, s1, s2, RS1, -, K1⟩ := save_ok RS0
    have key : ∀ k, k ≤ 1 → ((k = 0 ∧ (b = 0 ∨ b = 1)) ∨ (k = 1 ∧ 1 ≤ b.toInt ∧ b.toInt ≤ 999)) → ∃ σ3, F_X3_foresee (up2 σ1 6 (5 + (1 + k)) b) = some σ3 ∧ Rel σ3 (up2 τ1.1 1 (1 + k) b, τ1.2) ∧ (up2 τ1.1 1 (1 + k) b, τ1.2).1 0 5 = 0 ∧ zv σ1 6 (1 + k) = τ1.1 1 (1 + k) := by
      intro k hk hb
      have ho := up_off τ1 (1 + k) b
      have hm := mz_upG τ1 (x := 1 + k) (v := b) (by omega) (by omega) (by omega)
      have RS2 : RS (up2 σ1 6 (5 + (1 + k)) b) (up2 τ1.1 1 (1 + k) b, τ1.2) := RS1.row (fun x hx => up2_ne _ (x := 6) (y := x) (by omega)) ho (by rw [hm, zv_up_f σ1 6 (k := 1 + k) (by omega), RS1.1]) (by
        rw [hm]
        refine zOK_set (by rw [← RS1.1]; exact RS1.2.1) ?_
        rcases hb with ⟨rfl, hb⟩ | ⟨rfl, hb⟩
        · exact Or.inl ⟨rfl, hb⟩
        · exact Or.inr ⟨rfl, hb⟩)
      obtain ⟨σ3, f1, R3, -⟩ := RS2.fin
      refine ⟨σ3, f1, R3, by rw [ho 0 (by omega)]; exact K1.five, ?_⟩
      rw [RS1.1, mz_lo τ1 (by omega)]
    obtain ⟨k, hk, rfl⟩ := sm_nI (a := a) (N := 1) ha
    rcases lt2 hk with rfl | rfl
    · rw [if_pos (show nI 0 = (0 : Int32) from rfl), if_neg (fun q : ¬ nI 0 = (0 : Int32) => q rfl), if_neg (fun q : ¬ nI 0 = (0 : Int32) => q rfl), Option.bind_some, m_in, s_within]
      show ∃ res v τ', Option.bind (Option.bind (some (b2i (decide ((0 : Int32).toInt ≤ b.toInt ∧ b.toInt ≤ (1 : Int32).toInt)))) _) _ = _ ∧ Option.bind (some (b2i (decide ((nI 0).toInt ≤ b.toInt ∧ b.toInt ≤ (1 : Int32).toInt)))) _ = _ ∧ _
      rw [show (nI 0).toInt = (0 : Int32).toInt from rfl]
      simp only [Option.bind_some]
      by_cases hb : (0 : Int32).toInt ≤ b.toInt ∧ b.toInt ≤ (1 : Int32).toInt
      · obtain ⟨j, hj, rfl⟩ := sm_nI (a := b) (N := 1) hb
        obtain ⟨σ3, f1, R3, h5, hv⟩ := key 0 (by omega) (Or.inl ⟨rfl, by rcases lt2 hj with rfl | rfl <;> decide⟩)
        rw [decide_eq_true hb, if_c1, if_c1, s1, s2, Option.bind_some, Option.bind_some]
        refine ⟨.inr (σ1 6 6, σ3), σ1 6 6, _, ?_, ?_, h5, rfl, R3⟩
        · unfold F_X3_setting
          rw [if_pos (show nI 0 = (0 : Int32) from rfl), if_neg (fun q : ¬ nI 0 = (0 : Int32) => q rfl)]
          show inR (Option.bind (Option.bind (if ¬ nI 0 = (0 : Int32) then some (up2 σ1 6 7 (nI j)) else some (up2 σ1 6 6 (nI j))) _) _) = _
          have f2 : L_X3_foresee_2 FU 1 (up2 σ1 6 6 (nI j)) = some σ3 := f1
          rw [if_neg (fun q : ¬ nI 0 = (0 : Int32) => q rfl), Option.bind_some, f2]; rfl
        · rw [show (1 : Int32) + nI 0 = nI 1 from rfl, if_pos (by decide), if_pos (by decide)]
          show some (τ1.1 1 1, (up2 τ1.1 1 1 (nI j), τ1.2)) = _
          rw [← hv]; rfl
      · obtain ⟨τ', e, K, h5⟩ := m_fails τ 2
        refine ⟨.inl 0, 0, τ', by rw [decide_eq_false hb, if_c0], by rw [decide_eq_false hb, if_c0, e]; rfl, ?_, K.rel R⟩
        rw [h5]; exact List.mem_cons_of_mem _ (List.mem_cons_self ..)
    · rw [if_neg (show ¬ nI 1 = (0 : Int32) from by decide), if_pos (show ¬ nI 1 = (0 : Int32) from by decide), if_pos (show nI 1 = (1 : Int32) from rfl), if_pos (show ¬ nI 1 = (0 : Int32) from by decide), Option.bind_some, m_in, s_within]
      show ∃ res v τ', Option.bind (Option.bind (some (b2i (decide ((1 : Int32).toInt ≤ b.toInt ∧ b.toInt ≤ (999 : Int32).toInt)))) _) _ = _ ∧ Option.bind (some (b2i (decide ((nI 1).toInt ≤ b.toInt ∧ b.toInt ≤ (999 : Int32).toInt)))) _ = _ ∧ _
      rw [show (nI 1).toInt = (1 : Int32).toInt from rfl]
      simp only [Option.bind_some]
      by_cases hb : (1 : Int32).toInt ≤ b.toInt ∧ b.toInt ≤ (999 : Int32).toInt
      · obtain ⟨σ3, f1, R3, h5, hv⟩ := key 1 (by omega) (Or.inr ⟨rfl, hb⟩)
        rw [decide_eq_true hb, if_c1, if_c1, s1, s2, Option.bind_some, Option.bind_some]
        refine ⟨.inr (σ1 6 7, σ3), σ1 6 7, _, ?_, ?_, h5, rfl, R3⟩
        · unfold F_X3_setting
          rw [if_neg (show ¬ nI 1 = (0 : Int32) from by decide), if_pos (show nI 1 = (1 : Int32) from rfl), if_pos (show ¬ nI 1 = (0 : Int32) from by decide)]
          show inR (Option.bind (Option.bind (if ¬ nI 1 = (0 : Int32) then some (up2 σ1 6 7 b) else some (up2 σ1 6 6 b)) _) _) = _
          have f2 : L_X3_foresee_2 FU 1 (up2 σ1 6 7 b) = some σ3 := f1
          rw [if_pos (show ¬ nI 1 = (0 : Int32) from by decide), Option.bind_some, f2]; rfl
        · rw [show (1 : Int32) + nI 1 = nI 2 from rfl, if_pos (by decide), if_pos (by decide)]
          show some (τ1.1 1 2, (up2 τ1.1 1 2 b, τ1.2)) = _
          rw [← hv]; rfl
      · obtain ⟨τ', e, K, h5⟩ := m_fails τ 2
        refine ⟨.inl 0, 0, τ', by rw [decide_eq_false hb, if_c0], by rw [decide_eq_false hb, if_c0, e]; rfl, ?_, K.rel R⟩
        rw [h5]; exact List.mem_cons_of_mem _ (List.mem_cons_self ..)
  · obtain ⟨τ', e, K, h5⟩ := m_fails τ 1
    refine ⟨.inl 2, 0, τ', by rw [if_neg (fun q => ha (by rw [q]; decide)), if_neg (fun q => ha (by rw [q]; decide))], by rw [decide_eq_false ha, if_c0, e]; rfl, ?_, K.rel R⟩
    rw [h5]; exact List.mem_cons_self ..
/-! what the race depends on -/
theorem ra_cong {z z' : Zf} (h1 : z' 1 = z 1) (h20 : ∀ x, 20 ≤ x → z' x = z x) : (∀ c r, ch z' c r = ch z c r ∧ mA z' c r = mA z c r ∧ mB z' c r = mB z c r) ∧ ∀ c x, tw z' c x = tw z c x := by
  have htk : tk z' = tk z := by funext k; unfold tk; rw [h20 _ (by omega)]
  have hvv : vv z' = vv z := by funext k; unfold vv; rw [h20 _ (by omega)]
  have hsp : sp z' = sp z := by funext k; unfold sp; rw [h20 _ (by omega)]
  have hup : up z' = up z := by unfold up; rw [h1]
  have hpos : ∀ a b, pos z' a b = pos z a b := fun a b => by funext k; unfold pos; rw [hvv, hsp]
  have hah : ∀ a b, ah z' a b = ah z a b := fun a b => by unfold ah; rw [hpos, hsp, hup]
  have hsn : ∀ w, snr z' w = snr z w := fun w => by funext k q; unfold snr; rw [hvv, hsp, hup]
  have hfs : ∀ w, fst z' w = fst z w := fun w => by funext k; unfold fst; rw [htk, hsp]
  have hwin : ∀ a b c, win z' a b c = win z a b c := fun a b c => by unfold win; rw [htk, hah]
  have hnx : ∀ c w, nxt z' c w = nxt z c w := fun c w => by unfold nxt; rw [hfs, hsn]
  have hch : ∀ c r, ch z' c r = ch z c r := by
    intro c r
    induction r with
    | zero => exact hwin 0 1 c
    | succ r ih =>
      rw [ch, ch, ih]
      have : nxt z' c = nxt z c := funext (hnx c)
      rw [this]
  have hA : ∀ c r, mA z' c r = mA z c r := by
    intro c r
    cases r with
    | zero => rfl
    | succ r => rw [mA, mA, hch, hch, hvv]
  have hB : ∀ c r, mB z' c r = mB z c r := by
    intro c r
    cases r with
    | zero => rfl
    | succ r => rw [mB, mB, hch, hch, hsp]
  refine ⟨fun c r => ⟨hch c r, hA c r, hB c r⟩, fun c x => ?_⟩
  have : ∀ f r, twf z' c x f r = twf z c x f r := by
    intro f
    induction f with
    | zero => intro r; rfl
    | succ f ih => intro r; rw [twf, twf, hch, hA, hB, ih]
  exact this 16 0
def tzf (z : Zf) (y : Int) (c : Nat) : Zf := fun x => if 4 ≤ x ∧ x < 3 + c then z x + nI (tw z (x - 3) y) else z x
theorem tzf_1 (z : Zf) (y : Int) : tzf z y 1 = z := by funext x; exact if_neg (fun q => by omega)
theorem tzf_s {z : Zf} {y : Int} {c : Nat} (h1 : 1 ≤ c) : up1 (tzf z y c) (3 + c) (tzf z y c (3 + c) + nI (tw z c y)) = tzf z y (c + 1) := by
  have e : tzf z y c (3 + c) = z (3 + c) := if_neg (fun q => by omega)
  rw [e]
  funext x
  unfold up1 tzf
  by_cases q : x = 3 + c
  · rw [if_pos q, if_pos ⟨by omega, by omega⟩, q, show 3 + c - 3 = c by omega]
  · rw [if_neg q]
    by_cases h : 4 ≤ x ∧ x < 3 + c
    · rw [if_pos h, if_pos ⟨h.1, by omega⟩]
    · rw [if_neg h, if_neg (fun w => h ⟨w.1, by omega⟩)]
theorem s_pass1 {σ : Mem} {x : Int32} (h : CA σ) (hx : 0 ≤ x.toInt ∧ x.toInt ≤ 9999) : ∃ σ', L_X3_letPass_8 x FU 0 1 σ = some (sumT (fun c => nI (tw (zv σ 6) c x.toInt)) 15 1 0, σ') ∧ zv σ' 6 = tzf (zv σ 6) x.toInt 16 ∧ ∀ y, y ≠ 11 → σ' y = σ y := by
  have key : ∀ (m c fu : Nat) (a : Int32) (σ1 : Mem), c + m = 16 → 1 ≤ c → m < fu → zv σ1 6 = tzf (zv σ 6) x.toInt c → (∀ y, y ≠ 11 → σ1 y = σ y) → ∃ σ', L_X3_letPass_8 x fu a (nI c) σ1 = some (sumT (fun c => nI (tw (zv σ 6) c x.toInt)) m c a, σ') ∧ zv σ' 6 = tzf (zv σ 6) x.toInt 16 ∧ ∀ y, y ≠ 11 → σ' y = σ y := by
    intro m
    induction m with
    | zero =>
      intro c fu a σ1 hc h1 hf hz ho
      obtain ⟨f, rfl⟩ : ∃ f, fu = f + 1 := ⟨fu - 1, by omega⟩
      have : c = 16 := by omega
      subst this
      exact ⟨σ1, by rw [L_X3_letPass_8, if_pos c16]; rfl, hz, ho⟩
    | succ m ih =>
      intro c fu a σ1 hc h1 hf hz ho
      obtain ⟨f, rfl⟩ : ∃ f, fu = f + 1 := ⟨fu - 1, by omega⟩
      have hC : CoOK σ1 (zv σ 6) c := (h.2 c h1 (by omega)).fr (fun j hj => ho _ (by omega))
      have hcn : decide ((1 : Int32).toInt ≤ (nI c).toInt ∧ (nI c).toInt ≤ (15 : Int32).toInt) = true := by
        rw [nI_toInt (by omega), show (1 : Int32).toInt = 1 from by decide, show (15 : Int32).toInt = 15 from by decide, decide_eq_true_eq]; omega
      have hin : inb (nI c) 16 = true := inb_nI (by omega) (by decide)
      rw [L_X3_letPass_8, if_neg (c15 (by omega)), s_courseOf h1 (by omega), Option.bind_some, s_turnsWithin h.1 hC h1 (by omega) hx, Option.bind_some]
      unfold F_X1_countTurns
      rw [s_within, hcn, Option.bind_some, if_b1, if_pos hin, if_pos hin, nI_clamp (by omega), Option.bind_some, show nI c + (1 : Int32) = nI (c + 1) from nI_1 c]
      refine ih (c + 1) f _ _ (by omega) (by omega) (by omega) ?_ (fun y hy => ?_)
      · have e : σ1 (6 + 5) c = tzf (zv σ 6) x.toInt c (3 + c) := by rw [← hz, zv_turn σ1 6 h1 (by omega)]
        rw [zv_up_t σ1 6 h1 (by omega) rfl, e, hz]
        exact tzf_s h1
      · rw [up2_ne σ1 (x := 6 + 5) (y := y) (by omega)]; exact ho y hy
  exact key 15 1 FU 0 σ rfl (by omega) (by decide) (tzf_1 _ _).symm (fun _ _ => rfl)
def KeepP (τ τ' : Mem × Int64) : Prop := τ'.1 2 = τ.1 2 ∧ τ'.1 3 = τ.1 3 ∧ τ'.1 0 2 = τ.1 0 2 ∧ τ'.1 0 4 = τ.1 0 4 ∧ τ'.1 0 5 = τ.1 0 5 ∧ τ'.2 = τ.2
theorem KeepP.tr {a b c : Mem × Int64} (h : KeepP a b) (g : KeepP b c) : KeepP a c :=
  ⟨g.1.trans h.1, g.2.1.trans h.2.1, g.2.2.1.trans h.2.2.1, g.2.2.2.1.trans h.2.2.2.1, g.2.2.2.2.1.trans h.2.2.2.2.1, g.2.2.2.2.2.trans h.2.2.2.2.2⟩
theorem KeepP.off {τ τ' : Mem × Int64} (h : Off1 τ τ') (h2 : τ'.2 = τ.2) : KeepP τ τ' := ⟨h 2 (by omega), h 3 (by omega), by rw [h 0 (by omega)], by rw [h 0 (by omega)], by rw [h 0 (by omega)], h2⟩
theorem Keep.p {τ τ' : Mem × Int64} (h : Keep τ τ') : KeepP τ τ' := ⟨h.2.1, h.2.2.1, h.2.2.2.1, h.2.2.2.2.1, h.2.2.2.2.2.1, h.2.2.2.2.2.2⟩
theorem tzf_ok {z : Zf} {y : Int} {c : Nat} (hz : zOK z) (hc : c ≤ 16) : zOK (tzf z y c) ∧ tzf z y c 1 = z 1 ∧ ∀ x, 20 ≤ x → tzf z y c x = z x := by
  have h20 : ∀ x, 20 ≤ x → tzf z y c x = z x := fun x hx => if_neg (fun q => by omega)
  have hl : ∀ x, x < 4 → tzf z y c x = z x := fun x hx => if_neg (fun q => by omega)
  refine ⟨⟨fun k hk => by rw [h20 _ (by omega)]; exact hz.1 k hk, fun k hk => ?_, fun k hk => ?_, ?_, ?_, ?_⟩, hl 1 (by omega), h20⟩
  · unfold vv; rw [hl 0 (by omega), h20 (20 + 4 * k + 1) (by omega)]; exact hz.2.1 k hk
  · unfold sp; rw [h20 _ (by omega)]; exact hz.2.2.1 k hk
  · rw [hl 1 (by omega)]; exact hz.2.2.2.1
  · rw [hl 0 (by omega)]; exact hz.2.2.2.2.1
  · rw [hl 2 (by omega)]; exact hz.2.2.2.2.2
theorem m_pass1 {τ : Mem × Int64} {x : Int32} (hz : zOK (mz τ)) (hx : 0 ≤ x.toInt ∧ x.toInt ≤ 9999) : ∃ τ', L_X4_passNow_4 x FU 0 1 τ = some (sumT (fun c => nI (tw (mz τ) c x.toInt)) 15 1 0, τ') ∧ mz τ' = tzf (mz τ) x.toInt 16 ∧ KeepP τ τ' := by
  have key : ∀ (m c fu : Nat) (a : Int32) (τ1 : Mem × Int64), c + m = 16 → 1 ≤ c → m < fu → mz τ1 = tzf (mz τ) x.toInt c → KeepP τ τ1 → ∃ τ', L_X4_passNow_4 x fu a (nI c) τ1 = some (sumT (fun c => nI (tw (mz τ) c x.toInt)) m c a, τ') ∧ mz τ' = tzf (mz τ) x.toInt 16 ∧ KeepP τ τ' := by
    intro m
    induction m with
    | zero =>
      intro c fu a τ1 hc h1 hf hm hk
      obtain ⟨f, rfl⟩ : ∃ f, fu = f + 1 := ⟨fu - 1, by omega⟩
      have : c = 16 := by omega
      subst this
      exact ⟨τ1, by rw [L_X4_passNow_4, if_pos c16]; rfl, hm, hk⟩
    | succ m ih =>
      intro c fu a τ1 hc h1 hf hm hk
      obtain ⟨f, rfl⟩ : ∃ f, fu = f + 1 := ⟨fu - 1, by omega⟩
      obtain ⟨q1, q2, q3⟩ := tzf_ok (y := x.toInt) (c := c) hz (by omega)
      have hz1 : zOK (mz τ1) := by rw [hm]; exact q1
      obtain ⟨τ2, e, r, hr⟩ := m_turnsOf (τ := τ1) hz1 h1 (show c ≤ 15 by omega) hx
      have K2 : Keep τ1 τ2 := by rw [hr]; exact nN_keep _ _ _ _
      have ht : tw (mz τ1) c x.toInt = tw (mz τ) c x.toInt := by rw [hm]; exact (ra_cong q2 q3).2 c x.toInt
      rw [ht] at e
      have hin : inb ((3 : Int32) + nI c) 84 = true := by rw [show (3 : Int32) + nI c = nI (3 + c) from nI_add 3 c]; exact inb_nI (by omega) (by decide)
      have hcl : ((3 : Int32) + nI c).toNatClampNeg = 3 + c := by rw [show (3 : Int32) + nI c = nI (3 + c) from nI_add 3 c]; exact nI_clamp (by omega)
      rw [L_X4_passNow_4, if_neg (c15 (by omega)), e, Option.bind_some, if_pos hin, if_pos hin, hcl, show nI c + (1 : Int32) = nI (c + 1) from nI_1 c]
      refine ih (c + 1) f _ (up2 τ2.1 1 (3 + c) (τ2.1 1 (3 + c) + nI (tw (mz τ) c x.toInt)), τ2.2) (by omega) (by omega) (by omega) ?_ (hk.tr (K2.p.tr (KeepP.off (up_off τ2 _ _) rfl)))
      have e2 : τ2.1 1 (3 + c) = tzf (mz τ) x.toInt c (3 + c) := by rw [← hm, mz_t τ1 h1 (by omega), K2.1]
      rw [mz_upG τ2 (by omega) (by omega) (by omega), e2, K2.mz, hm]
      exact tzf_s h1
  exact key 15 1 FU 0 τ rfl (by omega) (by decide) (tzf_1 _ _).symm ⟨rfl, rfl, rfl, rfl, rfl, rfl⟩
/-! the values move on -/
def mvf (z : Zf) (by' : Int32) (k : Nat) : Zf := fun x => if 20 ≤ x ∧ x < 20 + 4 * k ∧ x % 4 = 1 then z x + z (x + 1) * by' else z x
theorem mvf_0 (z : Zf) (b : Int32) : mvf z b 0 = z := by funext x; exact if_neg (fun q => by omega)
theorem mvf_at {z : Zf} {b : Int32} {k : Nat} : mvf z b k (20 + 4 * k + 1) = z (20 + 4 * k + 1) ∧ mvf z b k (20 + 4 * k + 2) = z (20 + 4 * k + 2) := ⟨if_neg (fun q => by omega), if_neg (fun q => by omega)⟩
theorem mvf_s {z : Zf} {b : Int32} {k : Nat} : up1 (mvf z b k) (20 + 4 * k + 1) (z (20 + 4 * k + 1) + z (20 + 4 * k + 2) * b) = mvf z b (k + 1) := by
  funext x
  unfold up1 mvf
  by_cases q : x = 20 + 4 * k + 1
  · rw [if_pos q, if_pos ⟨by omega, by omega, by omega⟩, q]
  · rw [if_neg q]
    by_cases h : 20 ≤ x ∧ x < 20 + 4 * k ∧ x % 4 = 1
    · rw [if_pos h, if_pos ⟨h.1, by omega, h.2.2⟩]
    · rw [if_neg h, if_neg (fun w => h ⟨w.1, by omega, w.2.2⟩)]
theorem s_move {σ : Mem} (b : Int32) : ∃ σ', F_X1_moveOn 6 b σ = some σ' ∧ zv σ' 6 = up1 (mvf (zv σ 6) b 16) 0 (zv σ 6 0 + b) ∧ ∀ y, y < 6 ∨ 12 ≤ y → σ' y = σ y := by
  have key : ∀ (m k fu : Nat) (σ1 : Mem), k + m = 16 → m < fu → zv σ1 6 = mvf (zv σ 6) b k → (∀ y, y ≠ 8 → σ1 y = σ y) → ∃ σ', L_X1_moveOn_2 6 b fu (nI k) σ1 = some σ' ∧ zv σ' 6 = mvf (zv σ 6) b 16 ∧ ∀ y, y ≠ 8 → σ' y = σ y := by
    intro m
    induction m with
    | zero =>
      intro k fu σ1 hk hf hz ho
      obtain ⟨f, rfl⟩ : ∃ f, fu = f + 1 := ⟨fu - 1, by omega⟩
      have : k = 16 := by omega
      subst this
      exact ⟨σ1, by rw [L_X1_moveOn_2, if_pos e16], hz, ho⟩
    | succ m ih =>
      intro k fu σ1 hk hf hz ho
      obtain ⟨f, rfl⟩ : ∃ f, fu = f + 1 := ⟨fu - 1, by omega⟩
      have hin : inb (nI k) 16 = true := inb_nI (by omega) (by decide)
      rw [L_X1_moveOn_2, if_neg (d16 (by omega)), if_pos hin, if_pos hin, if_pos hin, nI_clamp (by omega), show nI k + (1 : Int32) = nI (k + 1) from nI_1 k]
      have a1 : σ1 (6 + 2) k = zv σ 6 (20 + 4 * k + 1) := by
        have := zv_s σ1 6 (k := k) (j := 1) (by omega) (by omega)
        rw [hz, mvf_at.1] at this
        exact this.symm
      have a2 : σ1 (6 + 3) k = zv σ 6 (20 + 4 * k + 2) := by
        have := zv_s σ1 6 (k := k) (j := 2) (by omega) (by omega)
        rw [hz, mvf_at.2] at this
        exact this.symm
      refine ih (k + 1) f _ (by omega) (by omega) ?_ (fun y hy => ?_)
      · rw [zv_up_s σ1 6 (k := k) (j := 1) (by omega) (by omega) rfl, a1, a2, hz]
        exact mvf_s
      · rw [up2_ne σ1 (x := 6 + 2) (y := y) (by omega)]; exact ho y hy
  obtain ⟨σ1, e, hz, ho⟩ := key 16 0 FU σ rfl (by decide) (mvf_0 _ _).symm (fun _ _ => rfl)
  have e : L_X1_moveOn_2 6 b FU 0 σ = some σ1 := e
  refine ⟨up2 σ1 6 5 (σ1 6 5 + b), ?_, ?_, fun y hy => ?_⟩
  · unfold F_X1_moveOn; rw [e]; rfl
  · rw [zv_up_f σ1 6 (k := 0) (by omega), hz]
    have : σ1 6 5 = zv σ 6 0 := by rw [ho 6 (by omega)]; rfl
    rw [this]
  · rw [up2_ne σ1 (x := 6) (y := y) (by omega)]; exact ho y (by omega)
theorem m_move {τ : Mem × Int64} (b s : Int32) : ∃ τ', Option.bind (L_X4_passNow_44 b s FU 0 τ) (fun v44 : (Mem × Int64) => some (s, (up2 v44.1 1 0 ((v44.1 1 0) + b), v44.2))) = some (s, τ') ∧ mz τ' = up1 (mvf (mz τ) b 16) 0 (mz τ 0 + b) ∧ KeepP τ τ' := by
  have key : ∀ (m k fu : Nat) (τ1 : Mem × Int64), k + m = 16 → m < fu → mz τ1 = mvf (mz τ) b k → KeepP τ τ1 → ∃ τ', L_X4_passNow_44 b s fu (nI k) τ1 = some τ' ∧ mz τ' = mvf (mz τ) b 16 ∧ KeepP τ τ' := by
    intro m
    induction m with
    | zero =>
      intro k fu τ1 hk hf hz ho
      obtain ⟨f, rfl⟩ : ∃ f, fu = f + 1 := ⟨fu - 1, by omega⟩
      have : k = 16 := by omega
      subst this
      exact ⟨τ1, by rw [L_X4_passNow_44, if_pos e16], hz, ho⟩
    | succ m ih =>
      intro k fu τ1 hk hf hz ho
      obtain ⟨f, rfl⟩ : ∃ f, fu = f + 1 := ⟨fu - 1, by omega⟩
      have hk16 : k < 16 := by omega
      have a1 : τ1.1 1 (20 + 4 * k + 1) = mz τ (20 + 4 * k + 1) := by rw [← mz_s τ1 hk16 (by omega), hz, mvf_at.1]
      have a2 : τ1.1 1 (20 + 4 * k + 2) = mz τ (20 + 4 * k + 2) := by rw [← mz_s τ1 hk16 (by omega), hz, mvf_at.2]
      rw [L_X4_passNow_44, if_neg (d16 hk16)]
      simp only [m_at, Option.bind_some, (m_idx1 hk16).1, (m_idx1 hk16).2, (m_idx2 hk16).1, (m_idx2 hk16).2, if_true]
      rw [show nI k + (1 : Int32) = nI (k + 1) from nI_1 k]
      refine ih (k + 1) f (up2 τ1.1 1 (20 + 4 * k + 1) (τ1.1 1 (20 + 4 * k + 1) + τ1.1 1 (20 + 4 * k + 2) * b), τ1.2) (by omega) (by omega) ?_ (ho.tr (KeepP.off (up_off τ1 _ _) rfl))
      rw [mz_up τ1 hk16 (by omega), a1, a2, hz]
      exact mvf_s
  obtain ⟨τ1, e, hz, ho⟩ := key 16 0 FU τ rfl (by decide) (mvf_0 _ _).symm ⟨rfl, rfl, rfl, rfl, rfl, rfl⟩
  have e : L_X4_passNow_44 b s FU 0 τ = some τ1 := e
  refine ⟨(up2 τ1.1 1 0 (τ1.1 1 0 + b), τ1.2), by rw [e]; rfl, ?_, ho.tr (KeepP.off (up_off τ1 _ _) rfl)⟩
  have : τ1.1 1 0 = mz τ 0 := by
    rw [← mz_lo τ1 (by omega), hz]; exact if_neg (fun q => by omega)
  rw [mz_upG τ1 (by omega) (by omega) (by omega), hz, this]
theorem mv_ok {z : Zf} {b : Int32} (hz : zOK z) (hb : 0 ≤ b.toInt ∧ b.toInt ≤ 9999) (ht : (z 0).toInt + b.toInt ≤ 9999) : zOK (up1 (mvf z b 16) 0 (z 0 + b)) := by
  have h0 := hz.2.2.2.2.1
  have e0 : (z 0 + b).toInt = (z 0).toInt + b.toInt := fb_addI (by omega) (by omega)
  have el : ∀ x, x ≠ 0 → (x < 20 ∨ x % 4 ≠ 1) → up1 (mvf z b 16) 0 (z 0 + b) x = z x := fun x hx hq => by
    unfold up1
    rw [if_neg hx]
    exact if_neg (fun q => by omega)
  have ea : up1 (mvf z b 16) 0 (z 0 + b) 0 = z 0 + b := if_pos rfl
  refine ⟨fun k hk => ?_, fun k hk => ?_, fun k hk => ?_, ?_, ?_, ?_⟩
  · rw [el _ (by omega) (by omega)]; exact hz.1 k hk
  · rw [ea, e0]
    have ev : up1 (mvf z b 16) 0 (z 0 + b) (20 + 4 * k + 1) = z (20 + 4 * k + 1) + z (20 + 4 * k + 2) * b := by
      unfold up1
      rw [if_neg (by omega)]
      exact if_pos ⟨by omega, by omega, by omega⟩
    unfold vv
    rw [ev]
    have v1 := hz.2.1 k hk
    have s1 := hz.2.2.1 k hk
    have hm := mul_bd (x := sp z k) (y := b.toInt) (B := 99) (C := b.toInt) ⟨by omega, by omega⟩ ⟨by omega, by omega⟩
    have em : (z (20 + 4 * k + 2) * b).toInt = sp z k * b.toInt := fb_mulI (by show _ ≤ sp z k * b.toInt; omega) (by show sp z k * b.toInt < _; omega)
    have es : (z (20 + 4 * k + 1) + z (20 + 4 * k + 2) * b).toInt = vv z k + sp z k * b.toInt := by
      rw [fb_addI, em]
      · rfl
      · rw [em]; show _ ≤ vv z k + _; omega
      · rw [em]; show vv z k + _ < _; omega
    rw [es]
    omega
  · unfold sp; rw [el _ (by omega) (by omega)]; exact hz.2.2.1 k hk
  · rw [el 1 (by omega) (by omega)]; exact hz.2.2.2.1
  · rw [ea, e0]; omega
  · rw [el 2 (by omega) (by omega)]; exact hz.2.2.2.2.2
/-- letting time pass, both sides -/
theorem pass_ok {σ : Mem} {τ : Mem × Int64} (C : CA σ) (R : RS σ τ) {b : Int32} (hb : 0 ≤ b.toInt ∧ b.toInt ≤ 9999) (ht : (zv σ 6 0).toInt + b.toInt ≤ 9999) : ∃ v σ' τ1 τ', F_X3_letPass b σ = some (v, σ') ∧ F_X4_save τ = some τ1 ∧ KeepS τ τ1 ∧ F_X4_passNow b τ1 = some (v, τ') ∧ Rel σ' τ' ∧ τ'.1 0 5 = τ.1 0 5 := by
  obtain ⟨σ1, τ1, s1, s2, RS1, f1, K1⟩ := save_ok R
  have z1 : zv σ1 6 = zv σ 6 := RS1.1.trans (K1.mz.trans R.1.symm)
  have C1 : CA σ1 := ⟨RS1.2.1, fun c c1 c2 => by rw [z1]; exact (C.2 c c1 c2).fr (fun j hj => f1 _ (by omega) (by omega))⟩
  obtain ⟨σ2, p1, p2, p3⟩ := s_pass1 C1 hb
  obtain ⟨τ2, q1, q2, q3⟩ := m_pass1 (τ := τ1) (by rw [← RS1.1]; exact RS1.2.1) hb
  obtain ⟨σ3, p4, p5, p6⟩ := s_move (σ := σ2) b
  obtain ⟨τ3, q4, q5, q6⟩ := m_move (τ := τ2) b (sumT (fun c => nI (tw (mz τ1) c b.toInt)) 15 1 0)
  have hz2 : zv σ2 6 = mz τ2 := by rw [p2, q2, RS1.1]
  have hok : zOK (mz τ3) := by
    rw [q5, q2]
    obtain ⟨o1, o2, o3⟩ := tzf_ok (y := b.toInt) (c := 16) (z := mz τ1) (by rw [← RS1.1]; exact RS1.2.1) (by omega)
    refine mv_ok o1 hb ?_
    have : tzf (mz τ1) b.toInt 16 0 = zv σ 6 0 := by
      rw [show tzf (mz τ1) b.toInt 16 0 = mz τ1 0 from if_neg (fun q => by omega), ← RS1.1, z1]
    rw [this]; exact ht
  have KP := q3.tr q6
  have RS3 : RS σ3 τ3 := RS1.mod (fun x hx => by rw [p6 x hx]; exact p3 x (by omega)) KP.1 KP.2.1 KP.2.2.1 KP.2.2.2.1 (by rw [p5, q5, hz2]) hok
  obtain ⟨σ4, e4, R4, -⟩ := RS3.fin
  refine ⟨sumT (fun c => nI (tw (mz τ1) c b.toInt)) 15 1 0, σ4, τ1, τ3, ?_, s2, K1, ?_, R4, ?_⟩
  · unfold F_X3_letPass
    rw [s1, Option.bind_some, p1, Option.bind_some]
    show Option.bind (F_X1_moveOn 6 b σ2) _ = _
    rw [p4, Option.bind_some, e4, RS1.1]; rfl
  · unfold F_X4_passNow
    rw [q1, Option.bind_some]
    exact q4
  · rw [KP.2.2.2.2.1]; exact K1.2.1 5 (by omega)
theorem o_pass {σ : Mem} {τ : Mem × Int64} (R : Rel σ τ) (a : Int32) : ∃ res v τ', F_X3_pass a σ = some res ∧ F_X4_pass a τ = some (v, τ') ∧ AgM [(0, 1), (1, 2)] res σ τ v τ' := by
  have hzz : mz (t0 τ) = zv σ 6 := by rw [t0_mz, ← R.1]
  have RS0 : RS σ (t0 τ) := R.rs.k5 (t0_k5 τ)
  have ht0 := R.2.1.1.2.2.2.2.1
  unfold F_X4_pass F_X3_pass
  rw [show (up2 τ.1 0 5 (0 : Int32), τ.2) = t0 τ from rfl, m_in, s_within, Option.bind_some, Option.bind_some]
  by_cases ha : (1 : Int32).toInt ≤ a.toInt ∧ a.toInt ≤ (99 : Int32).toInt
  · have ha' : 1 ≤ a.toInt ∧ a.toInt ≤ 99 := ha
    have e1 : (up2 τ.1 0 5 (0 : Int32)) 1 0 = σ 6 5 := by
      have : mz (t0 τ) 0 = zv σ 6 0 := by rw [hzz]
      exact this
    have es : (σ 6 5 + a).toInt = (zv σ 6 0).toInt + a.toInt := fb_addI (by show _ ≤ (zv σ 6 0).toInt + _; omega) (by show (zv σ 6 0).toInt + _ < _; omega)
    rw [decide_eq_true ha, if_c1, if_c1, e1]
    by_cases hl : (σ 6 5 + a) ≤ (9999 : Int32)
    · have hl' : (zv σ 6 0).toInt + a.toInt ≤ 9999 := by rw [i32_le, es] at hl; exact hl
      obtain ⟨v, σ', τ1, τ', h1, h2, -, h3, h4, h5⟩ := pass_ok R.2.1 RS0 (b := a) ⟨by omega, by omega⟩ hl'
      rw [if_pos hl, if_pos hl]
      refine ⟨.inr (v, σ'), v, τ', by rw [h1]; rfl, by rw [h2, Option.bind_some, h3]; rfl, ?_, rfl, h4⟩
      rw [h5]; exact t0_5 τ
    · obtain ⟨τ', e, K, h5⟩ := m_fails τ 2
      refine ⟨.inl 1, 0, τ', by rw [if_neg hl], by rw [if_neg hl, e]; rfl, ?_, K.rel R⟩
      rw [h5]; exact List.mem_cons_of_mem _ (List.mem_cons_self ..)
  · obtain ⟨τ', e, K, h5⟩ := m_fails τ 1
    refine ⟨.inl 0, 0, τ', by rw [decide_eq_false ha, if_c0], by rw [decide_eq_false ha, if_c0, e]; rfl, ?_, K.rel R⟩
    rw [h5]; exact List.mem_cons_self ..
