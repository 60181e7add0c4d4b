theorem zOK_set {z : Zf} {k : Nat} {v : Int32} (hz : zOK z) (h : (k = 1 ∧ (v = 0 ∨ v = 1)) ∨ (k = 2 ∧ 1 ≤ v.toInt ∧ v.toInt ≤ 999)) : zOK (up1 z k v) := by
  have hk : 1 ≤ k ∧ k ≤ 2 := by omega
  have e : ∀ x, x ≠ k → up1 z k v x = z x := fun x hx => if_neg hx
  refine ⟨fun j hj => ?_, fun j hj => ?_, fun j hj => ?_, ?_, ?_, ?_⟩
  · rw [e _ (by omega)]; exact hz.1 j hj
  · unfold vv; rw [e 0 (by omega), e (20 + 4 * j + 1) (by omega)]; exact hz.2.1 j hj
  · unfold sp; rw [e _ (by omega)]; exact hz.2.2.1 j hj
  · by_cases q : k = 1
    · have : up1 z k v 1 = v := if_pos q.symm
      rw [this]
      rcases h with ⟨-, h⟩ | ⟨h, -⟩
      · exact h
      · omega
    · rw [e 1 (by omega)]; exact hz.2.2.2.1
  · rw [e 0 (by omega)]; exact hz.2.2.2.2.1
  · by_cases q : k = 2
    · have : up1 z k v 2 = v := if_pos q.symm
      rw [this]; omega
    · rw [e 2 (by omega)]; exact hz.2.2.2.2.2
/-! what the race depends on -/
theorem ra_cong {z z' : Zf} (h1 : z' 1 = z 1) (h20 : ∀ x, 20 ≤ x → z' x = z x) : (∀ c r, ch z' c r = ch z c r ∧ mA z' c r = mA z c r ∧ mB z' c r = mB z c r) ∧ ∀ c x, tw z' c x = tw z c x := by
  have htk : tk z' = tk z := by funext k; unfold tk; rw [h20 _ (by omega)]
  have hvv : vv z' = vv z := by funext k; unfold vv; rw [h20 _ (by omega)]
  have hsp : sp z' = sp z := by funext k; unfold sp; rw [h20 _ (by omega)]
  have hup : up z' = up z := by unfold up; rw [h1]
  have hpos : ∀ a b, pos z' a b = pos z a b := fun a b => by funext k; unfold pos; rw [hvv, hsp]
  have hah : ∀ a b, ah z' a b = ah z a b := fun a b => by unfold ah; rw [hpos, hsp, hup]
  have hsn : ∀ w, snr z' w = snr z w := fun w => by funext k q; unfold snr; rw [hvv, hsp, hup]
  have hfs : ∀ w, fst z' w = fst z w := fun w => by funext k; unfold fst; rw [htk, hsp]
  have hwin : ∀ a b c, win z' a b c = win z a b c := fun a b c => by unfold win; rw [htk, hah]
  have hnx : ∀ c w, nxt z' c w = nxt z c w := fun c w => by unfold nxt; rw [hfs, hsn]
  have hch : ∀ c r, ch z' c r = ch z c r := by
    intro c r
    induction r with
    | zero => exact hwin 0 1 c
    | succ r ih =>
      rw [ch, ch, ih]
      have : nxt z' c = nxt z c := funext (hnx c)
      rw [this]
  have hA : ∀ c r, mA z' c r = mA z c r := by
    intro c r
    cases r with
    | zero => rfl
    | succ r => rw [mA, mA, hch, hch, hvv]
  have hB : ∀ c r, mB z' c r = mB z c r := by
    intro c r
    cases r with
    | zero => rfl
    | succ r => rw [mB, mB, hch, hch, hsp]
  refine ⟨fun c r => ⟨hch c r, hA c r, hB c r⟩, fun c x => ?_⟩
  have : ∀ f r, twf z' c x f r = twf z c x f r := by
    intro f
    induction f with
    | zero => intro r; rfl
    | succ f ih => intro r; rw [twf, twf, hch, hA, hB, ih]
  exact this 16 0
def tzf (z : Zf) (y : Int) (c : Nat) : Zf := fun x => if 4 ≤ x ∧ x < 3 + c then z x + nI (tw z (x - 3) y) else z x
theorem tzf_1 (z : Zf) (y : Int) : tzf z y 1 = z := by funext x; exact if_neg (fun q => by omega)
theorem tzf_s {z : Zf} {y : Int} {c : Nat} (h1 : 1 ≤ c) : up1 (tzf z y c) (3 + c) (tzf z y c (3 + c) + nI (tw z c y)) = tzf z y (c + 1) := by
  have e : tzf z y c (3 + c) = z (3 + c) := if_neg (fun q => by omega)
  rw [e]
  funext x
  unfold up1 tzf
  by_cases q : x = 3 + c
  · rw [if_pos q, if_pos ⟨by omega, by omega⟩, q, show 3 + c - 3 = c by omega]
  · rw [if_neg q]
    by_cases h : 4 ≤ x ∧ x < 3 + c
    · rw [if_pos h, if_pos ⟨h.1, by omega⟩]
    · rw [if_neg h, if_neg (fun w => h ⟨w.1, by omega⟩)]
theorem s_pass1 {σ : Mem} {x : Int32} (h : CA σ) (hx : 0 ≤ x.toInt ∧ x.toInt ≤ 9999) : ∃ σ', L_X3_letPass_8 x FU 0 1 σ = some (sumT (fun c => nI (tw (zv σ 6) c x.toInt)) 15 1 0, σ') ∧ zv σ' 6 = tzf (zv σ 6) x.toInt 16 ∧ ∀ y, y ≠ 11 → σ' y = σ y := by
  have key : ∀ (m c fu : Nat) (a : Int32) (σ1 : Mem), c + m = 16 → 1 ≤ c → m < fu → zv σ1 6 = tzf (zv σ 6) x.toInt c → (∀ y, y ≠ 11 → σ1 y = σ y) → ∃ σ', L_X3_letPass_8 x fu a (nI c) σ1 = some (sumT (fun c => nI (tw (zv σ 6) c x.toInt)) m c a, σ') ∧ zv σ' 6 = tzf (zv σ 6) x.toInt 16 ∧ ∀ y, y ≠ 11 → σ' y = σ y := by
    intro m
    induction m with
    | zero =>
      intro c fu a σ1 hc h1 hf hz ho
      obtain ⟨f, rfl⟩ : ∃ f, fu = f + 1 := ⟨fu - 1, by omega⟩
      have : c = 16 := by omega
      subst this
      exact ⟨σ1, by rw [L_X3_letPass_8, if_pos c16]; rfl, hz, ho⟩
    | succ m ih =>
      intro c fu a σ1 hc h1 hf hz ho
      obtain ⟨f, rfl⟩ : ∃ f, fu = f + 1 := ⟨fu - 1, by omega⟩
      have hC : CoOK σ1 (zv σ 6) c := (h.2 c h1 (by omega)).fr (fun j hj => ho _ (by omega))
      have hcn : decide ((1 : Int32).toInt ≤ (nI c).toInt ∧ (nI c).toInt ≤ (15 : Int32).toInt) = true := by
        rw [nI_toInt (by omega), show (1 : Int32).toInt = 1 from by decide, show (15 : Int32).toInt = 15 from by decide, decide_eq_true_eq]; omega
      have hin : inb (nI c) 16 = true := inb_nI (by omega) (by decide)
      rw [L_X3_letPass_8, if_neg (c15 (by omega)), s_courseOf h1 (by omega), Option.bind_some, s_turnsWithin h.1 hC h1 (by omega) hx, Option.bind_some]
      unfold F_X1_countTurns
      rw [s_within, hcn, Option.bind_some, if_b1, if_pos hin, if_pos hin, nI_clamp (by omega), Option.bind_some, show nI c + (1 : Int32) = nI (c + 1) from nI_1 c]
      refine ih (c + 1) f _ _ (by omega) (by omega) (by omega) ?_ (fun y hy => ?_)
      · have e : σ1 (6 + 5) c = tzf (zv σ 6) x.toInt c (3 + c) := by rw [← hz, zv_turn σ1 6 h1 (by omega)]
        rw [zv_up_t σ1 6 h1 (by omega) rfl, e, hz]
        exact tzf_s h1
      · rw [up2_ne σ1 (x := 6 + 5) (y := y) (by omega)]; exact ho y hy
  exact key 15 1 FU 0 σ rfl (by omega) (by decide) (tzf_1 _ _).symm (fun _ _ => rfl)
theorem tzf_ok {z : Zf} {y : Int} {c : Nat} (hz : zOK z) (hc : c ≤ 16) : zOK (tzf z y c) ∧ tzf z y c 1 = z 1 ∧ ∀ x, 20 ≤ x → tzf z y c x = z x := by
  have h20 : ∀ x, 20 ≤ x → tzf z y c x = z x := fun x hx => if_neg (fun q => by omega)
  have hl : ∀ x, x < 4 → tzf z y c x = z x := fun x hx => if_neg (fun q => by omega)
  refine ⟨⟨fun k hk => by rw [h20 _ (by omega)]; exact hz.1 k hk, fun k hk => ?_, fun k hk => ?_, ?_, ?_, ?_⟩, hl 1 (by omega), h20⟩
  · unfold vv; rw [hl 0 (by omega), h20 (20 + 4 * k + 1) (by omega)]; exact hz.2.1 k hk
  · unfold sp; rw [h20 _ (by omega)]; exact hz.2.2.1 k hk
  · rw [hl 1 (by omega)]; exact hz.2.2.2.1
  · rw [hl 0 (by omega)]; exact hz.2.2.2.2.1
  · rw [hl 2 (by omega)]; exact hz.2.2.2.2.2
/-! the values move on -/
def mvf (z : Zf) (by' : Int32) (k : Nat) : Zf := fun x => if 20 ≤ x ∧ x < 20 + 4 * k ∧ x % 4 = 1 then z x + z (x + 1) * by' else z x
theorem mvf_0 (z : Zf) (b : Int32) : mvf z b 0 = z := by funext x; exact if_neg (fun q => by omega)
theorem mvf_at {z : Zf} {b : Int32} {k : Nat} : mvf z b k (20 + 4 * k + 1) = z (20 + 4 * k + 1) ∧ mvf z b k (20 + 4 * k + 2) = z (20 + 4 * k + 2) := ⟨if_neg (fun q => by omega), if_neg (fun q => by omega)⟩
theorem mvf_s {z : Zf} {b : Int32} {k : Nat} : up1 (mvf z b k) (20 + 4 * k + 1) (z (20 + 4 * k + 1) + z (20 + 4 * k + 2) * b) = mvf z b (k + 1) := by
  funext x
  unfold up1 mvf
  by_cases q : x = 20 + 4 * k + 1
  · rw [if_pos q, if_pos ⟨by omega, by omega, by omega⟩, q]
  · rw [if_neg q]
    by_cases h : 20 ≤ x ∧ x < 20 + 4 * k ∧ x % 4 = 1
    · rw [if_pos h, if_pos ⟨h.1, by omega, h.2.2⟩]
    · rw [if_neg h, if_neg (fun w => h ⟨w.1, by omega, w.2.2⟩)]
theorem s_move {σ : Mem} (b : Int32) : ∃ σ', F_X1_moveOn 6 b σ = some σ' ∧ zv σ' 6 = up1 (mvf (zv σ 6) b 16) 0 (zv σ 6 0 + b) ∧ ∀ y, y < 6 ∨ 12 ≤ y → σ' y = σ y := by
  have key : ∀ (m k fu : Nat) (σ1 : Mem), k + m = 16 → m < fu → zv σ1 6 = mvf (zv σ 6) b k → (∀ y, y ≠ 8 → σ1 y = σ y) → ∃ σ', L_X1_moveOn_2 6 b fu (nI k) σ1 = some σ' ∧ zv σ' 6 = mvf (zv σ 6) b 16 ∧ ∀ y, y ≠ 8 → σ' y = σ y := by
    intro m
    induction m with
    | zero =>
      intro k fu σ1 hk hf hz ho
      obtain ⟨f, rfl⟩ : ∃ f, fu = f + 1 := ⟨fu - 1, by omega⟩
      have : k = 16 := by omega
      subst this
      exact ⟨σ1, by rw [L_X1_moveOn_2, if_pos e16], hz, ho⟩
    | succ m ih =>
      intro k fu σ1 hk hf hz ho
      obtain ⟨f, rfl⟩ : ∃ f, fu = f + 1 := ⟨fu - 1, by omega⟩
      have hin : inb (nI k) 16 = true := inb_nI (by omega) (by decide)
      rw [L_X1_moveOn_2, if_neg (d16 (by omega)), if_pos hin, if_pos hin, if_pos hin, nI_clamp (by omega), show nI k + (1 : Int32) = nI (k + 1) from nI_1 k]
      have a1 : σ1 (6 + 2) k = zv σ 6 (20 + 4 * k + 1) := by
        have := zv_s σ1 6 (k := k) (j := 1) (by omega) (by omega)
        rw [hz, mvf_at.1] at this
        exact this.symm
      have a2 : σ1 (6 + 3) k = zv σ 6 (20 + 4 * k + 2) := by
        have := zv_s σ1 6 (k := k) (j := 2) (by omega) (by omega)
        rw [hz, mvf_at.2] at this
        exact this.symm
      refine ih (k + 1) f _ (by omega) (by omega) ?_ (fun y hy => ?_)
      · rw [zv_up_s σ1 6 (k := k) (j := 1) (by omega) (by omega) rfl, a1, a2, hz]
        exact mvf_s
      · rw [up2_ne σ1 (x := 6 + 2) (y := y) (by omega)]; exact ho y hy
  obtain ⟨σ1, e, hz, ho⟩ := key 16 0 FU σ rfl (by decide) (mvf_0 _ _).symm (fun _ _ => rfl)
  have e : L_X1_moveOn_2 6 b FU 0 σ = some σ1 := e
  refine ⟨up2 σ1 6 5 (σ1 6 5 + b), ?_, ?_, fun y hy => ?_⟩
  · unfold F_X1_moveOn; rw [e]; rfl
  · rw [zv_up_f σ1 6 (k := 0) (by omega), hz]
    have : σ1 6 5 = zv σ 6 0 := by rw [ho 6 (by omega)]; rfl
    rw [this]
  · rw [up2_ne σ1 (x := 6) (y := y) (by omega)]; exact ho y (by omega)
theorem mv_ok {z : Zf} {b : Int32} (hz : zOK z) (hb : 0 ≤ b.toInt ∧ b.toInt ≤ 9999) (ht : (z 0).toInt + b.toInt ≤ 9999) : zOK (up1 (mvf z b 16) 0 (z 0 + b)) := by
  have h0 := hz.2.2.2.2.1
  have e0 : (z 0 + b).toInt = (z 0).toInt + b.toInt := fb_addI (by omega) (by omega)
  have el : ∀ x, x ≠ 0 → (x < 20 ∨ x % 4 ≠ 1) → up1 (mvf z b 16) 0 (z 0 + b) x = z x := fun x hx hq => by
    unfold up1
    rw [if_neg hx]
    exact if_neg (fun q => by omega)
  have ea : up1 (mvf z b 16) 0 (z 0 + b) 0 = z 0 + b := if_pos rfl
  refine ⟨fun k hk => ?_, fun k hk => ?_, fun k hk => ?_, ?_, ?_, ?_⟩
  · rw [el _ (by omega) (by omega)]; exact hz.1 k hk
  · rw [ea, e0]
    have ev : up1 (mvf z b 16) 0 (z 0 + b) (20 + 4 * k + 1) = z (20 + 4 * k + 1) + z (20 + 4 * k + 2) * b := by
      unfold up1
      rw [if_neg (by omega)]
      exact if_pos ⟨by omega, by omega, by omega⟩
    unfold vv
    rw [ev]
    have v1 := hz.2.1 k hk
    have s1 := hz.2.2.1 k hk
    have hm := mul_bd (x := sp z k) (y := b.toInt) (B := 99) (C := b.toInt) ⟨by omega, by omega⟩ ⟨by omega, by omega⟩
    have em : (z (20 + 4 * k + 2) * b).toInt = sp z k * b.toInt := fb_mulI (by show _ ≤ sp z k * b.toInt; omega) (by show sp z k * b.toInt < _; omega)
    have es : (z (20 + 4 * k + 1) + z (20 + 4 * k + 2) * b).toInt = vv z k + sp z k * b.toInt := by
      rw [fb_addI, em]
      · rfl
      · rw [em]; show _ ≤ vv z k + _; omega
      · rw [em]; show vv z k + _ < _; omega
    rw [es]
    omega
  · unfold sp; rw [el _ (by omega) (by omega)]; exact hz.2.2.1 k hk
  · rw [el 1 (by omega) (by omega)]; exact hz.2.2.2.1
  · rw [ea, e0]; omega
  · rw [el 2 (by omega) (by omega)]; exact hz.2.2.2.2.2
