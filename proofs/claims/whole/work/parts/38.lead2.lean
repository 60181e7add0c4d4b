/-! leadShare, both sides -/
def mom (z : Zf) (r : Nat) : UInt64 := FP.ddiv (FP.i2d (wnum z 1 r (z 0))) (FP.i2d (wden z 1 r))
theorem row_nd {z : Zf} {r k : Nat} (hz : zOK z) (h : ch z 1 r = some k) : 0 ≤ (wnum z 1 r (z 0)).toInt ∧ 1 ≤ (wden z 1 r).toInt ∧ (wden z 1 r).toInt ≤ 198 ∧ (z 0).toInt * (wden z 1 r).toInt ≤ (wnum z 1 r (z 0)).toInt ∧ (1 : Int32) ≤ wden z 1 r := by
  obtain ⟨g, g0, -, g1, g2, g3, g4, g5⟩ := q_mul hz (by omega) (by omega) h
  have ht := hz.2.2.2.2.1
  have e0 : z 0 = nI (z 0).toInt.toNat := i_nI (by omega)
  have hm : (z 0).toInt.toNat * qB z 1 r ≤ 9999 * 198 := Nat.mul_le_mul (by omega) (by omega)
  have ed : (wden z 1 r) = nI (qB z 1 r) := by unfold wden; rw [h]
  have en : (wnum z 1 r (z 0)) = nI ((z 0).toInt.toNat * qB z 1 r + qA z 1 r) := by
    unfold wnum; rw [h]
    show z 0 * nI (qB z 1 r) + nI (qA z 1 r) = _
    rw [← nI_add, ← pk_mul, ← e0]
  have td : (wden z 1 r).toInt = (qB z 1 r : Int) := by rw [ed, nI_toInt (by omega)]
  have tn : (wnum z 1 r (z 0)).toInt = (((z 0).toInt.toNat * qB z 1 r + qA z 1 r : Nat) : Int) := by rw [en, nI_toInt (by omega)]
  have tm : (((z 0).toInt.toNat * qB z 1 r : Nat) : Int) = (z 0).toInt * (qB z 1 r : Int) := by rw [Int.natCast_mul, show (((z 0).toInt.toNat : Nat) : Int) = (z 0).toInt by omega]
  refine ⟨by rw [tn]; omega, by rw [td]; omega, by rw [td]; omega, ?_, ?_⟩
  · rw [tn, td, ← tm]; omega
  · rw [ed, show (1 : Int32) = nI 1 from rfl]; exact (nI_le_iff (by omega) (by omega)).mpr (by omega)
theorem mom_ok {z : Zf} {r k : Nat} (hz : zOK z) (h : ch z 1 r = some k) : FP.Core.val64 (mom z r) ≠ .nan ∧ Gr (mom z r) ∧ (z 0).toInt * (UU : Int) ≤ zD (mom z r) := by
  obtain ⟨a1, a2, a3, a4, -⟩ := row_nd hz h
  obtain ⟨c, q, j, b1, b2, b3⟩ := mom_z (N := wnum z 1 r (z 0)) (n := wden z 1 r) a1 a2 (by omega)
  have ht := hz.2.2.2.2.1
  refine ⟨ub_fin b1, ⟨c, q, j, b1, b2⟩, ?_⟩
  have := b3 (z 0) ht.1 a4
  rw [show zD (mom z r) = _ from zD_fin b1]
  have e : (z 0).toInt * (UU : Int) = (((z 0).toInt.toNat * UU : Nat) : Int) := by rw [Int.natCast_mul, show (((z 0).toInt.toNat : Nat) : Int) = (z 0).toInt by omega]
  omega
theorem s_momentX {σ : Mem} {r k : Nat} (h : CA σ) (hk : ch (zv σ 6) 1 r = some k) : F_X0_moment 48 (nI r) (σ 6 5) σ = some (mom (zv σ 6) r) := by
  have r16 := ch_len (c := 1) (by omega) (by omega) hk
  have hC := h.2 1 (by omega) (by omega)
  have q := row_nd h.1 hk
  unfold F_X0_moment
  rw [show F_X0_denominator 48 (nI r) σ = some (wden (zv σ 6) 1 r) from s_den hC (by omega), Option.bind_some, if_pos q.2.2.2.2, show F_X0_numerator 48 (nI r) (σ 6 5) σ = some (wnum (zv σ 6) 1 r (σ 6 5)) from s_num hC (by omega) _, Option.bind_some]
  exact if_pos (nn_iff.mpr (mom_ok h.1 hk).1)
theorem m_momentOf {τ : Mem × Int64} {z : Zf} {r k len : Nat} (hz : zOK z) (hS : Sp z τ len) (hr : r < len) (hk : ch z 1 r = some k) (hτ : τ.1 1 0 = z 0) : F_X4_momentOf (nI r) τ = some (mom z r) := by
  have r16 := ch_len (c := 1) (by omega) (by omega) hk
  obtain ⟨w, e1, -, e3, e4⟩ := hS.2 r hr
  have hm := m_mom (τ := τ) hz (by omega) (by omega) e1 hτ
  unfold F_X4_momentOf
  rw [if_pos (inb_nI r16 (by decide)), if_pos (inb_nI r16 (by decide)), nI_clamp (by omega), e3, e4, hm.1, Option.bind_some, if_pos (inb_nI r16 (by decide)), if_pos (inb_nI r16 (by decide)), hm.2, Option.bind_some]
  exact if_pos (nn_iff.mpr (mom_ok hz hk).1)
/-- the end: the next one's moment, or the horizon's -/
def endE (z : Zf) (r : Nat) : UInt64 := match ch z 1 (r + 1) with
  | none => FP.i2d (z 0 + z 2)
  | some _ => if 0 ≤ Op.cmpValue (FP.dcmp (mom z (r + 1)) (FP.i2d (z 0 + z 2))) .g then FP.i2d (z 0 + z 2) else mom z (r + 1)
def shS (z : Zf) (i : Nat) : UInt64 := match ro z 1 i with
  | none => FP.dconst0
  | some r => if Op.cmpValue (FP.dcmp (FP.dsub (endE z r) (mom z r)) FP.dconst0) .l ≤ 0 then FP.dconst0 else FP.ddiv (FP.dsub (endE z r) (mom z r)) (FP.i2d (z 2))
theorem end_i {z : Zf} (hz : zOK z) : (z 0 + z 2).toInt = (z 0).toInt + (z 2).toInt := by
  have := hz.2.2.2.2.1
  have := hz.2.2.2.2.2
  rw [Int32.toInt_add]
  exact Int.bmod_eq_of_le (by omega) (by omega)
theorem hor_ok {z : Zf} (hz : zOK z) : FP.Core.val64 (FP.i2d (z 0 + z 2)) ≠ .nan ∧ Gr (FP.i2d (z 0 + z 2)) ∧ zD (FP.i2d (z 0 + z 2)) = ((z 0).toInt + (z 2).toInt) * (UU : Int) := by
  have h0 := hz.2.2.2.2.1
  have h2 := hz.2.2.2.2.2
  have e := end_i hz
  obtain ⟨c, q, a1, a2, -⟩ := i2d_p (a := z 0 + z 2) (by omega)
  refine ⟨ub_fin a1, ⟨c, q, (z 0 + z 2).toInt.toNat * 2 ^ 60, a1, by rw [a2, UG, Nat.mul_assoc]⟩, ?_⟩
  rw [zD_fin a1, a2, Int.natCast_mul, ← e]
  rw [show (((z 0 + z 2).toInt.toNat : Nat) : Int) = (z 0 + z 2).toInt by omega]
theorem endE_ok {z : Zf} (r : Nat) (hz : zOK z) : Gr (endE z r) ∧ zD (endE z r) ≤ ((z 0).toInt + (z 2).toInt) * (UU : Int) := by
  obtain ⟨n1, n2, n3⟩ := hor_ok hz
  unfold endE
  cases h : ch z 1 (r + 1) with
  | none => exact ⟨n2, by rw [n3]; exact Int.le_refl _⟩
  | some k =>
    obtain ⟨m1, m2, -⟩ := mom_ok hz h
    rw [dcmp_z m1 n1]
    simp only [cv_ge]
    by_cases q : zD (FP.i2d (z 0 + z 2)) ≤ zD (mom z (r + 1))
    · rw [if_pos q]; exact ⟨n2, by rw [n3]; exact Int.le_refl _⟩
    · rw [if_neg q]; exact ⟨m2, by rw [← n3]; omega⟩
theorem Gr.fin {x : UInt64} (h : Gr x) : ∃ c q, FP.Core.val64 x = .fin false c q := by
  obtain ⟨c, q, -, a, -⟩ := h
  exact ⟨c, q, a⟩
theorem share_ok {z : Zf} {r k : Nat} (hz : zOK z) (h : ch z 1 r = some k) : FP.Core.val64 (FP.dsub (endE z r) (mom z r)) ≠ .nan ∧ (¬ Op.cmpValue (FP.dcmp (FP.dsub (endE z r) (mom z r)) FP.dconst0) .l ≤ 0 → Shr (FP.ddiv (FP.dsub (endE z r) (mom z r)) (FP.i2d (z 2)))) := by
  obtain ⟨g1, g2⟩ := endE_ok r hz
  obtain ⟨-, m2, m3⟩ := mom_ok hz h
  have h2 := hz.2.2.2.2.2
  obtain ⟨c, q, e1⟩ := g1.fin
  obtain ⟨d, s, e2⟩ := m2.fin
  have nn := sub_nn e1 e2
  refine ⟨nn, fun hc => ?_⟩
  rw [dcmp_z nn nn_0, cv_le, zD_0] at hc
  refine share_z g1 m2 h2.1 h2.2 ?_ (by omega)
  rw [Int.add_mul] at g2
  omega
theorem shS_ok {z : Zf} {i : Nat} (hz : zOK z) : shS z i = FP.dconst0 ∨ Shr (shS z i) := by
  unfold shS
  cases h : ro z 1 i with
  | none => exact Or.inl rfl
  | some r =>
    have := (share_ok hz (ro_ch h)).2
    by_cases q : Op.cmpValue (FP.dcmp (FP.dsub (endE z r) (mom z r)) FP.dconst0) .l ≤ 0
    · left; exact if_pos q
    · right
      show Shr (if _ then _ else _)
      rw [if_neg q]; exact this q
theorem Shr.nn {x : UInt64} (h : Shr x) : FP.Core.val64 x ≠ .nan := by
  obtain ⟨c, q, a, -⟩ := h
  exact ub_fin a
theorem s_share {σ : Mem} {i : Nat} (h : CA σ) (hi : i < 16) (ht : tk (zv σ 6) i = true) : F_X3_leadShare (nI i) σ = some (.inr (shS (zv σ 6) i)) := by
  unfold F_X3_leadShare
  have hC := h.2 1 (by omega) (by omega)
  rw [s_has h.1 hi, ht, Option.bind_some, if_c1, show F_X0_rowOf 48 (nI i) σ = some (enc (ro (zv σ 6) 1 i)) from s_rowOf hC hi (by omega) (by omega), Option.bind_some]
  unfold shS
  have h2 := h.1.2.2.2.2.2
  have hh : (1 : Int32) ≤ σ 6 7 := by
    rw [i32_le]; exact h2.1
  cases hr : ro (zv σ 6) 1 i with
  | none => rw [if_pos (show enc none = -1 from rfl)]; rfl
  | some r =>
    have hc := ro_ch hr
    have r16 := ro_lt hr
    obtain ⟨nn, hS⟩ := share_ok h.1 hc
    rw [if_neg (show ¬ enc (some r) = -1 from nI_ne_m1 (by omega)), if_pos hh]
    have hend : (Option.bind (if (σ 48 5) ≤ (enc (some r) + (1 : Int32)) then some (FP.i2d ((σ 6 5) + (σ 6 7))) else Option.bind (F_X0_moment 48 (enc (some r) + (1 : Int32)) (σ 6 5) σ) (fun r92 => (Option.bind (if 0 ≤ (Op.cmpValue (FP.dcmp r92 (FP.i2d ((σ 6 5) + (σ 6 7)))) .g) then some (FP.i2d ((σ 6 5) + (σ 6 7))) else some r92) (fun v101 : UInt64 => some v101)))) (fun v75 : UInt64 => some v75)) = some (endE (zv σ 6) r) := by
      obtain ⟨len, hle, hR, hn⟩ := hC
      have h48 : σ 48 5 = nI len := hR.2.2.1
      rw [show enc (some r) + (1 : Int32) = nI (r + 1) from nI_1 r, h48]
      unfold endE
      cases hk : ch (zv σ 6) 1 (r + 1) with
      | none =>
        have : len ≤ r + 1 := len_one hk (fun j hj => by obtain ⟨w, e, -⟩ := hR.2.2.2 j hj; exact ⟨w, e⟩)
        rw [if_pos ((nI_le_iff (by omega) (by omega)).mpr this)]; rfl
      | some k =>
        have : ¬ len ≤ r + 1 := fun q => by rw [ch_end hn (r + 1) q] at hk; cases hk
        rw [if_neg (fun q => this ((nI_le_iff (by omega) (by omega)).mp q)), s_momentX h hk, Option.bind_some]
        show Option.bind (Option.bind (if 0 ≤ Op.cmpValue (FP.dcmp (mom (zv σ 6) (r + 1)) (FP.i2d (zv σ 6 0 + zv σ 6 2))) .g then some (FP.i2d (zv σ 6 0 + zv σ 6 2)) else some (mom (zv σ 6) (r + 1))) _) _ = _
        split <;> rfl
    have hb : ∀ {α : Type} (x : Option UInt64) (e : UInt64) (f : UInt64 → Option α), Option.bind x (fun v : UInt64 => some v) = some e → Option.bind x f = f e := by
      intro α x e f hx
      cases x with
      | none => cases hx
      | some y => cases hx; rfl
    rw [hb _ _ _ hend, show enc (some r) = nI r from rfl, s_momentX h hc, Option.bind_some, if_pos (nn_iff.mpr nn)]
    show inR (if Op.cmpValue _ _ ≤ 0 then _ else _) = some (.inr (if Op.cmpValue _ _ ≤ 0 then _ else _))
    by_cases q : Op.cmpValue (FP.dcmp (FP.dsub (endE (zv σ 6) r) (mom (zv σ 6) r)) FP.dconst0) .l ≤ 0
    · rw [if_pos q, if_pos q]; rfl
    · have := nn_iff.mpr (hS q).nn
      rw [if_neg q, if_neg q]
      show inR (if nn64 (FP.ddiv (FP.dsub (endE (zv σ 6) r) (mom (zv σ 6) r)) (FP.i2d (zv σ 6 2))) = true then _ else _) = _
      rw [if_pos this]; rfl
theorem m_share {τ : Mem × Int64} {i : Nat} (hz : zOK (mz τ)) (hi : i < 16) : ∃ τ', F_X4_shareOf (nI i) τ = some (shS (mz τ) i, τ') ∧ Keep τ τ' := by
  obtain ⟨τ', len, e, K, S, hl, hle⟩ := m_spanOf hz hi
  refine ⟨τ', ?_, K⟩
  unfold F_X4_shareOf shS
  rw [e, Option.bind_some]
  have t0' : τ'.1 1 0 = mz τ 0 := by rw [K.1]; rfl
  have t2' : τ'.1 1 2 = mz τ 2 := by rw [K.1]; rfl
  cases hr : ro (mz τ) 1 i with
  | none => rw [if_neg (fun q : ¬ enc none = -1 => q rfl)]
  | some r =>
    have hc := ro_ch hr
    have r16 := ro_lt hr
    obtain ⟨nn, hS⟩ := share_ok hz hc
    have hrl : r < len := by
      rcases Nat.lt_or_ge r len with q | q
      · exact q
      · rw [ch_end hl r q] at hc; cases hc
    rw [if_pos (show ¬ enc (some r) = -1 from nI_ne_m1 (by omega))]
    show Option.bind (F_X4_momentOf (nI r) τ') (fun r15 => Option.bind (if τ'.1 0 20 ≤ nI r + 1 then some (FP.i2d (τ'.1 1 0 + τ'.1 1 2)) else Option.bind (F_X4_momentOf (nI r + 1) τ') (fun r49 => some r49)) _) = _
    rw [m_momentOf hz S hrl hc t0', Option.bind_some, t0', t2', S.1, show nI r + (1 : Int32) = nI (r + 1) from nI_1 r]
    have hend : Option.bind (if nI len ≤ nI (r + 1) then some (FP.i2d (mz τ 0 + mz τ 2)) else Option.bind (F_X4_momentOf (nI (r + 1)) τ') (fun r49 => some r49)) (fun v42 : UInt64 => (if 0 ≤ (Op.cmpValue (FP.dcmp v42 (FP.i2d (mz τ 0 + mz τ 2))) .g) then some (FP.i2d (mz τ 0 + mz τ 2)) else some v42)) = some (endE (mz τ) r) := by
      unfold endE
      cases hk : ch (mz τ) 1 (r + 1) with
      | none =>
        have : len ≤ r + 1 := len_one hk (fun j hj => by obtain ⟨w, e, -⟩ := S.2 j hj; exact ⟨w, e⟩)
        rw [if_pos ((nI_le_iff (by omega) (by omega)).mpr this), Option.bind_some]
        split <;> rfl
      | some k =>
        have : ¬ len ≤ r + 1 := fun q => by rw [ch_end hl (r + 1) q] at hk; cases hk
        rw [if_neg (fun q => this ((nI_le_iff (by omega) (by omega)).mp q)), m_momentOf hz S (by omega) hk t0', Option.bind_some, Option.bind_some]
        split <;> rfl
    have hb : ∀ {α : Type} (x : Option UInt64) (e : UInt64) (g : UInt64 → Option UInt64) (f : UInt64 → Option α), Option.bind x g = some e → Option.bind x (fun v => Option.bind (g v) f) = f e := by
      intro α x e g f hx
      cases x with
      | none => cases hx
      | some y =>
        have hx : g y = some e := hx
        show Option.bind (g y) f = _
        rw [hx]; rfl
    rw [hb _ _ _ _ hend, if_pos (nn_iff.mpr nn)]
    show (if Op.cmpValue _ _ ≤ 0 then _ else _) = some ((if Op.cmpValue _ _ ≤ 0 then _ else _), τ')
    by_cases q : Op.cmpValue (FP.dcmp (FP.dsub (endE (mz τ) r) (mom (mz τ) r)) FP.dconst0) .l ≤ 0
    · rw [if_pos q, if_pos q]
    · rw [if_neg q, if_neg q, if_pos (nn_iff.mpr nn), if_pos (nn_iff.mpr (hS q).nn)]
/-- the double answers: the same number, no NaN -/
def AgD (l : List (Nat × Int32)) (res : Nat ⊕ UInt64) (b : UInt64) (t : Int32) : Prop := match res with
  | .inl k => (k, t) ∈ l
  | .inr v => t = 0 ∧ b = v ∧ FP.Core.val64 v ≠ .nan
theorem o_leadShare {σ : Mem} {τ : Mem × Int64} (R : Rel σ τ) (a : Int32) : ∃ res v τ', F_X3_leadShare a σ = some res ∧ F_X4_leadShare a τ = some (v, τ') ∧ AgD [(2, 1)] res v (τ'.1 0 5) ∧ Keep5 τ τ' := by
  have hz := R.zm
  have hzz : mz (t0 τ) = zv σ 6 := by rw [t0_mz, ← R.1]
  unfold F_X4_leadShare
  rw [show (up2 τ.1 0 5 (0 : Int32), τ.2) = t0 τ from rfl, m_isMover, hzz, Option.bind_some]
  cases hA : hasA (zv σ 6) a with
  | false =>
    obtain ⟨τ', e, K, h5⟩ := m_fails τ 1
    refine ⟨.inl 2, FP.i2d 0, τ', ?_, ?_, ?_, K⟩
    · unfold F_X3_leadShare; rw [s_hasX R.2.1.1, hA, Option.bind_some, if_c0]
    · rw [if_b0, e]; rfl
    · rw [h5]; exact List.mem_cons_self ..
  | true =>
    obtain ⟨i, hi, rfl, ht⟩ := hasA_some hA
    obtain ⟨τ', e, K⟩ := m_share (τ := t0 τ) hz hi
    obtain ⟨K5, h5⟩ := t0_Keep K
    refine ⟨.inr (shS (zv σ 6) i), shS (zv σ 6) i, τ', s_share R.2.1 hi ht, ?_, ⟨h5, rfl, ?_⟩, K5⟩
    · rw [if_b1, e, hzz]; rfl
    · rcases shS_ok (i := i) R.2.1.1 with q | q
      · rw [q]; exact nn_0
      · exact q.nn
