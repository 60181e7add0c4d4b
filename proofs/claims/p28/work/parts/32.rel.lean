/-- what both tell: a kind of throw and the reference's number for it, or the same answer -/
def Ag (l : List (Nat × Int32)) (res : Nat ⊕ Int32) (b t : Int32) : Prop := match res with
  | .inl k => (k, t) ∈ l
  | .inr v => t = 0 ∧ b = v
theorem sm_nI {a : Int32} {N : Nat} (h : 0 ≤ a.toInt ∧ a.toInt ≤ N) : ∃ k, k ≤ N ∧ a = nI k := ⟨a.toInt.toNat, by omega, i_nI (by omega)⟩
theorem lt7 {k : Nat} (h : k ≤ 6) : k = 0 ∨ k = 1 ∨ k = 2 ∨ k = 3 ∨ k = 4 ∨ k = 5 ∨ k = 6 := by omega
/-- what mover tells -/
def mvS (z : Zf) (i k : Nat) : Int32 :=
  if k = 0 then z (20 + 4 * i + 1) else if k = 1 then z (20 + 4 * i + 2) else if k = 2 then nI (fb_ct (rkP z i) 16) else if k = 3 then nI (fb_ct (wnP z i) 16)
  else if k = 4 then (match ro z 1 i with | none => 0 | some r => wnum z 1 r (z 0)) else if k = 5 then (match ro z 1 i with | none => 0 | some r => wden z 1 r) else z (20 + 4 * i + 3)
def coS (z : Zf) (c k : Nat) : Int32 :=
  if k = 0 then enc (ch z c 0) else if k = 1 then enc (los z c) else if k = 2 then wnum z c 1 (z 0) else if k = 3 then wden z c 1 else if k = 4 then enc (ch z c 1) else z (3 + c)
theorem ro_lt {z : Zf} {i r : Nat} (h : ro z 1 i = some r) : r < 16 := ch_len (c := 1) (by omega) (by omega) (ro_ch h)
section S32
variable {σ : Mem}
theorem s_mover {i k : Nat} (h : CA σ) (hi : i < 16) (hk : k ≤ 6) (ht : tk (zv σ 6) i = true) : F_X3_mover (nI i) (nI k) σ = some (.inr (mvS (zv σ 6) i k)) := by
  unfold F_X3_mover
  rw [s_has h.1 hi, ht, Option.bind_some, if_c1]
  have hz := h.1
  have hC := h.2 1 (by omega) (by omega)
  have r0 : F_X0_rowOf 48 (nI i) σ = some (enc (ro (zv σ 6) 1 i)) := s_rowOf hC hi (by omega) (by omega)
  rcases lt7 hk with rfl | rfl | rfl | rfl | rfl | rfl | rfl
  · rw [if_pos (by decide), s_value hi]
    show some (Sum.inr (σ 8 i)) = some (Sum.inr (zv σ 6 (20 + 4 * i + 1)))
    rw [zv_s σ 6 hi (by omega)]
  · rw [if_neg (by decide), if_pos (by decide), s_speed hi]
    show some (Sum.inr (σ 9 i)) = some (Sum.inr (zv σ 6 (20 + 4 * i + 2)))
    rw [zv_s σ 6 hi (by omega)]
  · rw [if_neg (by decide), if_neg (by decide), if_pos (by decide), s_rank hz hi]; rfl
  · rw [if_neg (by decide), if_neg (by decide), if_neg (by decide), if_pos (by decide), s_wins h hi]; rfl
  · rw [if_neg (by decide), if_neg (by decide), if_neg (by decide), if_neg (by decide), if_pos (by decide), r0, Option.bind_some]
    show inR _ = some (Sum.inr (match ro (zv σ 6) 1 i with | none => 0 | some r => wnum (zv σ 6) 1 r (zv σ 6 0)))
    cases hr : ro (zv σ 6) 1 i with
    | none => rw [show enc none = (-1 : Int32) from rfl, show F_X0_numerator 48 (-1) (σ 6 5) σ = some 0 from s_numM (c := 1) _]; rfl
    | some r =>
      have := ro_lt hr
      rw [show enc (some r) = nI r from rfl, show F_X0_numerator 48 (nI r) (σ 6 5) σ = some (wnum (zv σ 6) 1 r (σ 6 5)) from s_num hC (by omega) _]; rfl
  · rw [if_neg (by decide), if_neg (by decide), if_neg (by decide), if_neg (by decide), if_neg (by decide), if_pos (by decide), r0, Option.bind_some]
    show inR _ = some (Sum.inr (match ro (zv σ 6) 1 i with | none => 0 | some r => wden (zv σ 6) 1 r))
    cases hr : ro (zv σ 6) 1 i with
    | none => rw [show enc none = (-1 : Int32) from rfl, show F_X0_denominator 48 (-1) σ = some 0 from s_denM (c := 1)]; rfl
    | some r =>
      have := ro_lt hr
      rw [show enc (some r) = nI r from rfl, show F_X0_denominator 48 (nI r) σ = some (wden (zv σ 6) 1 r) from s_den hC (by omega)]; rfl
  · rw [if_neg (by decide), if_neg (by decide), if_neg (by decide), if_neg (by decide), if_neg (by decide), if_neg (by decide), if_pos (by decide), s_added hi]
    show some (Sum.inr (σ 10 i)) = some (Sum.inr (zv σ 6 (20 + 4 * i + 3)))
    rw [zv_s σ 6 hi (by omega)]
theorem s_contest {c k : Nat} (h : CA σ) (h1 : 1 ≤ c) (h2 : c ≤ 15) (hk : k ≤ 5) : F_X3_contest (nI c) (nI k) σ = some (.inr (coS (zv σ 6) c k)) := by
  unfold F_X3_contest
  have e : (nI c).toInt = (c : Int) := nI_toInt (by omega)
  have q : decide ((1 : Int32).toInt ≤ (nI c).toInt ∧ (nI c).toInt ≤ (15 : Int32).toInt) = true := by
    rw [e, show (1 : Int32).toInt = 1 from by decide, show (15 : Int32).toInt = 15 from by decide, decide_eq_true_eq]; omega
  have hC := h.2 c h1 h2
  rw [s_within, q, Option.bind_some, if_c1, s_courseOf h1 h2, Option.bind_some]
  rcases lt7 (show k ≤ 6 by omega) with rfl | rfl | rfl | rfl | rfl | rfl | rfl
  · rw [if_pos (by decide), show (0 : Int32) = nI 0 from rfl, s_winnerIn hC (by omega)]; rfl
  · rw [if_neg (by decide), if_pos (by decide), s_loser h h1 h2]; rfl
  · rw [if_neg (by decide), if_neg (by decide), if_pos (by decide), show (1 : Int32) = nI 1 from rfl, s_num hC (by omega)]; rfl
  · rw [if_neg (by decide), if_neg (by decide), if_neg (by decide), if_pos (by decide), show (1 : Int32) = nI 1 from rfl, s_den hC (by omega)]; rfl
  · rw [if_neg (by decide), if_neg (by decide), if_neg (by decide), if_neg (by decide), if_pos (by decide), show (1 : Int32) = nI 1 from rfl, s_winnerIn hC (by omega)]; rfl
  · rw [if_neg (by decide), if_neg (by decide), if_neg (by decide), if_neg (by decide), if_neg (by decide), if_pos (by decide), s_turnedOf h1 h2]; rfl
  · omega
end S32
section M32
variable {τ : Mem × Int64}
end M32
theorem toInt_c (k : Nat) (h : k < 2 ^ 31) : (nI k).toInt = (k : Int) := nI_toInt h
