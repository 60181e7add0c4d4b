/-! the class's calls in numbers, the class alone: what each answers and where the state goes -/
def Rn (σ : Mem) : Prop := ∃ o s, o < 6 ∧ s ≤ 6 ∧ σ 0 2 = nI o ∧ σ 0 3 = nI s
def Rn1 (σ : Mem) : Prop := ∃ o s, o < 6 ∧ 1 ≤ s ∧ s ≤ 6 ∧ σ 0 2 = nI o ∧ σ 0 3 = nI s
theorem Rn1.n {σ : Mem} (h : Rn1 σ) : Rn σ := by obtain ⟨o, s, a, b, c, d, e⟩ := h; exact ⟨o, s, a, c, d, e⟩
theorem Rn1.c {σ σ' : Mem} (h : Rn1 σ) (e : σ' 0 = σ 0) : Rn1 σ' := by obtain ⟨o, s, a, b, c, d, f⟩ := h; exact ⟨o, s, a, b, c, by rw [e]; exact d, by rw [e]; exact f⟩
theorem q_save {σ : Mem} (hz : zOK (zv σ 6)) (R : Rn σ) : ∃ σ', F_X3_save σ = some σ' ∧ Rn1 σ' ∧ zv σ' 6 = zv σ 6 ∧ ∀ x, x ≠ 0 → x < 12 ∨ 48 ≤ x → σ' x = σ x := by
  obtain ⟨o, s, o1, s1, r1, r2⟩ := R
  have hsv : ∃ σ1 o' s', (if (6 : Int32) ≤ (σ 0 3) then some (up2 σ 0 2 (((σ 0 2) + (1 : Int32)) - ((σ 0 2) + (1 : Int32)) / (6 : Int32) * (6 : Int32))) else some (up2 σ 0 3 ((σ 0 3) + (1 : Int32)))) = some σ1 ∧ (∀ x, x ≠ 0 → σ1 x = σ x) ∧ o' < 6 ∧ s' ≤ 6 ∧ 1 ≤ s' ∧ σ1 0 2 = nI o' ∧ σ1 0 3 = nI s' := by
    by_cases h6 : s = 6
    · subst h6
      refine ⟨up2 σ 0 2 (nI ((o + 1) % 6)), (o + 1) % 6, 6, ?_, fun x h => up2_ne _ (x := 0) (y := x) h, Nat.mod_lt _ (by decide), by omega, by omega, ?_, ?_⟩
      · rw [r2, r1, old_ix o o1, if_pos (by decide)]
      · unfold up2; rw [if_pos ⟨rfl, rfl⟩]
      · unfold up2; rw [if_neg (fun q => by omega)]; exact r2
    · refine ⟨up2 σ 0 3 (nI (s + 1)), o, s + 1, ?_, fun x h => up2_ne _ (x := 0) (y := x) h, o1, by omega, by omega, ?_, ?_⟩
      · rw [r2, if_neg (fun q : (6 : Int32) ≤ nI s => absurd ((nI_le_iff (a := 6) (by omega) (by omega)).mp q) (by omega)), show nI s + (1 : Int32) = nI (s + 1) from nI_1 s]
      · unfold up2; rw [if_neg (fun q => by omega)]; exact r1
      · unfold up2; rw [if_pos ⟨rfl, rfl⟩]
  obtain ⟨σ1, o', s', e1, f1, o2, s2, s3, p1, p2⟩ := hsv
  have hz1 : zv σ1 6 = zv σ 6 := zv_cong (fun j k hj => by rw [f1 _ (by omega)])
  obtain ⟨σ2, e2, z2, f2⟩ := s_copy (n := 12 + 6 * ((o' + s' - 1) % 6)) (o := 6) (fun i j hi hj => by omega) σ1 (by rw [hz1]; exact hz)
  have hfar : ∀ x, x ≠ 0 → x < 12 ∨ 48 ≤ x → σ2 x = σ x := fun x h0 hx => by
    rw [f2 x (fun j hj => by omega)]; exact f1 x h0
  have h0 : σ2 0 = σ1 0 := f2 0 (fun j hj => by omega)
  refine ⟨σ2, ?_, ⟨o', s', o2, s3, s2, by rw [h0]; exact p1, by rw [h0]; exact p2⟩, zv_cong (fun j k hj => by rw [hfar _ (by omega) (by omega)]), hfar⟩
  unfold F_X3_save
  rw [e1, Option.bind_some, s_latest o2 s2 s3 p1 p2, Option.bind_some, e2]; rfl
/-- the state, its courses and its ring -/
def RM (σ : Mem) : Prop := CA σ ∧ Rn σ
def RM1 (σ : Mem) : Prop := CA σ ∧ Rn1 σ
theorem RM1.m {σ : Mem} (h : RM1 σ) : RM σ := ⟨h.1, h.2.n⟩
theorem q_fin {σ : Mem} (hK : CK σ) (hz : zOK (zv σ 6)) (R : Rn1 σ) : ∃ σ', F_X3_foresee σ = some σ' ∧ RM1 σ' ∧ zv σ' 6 = zv σ 6 ∧ ∀ x, x < 48 → σ' x = σ x := by
  obtain ⟨σ', e, hC, hz', hf⟩ := s_foresee hK hz
  exact ⟨σ', e, ⟨hC, R.c (hf 0 (by omega))⟩, hz', hf⟩
theorem CK.fr {σ σ' : Mem} (h : CK σ) (e : ∀ x, 48 ≤ x → σ' x = σ x) : CK σ' := fun c c1 c2 => by rw [e _ (by omega)]; exact h c c1 c2
section QM
variable {σ : Mem}
theorem q_add {a b : Int32} {i : Nat} (R : RM σ) (ha : -9999 ≤ a.toInt ∧ a.toInt ≤ 9999) (hb : -99 ≤ b.toInt ∧ b.toInt ≤ 99) (hf : fsl (zv σ 6) 16 0 = some i) : ∃ σ', F_X3_add a b σ = some (.inr (nI i, σ')) ∧ RM1 σ' ∧ zv σ' 6 = putZ (zv σ 6) i 1 a b (zv σ 6 0) := by
  obtain ⟨-, hi, -⟩ := fsl_some 16 0 i hf
  have hi : i < 16 := by omega
  obtain ⟨σ1, s1, R1, z1, f1⟩ := q_save R.1.1 R.2
  obtain ⟨σ2, p1, p2, p3⟩ := s_put (σ := σ1) hi a b
  obtain ⟨σ3, e3, R3, z3, -⟩ := q_fin (σ := σ2) (R.1.ck.fr (fun x hx => (p3 x (by omega)).trans (f1 x (by omega) (by omega)))) (by rw [p2, z1]; exact putZ_ok R.1.1 hi (Or.inr rfl) (by omega) hb) (R1.c (p3 0 (by omega)))
  refine ⟨σ3, ?_, R3, by rw [z3, p2, z1]⟩
  unfold F_X3_add
  have ha' : (-9999 : Int32).toInt ≤ a.toInt ∧ a.toInt ≤ (9999 : Int32).toInt := ha
  have hb' : (-99 : Int32).toInt ≤ b.toInt ∧ b.toInt ≤ (99 : Int32).toInt := hb
  have hne : ¬ enc (some i) = -1 := nI_ne_m1 (by omega)
  rw [s_within, Option.bind_some, decide_eq_true ha', if_b1, s_isSpeedX, Option.bind_some, decide_eq_true hb', if_c1, s_free R.1.1, hf, Option.bind_some, if_pos hne, s1, Option.bind_some]
  show inR (Option.bind (F_X1_put 6 (nI i) a b σ1) _) = _
  rw [p1, Option.bind_some, e3]; rfl
theorem q_remove {i : Nat} (R : RM σ) (hi : i < 16) (ht : tk (zv σ 6) i = true) : ∃ σ', F_X3_remove (nI i) σ = some (.inr (zv σ 6 (20 + 4 * i + 1), σ')) ∧ RM1 σ' ∧ zv σ' 6 = putZ (zv σ 6) i 0 0 0 0 := by
  obtain ⟨σ1, s1, R1, z1, f1⟩ := q_save R.1.1 R.2
  obtain ⟨σ2, p1, p2, p3⟩ := s_put0 (σ := σ1) hi
  obtain ⟨σ3, e3, R3, z3, -⟩ := q_fin (σ := σ2) (R.1.ck.fr (fun x hx => (p3 x (by omega)).trans (f1 x (by omega) (by omega)))) (by rw [p2, z1]; exact putZ_ok R.1.1 hi (Or.inl rfl) (by decide) (by decide)) (R1.c (p3 0 (by omega)))
  refine ⟨σ3, ?_, R3, by rw [z3, p2, z1]⟩
  have hv : zv σ 6 (20 + 4 * i + 1) = σ1 8 i := by rw [← z1]; exact zv_s σ1 6 hi (j := 1) (by omega)
  unfold F_X3_remove
  rw [s_has R.1.1 hi, ht, Option.bind_some, if_c1, s1, Option.bind_some, s_value hi, Option.bind_some, p1, Option.bind_some, e3, hv]; rfl
theorem q_speed {i : Nat} {b : Int32} (R : RM σ) (hi : i < 16) (ht : tk (zv σ 6) i = true) (hb : -99 ≤ b.toInt ∧ b.toInt ≤ 99) : ∃ σ', F_X3_speed (nI i) b σ = some (.inr (zv σ 6 (20 + 4 * i + 2), σ')) ∧ RM1 σ' ∧ zv σ' 6 = up1 (zv σ 6) (20 + 4 * i + 2) b := by
  obtain ⟨σ1, s1, R1, z1, f1⟩ := q_save R.1.1 R.2
  have p2 : zv (up2 σ1 9 i b) 6 = up1 (zv σ1 6) (20 + 4 * i + 2) b := zv_up_s σ1 6 (k := i) (j := 2) hi (by omega) rfl
  obtain ⟨σ3, e3, R3, z3, -⟩ := q_fin (σ := up2 σ1 9 i b) (R.1.ck.fr (fun x hx => (up2_ne _ (x := 9) (y := x) (by omega)).trans (f1 x (by omega) (by omega)))) (by rw [p2, z1]; exact zOK_sp R.1.1 hb) (R1.c (up2_ne _ (x := 9) (y := 0) (by omega)))
  refine ⟨σ3, ?_, R3, by rw [z3, p2, z1]⟩
  have hv : zv σ 6 (20 + 4 * i + 2) = σ1 9 i := by rw [← z1]; exact zv_s σ1 6 hi (j := 2) (by omega)
  have hb' : (-99 : Int32).toInt ≤ b.toInt ∧ b.toInt ≤ (99 : Int32).toInt := hb
  unfold F_X3_speed
  rw [s_has R.1.1 hi, ht, Option.bind_some, if_c1, s_isSpeedX, Option.bind_some, decide_eq_true hb', if_c1, s1, Option.bind_some, s_speed hi, Option.bind_some]
  unfold F_X1_changeSpeed
  rw [s_isSlotN hi, Option.bind_some, if_neg (by decide), if_pos (inb_nI hi (by decide)), nI_clamp (by omega), Option.bind_some, e3, hv]; rfl
theorem q_jump {i : Nat} {b : Int32} (R : RM σ) (hi : i < 16) (ht : tk (zv σ 6) i = true) (hb : -9999 ≤ b.toInt ∧ b.toInt ≤ 9999) (hs : -1000000 ≤ (zv σ 6 (20 + 4 * i + 1) + b).toInt ∧ (zv σ 6 (20 + 4 * i + 1) + b).toInt ≤ 1000000) : ∃ σ', F_X3_jump (nI i) b σ = some (.inr (zv σ 6 (20 + 4 * i + 1) + b, σ')) ∧ RM1 σ' ∧ zv σ' 6 = up1 (zv σ 6) (20 + 4 * i + 1) (zv σ 6 (20 + 4 * i + 1) + b) := by
  have hv : zv σ 6 (20 + 4 * i + 1) = σ 8 i := zv_s σ 6 hi (j := 1) (by omega)
  rw [hv] at hs ⊢
  obtain ⟨σ1, s1, R1, z1, f1⟩ := q_save R.1.1 R.2
  have p2 : zv (up2 σ1 8 i (σ 8 i + b)) 6 = up1 (zv σ1 6) (20 + 4 * i + 1) (σ 8 i + b) := zv_up_s σ1 6 (k := i) (j := 1) hi (by omega) rfl
  obtain ⟨σ3, e3, R3, z3, -⟩ := q_fin (σ := up2 σ1 8 i (σ 8 i + b)) (R.1.ck.fr (fun x hx => (up2_ne _ (x := 8) (y := x) (by omega)).trans (f1 x (by omega) (by omega)))) (by rw [p2, z1]; exact zOK_va R.1.1 hi hs) (R1.c (up2_ne _ (x := 8) (y := 0) (by omega)))
  refine ⟨σ3, ?_, R3, by rw [z3, p2, z1]⟩
  have hb' : (-9999 : Int32).toInt ≤ b.toInt ∧ b.toInt ≤ (9999 : Int32).toInt := hb
  have hs' : (-1000000 : Int32).toInt ≤ (σ (6 + 2) i + b).toInt ∧ (σ (6 + 2) i + b).toInt ≤ (1000000 : Int32).toInt := hs
  unfold F_X3_jump
  rw [s_has R.1.1 hi, ht, Option.bind_some, if_c1, s_within, Option.bind_some, decide_eq_true hb', if_c1, s_value hi, Option.bind_some, s_within, Option.bind_some, decide_eq_true hs', if_c1, s1, Option.bind_some]
  unfold F_X1_changeValue
  rw [s_isSlotN hi, Option.bind_some, if_neg (by decide), if_pos (inb_nI hi (by decide)), nI_clamp (by omega), Option.bind_some]
  show inR (Option.bind (F_X3_foresee (up2 σ1 8 i (σ 8 i + b))) _) = _
  rw [e3]; rfl
theorem q_set {k : Nat} {b : Int32} (R : RM σ) (hb : (k = 0 ∧ (b = 0 ∨ b = 1)) ∨ (k = 1 ∧ 1 ≤ b.toInt ∧ b.toInt ≤ 999)) : ∃ σ', F_X3_set (nI k) b σ = some (.inr (zv σ 6 (1 + k), σ')) ∧ RM1 σ' ∧ zv σ' 6 = up1 (zv σ 6) (1 + k) b := by
  obtain ⟨σ1, s1, R1, z1, f1⟩ := q_save R.1.1 R.2
  have hk : k ≤ 1 := by omega
  have p2 : zv (up2 σ1 6 (5 + (1 + k)) b) 6 = up1 (zv σ1 6) (1 + k) b := zv_up_f σ1 6 (k := 1 + k) (by omega)
  obtain ⟨σ3, e3, R3, z3, -⟩ := q_fin (σ := up2 σ1 6 (5 + (1 + k)) b) (R.1.ck.fr (fun x hx => (up2_ne _ (x := 6) (y := x) (by omega)).trans (f1 x (by omega) (by omega)))) (by
    rw [p2, z1]
    refine zOK_set R.1.1 ?_
    rcases hb with ⟨rfl, hb⟩ | ⟨rfl, hb⟩
    · exact Or.inl ⟨rfl, hb⟩
    · exact Or.inr ⟨rfl, hb⟩) (R1.c (up2_ne _ (x := 6) (y := 0) (by omega)))
  refine ⟨σ3, ?_, R3, by rw [z3, p2, z1]⟩
  rw [← z1]
  unfold F_X3_set
  rcases lt2 hk with rfl | rfl
  · rw [if_pos (show nI 0 = (0 : Int32) from rfl), if_neg (fun q : ¬ nI 0 = (0 : Int32) => q rfl), s_within]
    have hb' : (0 : Int32).toInt ≤ b.toInt ∧ b.toInt ≤ (1 : Int32).toInt := by
      rcases hb with ⟨-, rfl | rfl⟩ | ⟨h, -⟩
      · decide
      · decide
      · omega
    simp only [Option.bind_some]
    rw [decide_eq_true hb', if_c1, s1, Option.bind_some]
    unfold F_X3_setting
    rw [if_pos (show nI 0 = (0 : Int32) from rfl), if_neg (fun q : ¬ nI 0 = (0 : Int32) => q rfl)]
    show inR (Option.bind (Option.bind (if ¬ nI 0 = (0 : Int32) then some (up2 σ1 6 7 b) else some (up2 σ1 6 6 b)) _) _) = _
    have f2 : L_X3_foresee_2 FU 1 (up2 σ1 6 6 b) = some σ3 := e3
    rw [if_neg (fun q : ¬ nI 0 = (0 : Int32) => q rfl), Option.bind_some, f2]; rfl
  · have hb' : (1 : Int32).toInt ≤ b.toInt ∧ b.toInt ≤ (999 : Int32).toInt := by
      rcases hb with ⟨h, -⟩ | ⟨-, h⟩
      · omega
      · exact h
    rw [if_neg (show ¬ nI 1 = (0 : Int32) from by decide), if_pos (show nI 1 = (1 : Int32) from rfl), if_pos (show ¬ nI 1 = (0 : Int32) from by decide), s_within]
    simp only [Option.bind_some]
    rw [decide_eq_true hb', if_c1, s1, Option.bind_some]
    unfold F_X3_setting
    rw [if_neg (show ¬ nI 1 = (0 : Int32) from by decide), if_pos (show nI 1 = (1 : Int32) from rfl), if_pos (show ¬ nI 1 = (0 : Int32) from by decide)]
    show inR (Option.bind (Option.bind (if ¬ nI 1 = (0 : Int32) then some (up2 σ1 6 7 b) else some (up2 σ1 6 6 b)) _) _) = _
    have f2 : L_X3_foresee_2 FU 1 (up2 σ1 6 7 b) = some σ3 := e3
    rw [if_pos (show ¬ nI 1 = (0 : Int32) from by decide), Option.bind_some, f2]; rfl
theorem q_pass {a : Int32} (R : RM σ) (ha : 1 ≤ a.toInt ∧ a.toInt ≤ 99) (hl : (zv σ 6 0).toInt + a.toInt ≤ 9999) : ∃ σ', F_X3_pass a σ = some (.inr (sumT (fun c => nI (tw (zv σ 6) c a.toInt)) 15 1 0, σ')) ∧ RM1 σ' ∧ zv σ' 6 = up1 (mvf (tzf (zv σ 6) a.toInt 16) a 16) 0 (zv σ 6 0 + a) := by
  have ht0 := R.1.1.2.2.2.2.1
  have hb : 0 ≤ a.toInt ∧ a.toInt ≤ 9999 := by omega
  obtain ⟨σ1, s1, R1, z1, f1⟩ := q_save R.1.1 R.2
  have C1 : CA σ1 := ⟨by rw [z1]; exact R.1.1, fun c c1 c2 => by rw [z1]; exact (R.1.2 c c1 c2).fr (fun j hj => f1 _ (by omega) (by omega))⟩
  obtain ⟨σ2, p1, p2, p3⟩ := s_pass1 C1 hb
  obtain ⟨σ3, p4, p5, p6⟩ := s_move (σ := σ2) a
  have ez : zv σ3 6 = up1 (mvf (tzf (zv σ 6) a.toInt 16) a 16) 0 (zv σ 6 0 + a) := by
    rw [p5, p2, z1, show tzf (zv σ 6) a.toInt 16 0 = zv σ 6 0 from if_neg (fun q => by omega)]
  have hok : zOK (zv σ3 6) := by
    rw [ez, ← show tzf (zv σ 6) a.toInt 16 0 = zv σ 6 0 from if_neg (fun q => by omega)]
    obtain ⟨o1, o2, o3⟩ := tzf_ok (y := a.toInt) (c := 16) (z := zv σ 6) R.1.1 (by omega)
    refine mv_ok o1 hb ?_
    rw [show tzf (zv σ 6) a.toInt 16 0 = zv σ 6 0 from if_neg (fun q => by omega)]; exact hl
  obtain ⟨σ4, e4, R4, z4, -⟩ := q_fin (σ := σ3) (R.1.ck.fr (fun x hx => (p6 x (by omega)).trans ((p3 x (by omega)).trans (f1 x (by omega) (by omega))))) hok (R1.c ((p6 0 (by omega)).trans (p3 0 (by omega))))
  refine ⟨σ4, ?_, R4, by rw [z4, ez]⟩
  have ha' : (1 : Int32).toInt ≤ a.toInt ∧ a.toInt ≤ (99 : Int32).toInt := ha
  have es : (σ 6 5 + a).toInt = (zv σ 6 0).toInt + a.toInt := fb_addI (by show _ ≤ (zv σ 6 0).toInt + _; omega) (by show (zv σ 6 0).toInt + _ < _; omega)
  have hl' : (σ 6 5 + a) ≤ (9999 : Int32) := by rw [i32_le, es]; exact hl
  unfold F_X3_pass
  rw [s_within, Option.bind_some, decide_eq_true ha', if_c1, if_pos hl']
  unfold F_X3_letPass
  rw [s1, Option.bind_some, p1, Option.bind_some]
  show inR (Option.bind (Option.bind (F_X1_moveOn 6 a σ2) _) _) = _
  rw [p4, Option.bind_some, e4, z1]; rfl
theorem q_swap {i j : Nat} (R : RM σ) (hi : i < 16) (hj : j < 16) : ∃ v σ', F_X3_swap (nI i) (nI j) σ = some (.inr (nI v, σ')) ∧ v ≤ 16 ∧ RM1 σ' ∧ zv σ' 6 = sxA (zv σ 6) i j := by
  obtain ⟨σ1, s1, R1, z1, f1⟩ := q_save R.1.1 R.2
  have C1 : CA σ1 := ⟨by rw [z1]; exact R.1.1, fun c c1 c2 => by rw [z1]; exact (R.1.2 c c1 c2).fr (fun j hj => f1 _ (by omega) (by omega))⟩
  obtain ⟨σ2, w1, w2, w3⟩ := s_won (a := nI i) (b := nI j) C1
  have z2 : zv σ2 6 = zv σ1 6 := zv_cong (fun j k hj => by rw [w2 _ (by omega)])
  obtain ⟨σ3, x1, x2, x3⟩ := s_exchange (σ := σ2) (i := i) (j := j) (by rw [z2]; exact C1.1) hi hj
  obtain ⟨σ4, e4, R4, z4, f4⟩ := q_fin (σ := σ3) (R.1.ck.fr (fun x hx => (x3 x (by omega)).trans ((w2 x (by omega)).trans (f1 x (by omega) (by omega))))) (by rw [x2, z2, z1]; exact sxA_ok R.1.1 hi hj) (R1.c ((x3 0 (by omega)).trans (w2 0 (by omega))))
  have g1 := s_changed (z := zv σ1 6) (a := nI i) (b := nI j) R4.1 (fun c c1 c2 => by rw [f4 3 (by omega), x3 3 (by omega)]; exact w3 c c1 c2)
  refine ⟨fb_ct (swP (zv σ1 6) (zv σ4 6) (nI i) (nI j)) 16, σ4, ?_, fb_ct_le _ 16, R4, by rw [z4, x2, z2, z1]⟩
  have hs : ∀ k, k < 16 → (0 : Int32).toInt ≤ (nI k).toInt ∧ (nI k).toInt ≤ (15 : Int32).toInt := fun k hk => by
    rw [nI_toInt (by omega), show (0 : Int32).toInt = 0 from by decide, show (15 : Int32).toInt = 15 from by decide]; omega
  unfold F_X3_swap
  rw [s_isSlot, s_isSlot]
  simp only [Option.bind_some]
  rw [decide_eq_true (hs i hi), if_b1, decide_eq_true (hs j hj), if_c1, s1, Option.bind_some, w1, Option.bind_some, x1, Option.bind_some, e4, Option.bind_some, g1]; rfl
/-- how many spans there are -/
theorem q_len (h : CA σ) : ∃ len, len ≤ 16 ∧ σ 48 5 = nI len ∧ ch (zv σ 6) 1 len = none ∧ ∀ r, r < len → ∃ w, ch (zv σ 6) 1 r = some w := by
  obtain ⟨len, hle, hR, hend⟩ := h.2 1 (by omega) (by omega)
  exact ⟨len, hle, hR.2.2.1, hend, fun r hr => by obtain ⟨w, e, -⟩ := hR.2.2.2 r hr; exact ⟨w, e⟩⟩
theorem q_span {r k len : Nat} (h : CA σ) (hlen : len ≤ 16) (hl : σ 48 5 = nI len) (hr : r < len) (hk : k ≤ 2) : F_X3_span (nI r) (nI k) σ = some (.inr (spS (zv σ 6) r k)) := by
  have hC := h.2 1 (by omega) (by omega)
  have hb : (0 : Int32).toInt ≤ (nI k).toInt ∧ (nI k).toInt ≤ (2 : Int32).toInt := by
    rw [nI_toInt (by omega), show (0 : Int32).toInt = 0 from by decide, show (2 : Int32).toInt = 2 from by decide]; omega
  unfold F_X3_span
  rw [if_neg (nI_pos (by omega)), s_within, Option.bind_some, decide_eq_true hb, if_c1, hl, if_pos ((nI_lt_iff (by omega) (by omega)).mpr hr)]
  rcases lt3 hk with rfl | rfl | rfl
  · rw [if_neg (by decide), show F_X0_winnerIn 48 (nI r) σ = _ from s_winnerIn hC (by omega)]; rfl
  · rw [if_pos (by decide), if_neg (by decide), show F_X0_numerator 48 (nI r) (σ 6 5) σ = _ from s_num hC (by omega) _]; rfl
  · rw [if_pos (by decide), if_pos (by decide), show F_X0_denominator 48 (nI r) σ = _ from s_den hC (by omega)]; rfl
theorem q_spanE {len : Nat} (hlen : len ≤ 16) (hl : σ 48 5 = nI len) : F_X3_span (nI len) (nI 0) σ = some (.inr (-1)) := by
  have hb : (0 : Int32).toInt ≤ (nI 0).toInt ∧ (nI 0).toInt ≤ (2 : Int32).toInt := by decide
  unfold F_X3_span
  rw [if_neg (nI_pos (by omega)), s_within, Option.bind_some, decide_eq_true hb, if_c1, hl, if_neg (fun q => absurd ((nI_lt_iff (by omega) (by omega)).mp q) (by omega))]; rfl
def cnS (z : Zf) (len : Nat) (k : Nat) : Int32 := if k = 0 then z 0 else if k = 1 then nI (fb_ct (tk z) 16) else if k = 2 then nI len else if k = 3 then sumT (fun c => z (3 + c)) 15 1 0 else if k = 4 then z 4 else nI (fb_ct (tk z) 16) - nI len
theorem q_count {k len : Nat} (h : CA σ) (hl : σ 48 5 = nI len) (hk : k ≤ 5) : F_X3_count (nI k) σ = some (.inr (cnS (zv σ 6) len k)) := by
  unfold F_X3_count
  rw [hl, s_movers h.1, s_allTurned, show F_X1_turnedOf 6 (1 : Int32) σ = _ from s_turnedOf (c := 1) (by omega) (by omega)]
  rcases lt7 (show k ≤ 6 by omega) with rfl | rfl | rfl | rfl | rfl | rfl | rfl
  · rw [if_pos (by decide)]; rfl
  · rw [if_neg (by decide), if_pos (by decide)]; rfl
  · rw [if_neg (by decide), if_neg (by decide), if_pos (by decide)]; rfl
  · rw [if_neg (by decide), if_neg (by decide), if_neg (by decide), if_pos (by decide)]; rfl
  · rw [if_neg (by decide), if_neg (by decide), if_neg (by decide), if_neg (by decide), if_pos (by decide)]; rfl
  · rw [if_neg (by decide), if_neg (by decide), if_neg (by decide), if_neg (by decide), if_neg (by decide), if_pos (by decide)]; rfl
  · omega
theorem q_count6 (R : Rn1 σ) : ∃ s, 1 ≤ s ∧ s ≤ 6 ∧ F_X3_count 6 σ = some (.inr (nI s)) := by
  obtain ⟨o, s, -, a, b, -, d⟩ := R
  refine ⟨s, a, b, ?_⟩
  unfold F_X3_count
  rw [if_neg (by decide), if_neg (by decide), if_neg (by decide), if_neg (by decide), if_neg (by decide), if_neg (by decide), if_pos (by decide), d]; rfl
theorem q_setting {k : Nat} (hk : k ≤ 1) : F_X3_setting (nI k) σ = some (.inr (zv σ 6 (1 + k))) := by
  unfold F_X3_setting
  rcases lt2 hk with rfl | rfl
  · rw [if_pos (by decide), if_neg (by decide)]; rfl
  · rw [if_neg (by decide), if_pos (by decide), if_pos (by decide)]; rfl
theorem q_turnsIn {x : Int32} (h : CA σ) (hx : 0 ≤ x.toInt ∧ x.toInt ≤ 999) : F_X3_turnsIn x σ = some (.inr (sumT (fun c => nI (tw (zv σ 6) c x.toInt)) 15 1 0)) := by
  have hx' : (0 : Int32).toInt ≤ x.toInt ∧ x.toInt ≤ (999 : Int32).toInt := hx
  unfold F_X3_turnsIn
  rw [s_within, Option.bind_some, decide_eq_true hx', if_c1]
  have := s_turnsIn (σ := σ) (x := x) h (by omega) 15 1 FU 0 (by omega) (by omega) (by decide)
  rw [show (nI 1 : Int32) = 1 from rfl] at this
  rw [this]; rfl
end QM
