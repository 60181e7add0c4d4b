/-! one action, on the class and on the law's movers -/
theorem l_at (a : Int32) {n : Nat} (h0 : 0 < n) (hn : n < 2 ^ 31) : ∃ k, k < n ∧ F_L_at a (nI n) = some (nI k) := by
  have e : (a.toUInt32 >>> ((1 : Int32).toUInt32 &&& Int32.toUInt32 31)).toInt32 = nI (a.toUInt32.toNat / 2) := by
    have h1 : (a.toUInt32 >>> ((1 : Int32).toUInt32 &&& Int32.toUInt32 31)).toNat = a.toUInt32.toNat / 2 := by
      rw [show ((1 : Int32).toUInt32 &&& Int32.toUInt32 31) = 1 from by decide, UInt32.toNat_shiftRight]
      show a.toUInt32.toNat >>> (1 % 32) = _
      rw [Nat.shiftRight_eq_div_pow]
    have hlt := a.toUInt32.toNat_lt
    rw [← h1]
    apply Int32.toBitVec_inj.1
    apply BitVec.eq_of_toNat_eq
    show (a.toUInt32 >>> ((1 : Int32).toUInt32 &&& Int32.toUInt32 31)).toNat = (BitVec.ofNat 32 _).toNat
    rw [BitVec.toNat_ofNat, Nat.mod_eq_of_lt]
    rw [h1]; omega
  have hlt := a.toUInt32.toNat_lt
  refine ⟨a.toUInt32.toNat / 2 % n, Nat.mod_lt _ h0, ?_⟩
  unfold F_L_at
  rw [if_pos (nI_ne0 h0 hn), e, pk_rem (by omega) h0 hn]
def fsE : Option Nat → Int32
  | none => 16
  | some i => nI i
section AC9
variable {σ μ : Mem} {lam : MemL}
theorem l_free (hz : zOK (lz μ)) (V S : Int32) : ∀ (m k fu : Nat), k + m = 16 → m < fu → L_L_act_102 V S (σ, (μ, lam)) fu (nI k) = some (fsE (fsl (lz μ) m k)) := by
  intro m
  induction m with
  | zero =>
    intro k fu hk hf
    obtain ⟨fu, rfl⟩ : ∃ g, fu = g + 1 := ⟨fu - 1, by omega⟩
    rw [L_L_act_102, show k = 16 by omega, if_pos e16]; rfl
  | succ m ih =>
    intro k fu hk hf
    obtain ⟨fu, rfl⟩ : ∃ g, fu = g + 1 := ⟨fu - 1, by omega⟩
    have hk16 : k < 16 := by omega
    rw [L_L_act_102, if_neg (d16 hk16), if_pos (x4 hk16).1]
    simp only [(x4 hk16).2]
    rw [lz_tk hz hk16, fsl]
    cases ht : tk (lz μ) k with
    | false => rw [if_pos (show ¬ b2i false = (1 : Int32) by decide)]; rfl
    | true =>
      rw [if_neg (show ¬ ¬ b2i true = (1 : Int32) from fun q => q rfl), nI_1, ih (k + 1) fu (by omega) (by omega)]; rfl
def swm (μ : Mem) (i j e : Nat) : Mem := up2 (up2 μ 1 (4 * i + e) (μ 1 (4 * j + e))) 1 (4 * j + e) (μ 1 (4 * i + e))
theorem lz_swm (μ : Mem) {i j e : Nat} (hi : i < 16) (hj : j < 16) (he : e < 4) : lz (swm μ i j e) = sx (lz μ) i j e := by
  unfold swm sx
  rw [lz_upS _ hj he, lz_upS _ hi he, lz_s μ hi he, lz_s μ hj he]
theorem l_swap4 {i j : Nat} (hi : i < 16) (hj : j < 16) (fu : Nat) : ∃ μ', L_L_act_332 (nI i) (nI j) (fu + 5) (0 : Int32) (σ, (μ, lam)) = some (σ, (μ', lam)) ∧ lz μ' = sxA (lz μ) i j := by
  have st : ∀ (e g : Nat) (μ1 : Mem), e < 4 → L_L_act_332 (nI i) (nI j) (g + 1) (nI e) (σ, (μ1, lam)) = L_L_act_332 (nI i) (nI j) g (nI (e + 1)) (σ, (swm μ1 i j e, lam)) := fun e g μ1 he => by
    rw [L_L_act_332, if_neg (fun q : (4 : Int32) ≤ nI e => absurd ((nI_le_iff (a := 4) (by omega) (by omega)).mp q) (by omega)), if_pos (x4j hi he).1, if_pos (x4j hj he).1, if_pos (x4j hi he).1, if_pos (x4j hj he).1, nI_1]
    simp only [(x4j hi he).2, (x4j hj he).2]
    rfl
  refine ⟨swm (swm (swm (swm μ i j 0) i j 1) i j 2) i j 3, ?_, ?_⟩
  · have s0 := st 0 (fu + 4) μ (by omega)
    have s1 := st 1 (fu + 3) (swm μ i j 0) (by omega)
    have s2 := st 2 (fu + 2) (swm (swm μ i j 0) i j 1) (by omega)
    have s3 := st 3 (fu + 1) (swm (swm (swm μ i j 0) i j 1) i j 2) (by omega)
    rw [show (0 : Int32) = nI 0 from rfl, s0, s1, s2, s3, L_L_act_332, if_pos (show (4 : Int32) ≤ nI (3 + 1) by decide)]
  · unfold sxA
    rw [lz_swm _ hi hj (by omega), lz_swm _ hi hj (by omega), lz_swm _ hi hj (by omega), lz_swm _ hi hj (by omega)]
theorem l_zero4 {i : Nat} (hi : i < 16) (w : Int32) (fu : Nat) : ∃ μ', L_L_act_564 (nI i) w (fu + 5) (0 : Int32) (σ, (μ, lam)) = some (σ, (μ', lam)) ∧ lz μ' = putZ (lz μ) i 0 0 0 0 := by
  have st : ∀ (e g : Nat) (μ1 : Mem), e < 4 → L_L_act_564 (nI i) w (g + 1) (nI e) (σ, (μ1, lam)) = L_L_act_564 (nI i) w g (nI (e + 1)) (σ, (up2 μ1 1 (4 * i + e) 0, lam)) := fun e g μ1 he => by
    rw [L_L_act_564, if_neg (fun q : (4 : Int32) ≤ nI e => absurd ((nI_le_iff (a := 4) (by omega) (by omega)).mp q) (by omega)), if_pos (x4j hi he).1, nI_1]
    simp only [(x4j hi he).2]
  refine ⟨up2 (up2 (up2 (up2 μ 1 (4 * i + 0) 0) 1 (4 * i + 1) 0) 1 (4 * i + 2) 0) 1 (4 * i + 3) 0, ?_, ?_⟩
  · have s0 := st 0 (fu + 4) μ (by omega)
    have s1 := st 1 (fu + 3) (up2 μ 1 (4 * i + 0) 0) (by omega)
    have s2 := st 2 (fu + 2) (up2 (up2 μ 1 (4 * i + 0) 0) 1 (4 * i + 1) 0) (by omega)
    have s3 := st 3 (fu + 1) (up2 (up2 (up2 μ 1 (4 * i + 0) 0) 1 (4 * i + 1) 0) 1 (4 * i + 2) 0) (by omega)
    rw [show L_L_act_564 (nI i) w (fu + 5) (0 : Int32) (σ, (μ, lam)) = L_L_act_564 (nI i) w (fu + 4 + 1) (nI 0) (σ, (μ, lam)) from rfl, s0, s1, s2, s3, L_L_act_564, if_pos (show (4 : Int32) ≤ nI (3 + 1) by decide)]
  · unfold putZ
    rw [lz_upS _ hi (by omega), lz_upS _ hi (by omega), lz_upS _ hi (by omega), lz_upS _ hi (by omega)]
theorem putZ_0 {z : Zf} {i : Nat} {a b c d : Int32} : putZ z i a b c d 0 = z 0 := by
  unfold putZ up1; rw [if_neg (by omega), if_neg (by omega), if_neg (by omega), if_neg (by omega)]
theorem putZ_v {z : Zf} {i k : Nat} {a b c d : Int32} (h : k ≠ i) : putZ z i a b c d (20 + 4 * k + 1) = z (20 + 4 * k + 1) := by
  unfold putZ up1; rw [if_neg (by omega), if_neg (by omega), if_neg (by omega), if_neg (by omega)]
theorem putZ_i {z : Zf} {i : Nat} {a b c d : Int32} : putZ z i a b c d (20 + 4 * i + 1) = b := by
  unfold putZ up1; rw [if_neg (by omega), if_neg (by omega), if_pos rfl]
theorem Bd.put {T : Nat} {z : Zf} {i : Nat} {a b c d : Int32} (h : Bd T z) (hb : -9999 ≤ b.toInt ∧ b.toInt ≤ 9999) : Bd (T + 1) (putZ z i a b c d) :=
  h.row (i := i) putZ_0 (fun k _ hk => putZ_v hk) (by rw [putZ_i]; omega)
theorem Bd.spd {T : Nat} {z : Zf} {x : Nat} {b : Int32} (h : Bd T z) (h0 : x ≠ 0) (h1 : ∀ k, k < 16 → x ≠ 20 + 4 * k + 1) : Bd (T + 1) (up1 z x b) := by
  have e : ∀ y, y ≠ x → up1 z x b y = z y := fun y hy => if_neg hy
  refine ⟨by rw [e 0 (Ne.symm h0)]; have := h.1; omega, fun k hk => ?_⟩
  have := h.2 k hk
  unfold vv at this ⊢
  rw [e _ (Ne.symm (h1 k hk))]; omega
theorem Bd.swp {T : Nat} {z : Zf} {i j : Nat} (h : Bd T z) (hi : i < 16) (hj : j < 16) : Bd (T + 1) (sxA z i j) := by
  refine ⟨?_, fun k hk => ?_⟩
  · have : sxA z i j 0 = z 0 := by unfold sxA; rw [sx_lo (by omega), sx_lo (by omega), sx_lo (by omega), sx_lo (by omega)]
    rw [this]; have := h.1; omega
  · have hp : pi i j k < 16 := by
      unfold pi
      by_cases q : k = j
      · rw [if_pos q]; exact hi
      · rw [if_neg q]
        by_cases q2 : k = i
        · rw [if_pos q2]; exact hj
        · rw [if_neg q2]; exact hk
    have := h.2 _ hp
    unfold vv at this ⊢
    rw [sxA_at (by omega)]; omega
/-- what an action comes to -/
def ActR (σ μ : Mem) (T t : Nat) (r : Option (Int32 × LM)) : Prop := ∃ σ' μ' lam', r = some ((1 : Int32), (σ', (μ', lam'))) ∧ RM σ' ∧ zv σ' 6 = lz μ' ∧ Bd (T + 1) (lz μ') ∧ (RM1 σ → RM1 σ') ∧ (t < 5 → fsl (lz μ) 16 0 ≠ none → RM1 σ')
theorem ActR.one {T t : Nat} {r : Option (Int32 × LM)} {σ' μ' : Mem} {lam' : MemL} (h : r = some ((1 : Int32), (σ', (μ', lam')))) (R : RM1 σ') (hz : zv σ' 6 = lz μ') (hB : Bd (T + 1) (lz μ')) : ActR σ μ T t r := ⟨σ', μ', lam', h, R.m, hz, hB, fun _ => R, fun _ _ => R⟩
theorem ActR.stay {T t : Nat} {r : Option (Int32 × LM)} (h : r = some ((1 : Int32), (σ, (μ, lam)))) (R : RM σ) (hz : zv σ 6 = lz μ) (hB : Bd T (lz μ)) (hn : ¬ (t < 5 ∧ fsl (lz μ) 16 0 ≠ none)) : ActR σ μ T t r := ⟨σ, μ, lam, h, R, hz, hB.up, fun R1 => R1, fun a b => (hn ⟨a, b⟩).elim⟩
set_option maxHeartbeats 2000000 in
theorem l_act (R : RM σ) (hzv : zv σ 6 = lz μ) {T : Nat} (hB : Bd T (lz μ)) (hT : T < 40) {t : Nat} (ht : t < 14) (x y : Int32) : ActR σ μ T t (F_L_act (nI t) x y (σ, (μ, lam))) := by
  have hz : zOK (lz μ) := by rw [← hzv]; exact R.1.1
  obtain ⟨k, hk, e3⟩ := l_at x (n := 16) (by omega) (by omega)
  obtain ⟨i4, hi4, e13⟩ := l_at (x >>> ((4 : Int32) &&& 31)) (n := 3) (by omega) (by omega)
  obtain ⟨i5, hi5, e58⟩ := l_at (x >>> ((5 : Int32) &&& 31)) (n := 3) (by omega) (by omega)
  have e3 : F_L_at x (16 : Int32) = some (nI k) := e3
  have e13 : F_L_at (x >>> ((4 : Int32) &&& 31)) (3 : Int32) = some (nI i4) := e13
  have e58 : F_L_at (x >>> ((5 : Int32) &&& 31)) (3 : Int32) = some (nI i5) := e58
  obtain ⟨n16, n37, j27, h16, h37, h27, hV⟩ : ∃ n16 n37 j : Nat, (if ¬ nI i4 = 0 then some (60 : Int32) else some (19999 : Int32)) = some (nI n16) ∧ (if ¬ nI i4 = 0 then some (30 : Int32) else some (9999 : Int32)) = some (nI n37) ∧ F_L_at y (nI n16) = some (nI j) ∧ (-9999 ≤ (nI j - nI n37).toInt ∧ (nI j - nI n37).toInt ≤ 9999) := by
    by_cases h : i4 = 0
    · obtain ⟨j, hj, ej⟩ := l_at y (n := 19999) (by omega) (by omega)
      subst h
      exact ⟨19999, 9999, j, if_neg (fun q => q rfl), if_neg (fun q => q rfl), ej, by rw [pk_sub_toInt (by omega) (by omega)]; omega⟩
    · obtain ⟨j, hj, ej⟩ := l_at y (n := 60) (by omega) (by omega)
      have : ¬ nI i4 = 0 := nI_ne0 (by omega) (by omega)
      exact ⟨60, 30, j, if_pos this, if_pos this, ej, by rw [pk_sub_toInt (by omega) (by omega)]; omega⟩
  obtain ⟨n61, n82, j72, h61, h82, h72, hS⟩ : ∃ n61 n82 j : Nat, (if ¬ nI i5 = 0 then some (11 : Int32) else some (199 : Int32)) = some (nI n61) ∧ (if ¬ nI i5 = 0 then some (5 : Int32) else some (99 : Int32)) = some (nI n82) ∧ F_L_at (y >>> ((5 : Int32) &&& 31)) (nI n61) = some (nI j) ∧ (-99 ≤ (nI j - nI n82).toInt ∧ (nI j - nI n82).toInt ≤ 99) := by
    by_cases h : i5 = 0
    · obtain ⟨j, hj, ej⟩ := l_at (y >>> ((5 : Int32) &&& 31)) (n := 199) (by omega) (by omega)
      subst h
      exact ⟨199, 99, j, if_neg (fun q => q rfl), if_neg (fun q => q rfl), ej, by rw [pk_sub_toInt (by omega) (by omega)]; omega⟩
    · obtain ⟨j, hj, ej⟩ := l_at (y >>> ((5 : Int32) &&& 31)) (n := 11) (by omega) (by omega)
      have : ¬ nI i5 = 0 := nI_ne0 (by omega) (by omega)
      exact ⟨11, 5, j, if_pos this, if_pos this, ej, by rw [pk_sub_toInt (by omega) (by omega)]; omega⟩
  have kx := x4 hk
  have kx1 := x41 hk
  have kx2 := x42 hk
  have vk : μ 1 (4 * k + 1) = lz μ (20 + 4 * k + 1) := (lz_s μ hk (j := 1) (by omega)).symm
  have sk : μ 1 (4 * k + 2) = lz μ (20 + 4 * k + 2) := (lz_s μ hk (j := 2) (by omega)).symm
  have bk := hB.2 k hk
  unfold F_L_act
  rw [e3, Option.bind_some, e13, Option.bind_some, h16, Option.bind_some, h27, Option.bind_some, Option.bind_some, h37, Option.bind_some, e58, Option.bind_some, h61, Option.bind_some, h72, Option.bind_some, Option.bind_some, h82, Option.bind_some]
  generalize nI j27 - nI n37 = V at hV ⊢
  generalize nI j72 - nI n82 = S at hS ⊢
  have le : ∀ n : Nat, n < 2 ^ 31 → ((nI n ≤ nI t) ↔ n ≤ t) := fun n hn => nI_le_iff hn (by omega)
  have l5 : ((5 : Int32) ≤ nI t) ↔ 5 ≤ t := le 5 (by omega)
  have l8 : ((8 : Int32) ≤ nI t) ↔ 8 ≤ t := le 8 (by omega)
  have l12 : ((12 : Int32) ≤ nI t) ↔ 12 ≤ t := le 12 (by omega)
  have q8 : nI t = (8 : Int32) ↔ t = 8 := nI_eq_iff (by omega) (by omega : (8 : Nat) < 2 ^ 31)
  have q9 : nI t = (9 : Int32) ↔ t = 9 := nI_eq_iff (by omega) (by omega : (9 : Nat) < 2 ^ 31)
  have q12 : nI t = (12 : Int32) ↔ t = 12 := nI_eq_iff (by omega) (by omega : (12 : Nat) < 2 ^ 31)
  by_cases t5 : t < 5
  · rw [if_neg (fun q => by have := l5.mp q; omega)]
    have ef := l_free (σ := σ) (lam := lam) hz V S 16 0 FU (by omega) (by decide)
    have ef : L_L_act_102 V S (σ, (μ, lam)) FU (0 : Int32) = some (fsE (fsl (lz μ) 16 0)) := ef
    rw [ef, Option.bind_some]
    cases hf : fsl (lz μ) 16 0 with
    | none =>
      rw [if_neg (show ¬ ¬ fsE none = (16 : Int32) from fun q => q rfl)]
      exact ActR.stay rfl R hzv hB (fun q => q.2 hf)
    | some i =>
      obtain ⟨-, hi, -⟩ := fsl_some 16 0 i hf
      have hi : i < 16 := by omega
      have hne : ¬ fsE (some i) = (16 : Int32) := fun q => by
        have := (nI_eq_iff (show i < 2 ^ 31 by omega) (show (16 : Nat) < 2 ^ 31 by omega)).mp q; omega
      obtain ⟨σ', s1, s2, s3⟩ := q_add (a := V) (b := S) R hV hS (by rw [hzv]; exact hf)
      rw [if_pos hne]
      show ActR σ μ T t (if inb ((4 : Int32) * nI i) 64 then _ else _)
      rw [if_pos (x4 hi).1]
      show ActR σ μ T t (if inb (((4 : Int32) * nI i) + (1 : Int32)) 64 then (if inb (((4 : Int32) * nI i) + (2 : Int32)) 64 then (if inb (((4 : Int32) * nI i) + (3 : Int32)) 64 then _ else _) else _) else _)
      rw [if_pos (x41 hi).1, if_pos (x42 hi).1, if_pos (x43 hi).1, s1, oR_inr, if_neg (show ¬ ¬ nI i = fsE (some i) from fun q => q rfl)]
      have em : lz (up2 (up2 (up2 (up2 μ 1 (4 * i) 1) 1 (4 * i + 1) V) 1 (4 * i + 2) S) 1 (4 * i + 3) (μ 0 0)) = putZ (lz μ) i 1 V S (lz μ 0) := by
        unfold putZ
        rw [lz_upS _ hi (by omega), lz_upS _ hi (by omega), lz_upS _ hi (by omega), lz_up1 _ (by omega), lz_lo μ (by omega)]
        rfl
      refine ActR.one (μ' := up2 (up2 (up2 (up2 μ 1 (4 * i) 1) 1 (4 * i + 1) V) 1 (4 * i + 2) S) 1 (4 * i + 3) (μ 0 0)) (lam' := lam) ?_ s2 (by rw [s3, hzv, em]) (by rw [em]; exact hB.put hV)
      show some ((1 : Int32), (σ', (up2 (up2 (up2 (up2 μ 1 (((4 : Int32) * nI i).toNatClampNeg) 1) 1 ((((4 : Int32) * nI i) + (1 : Int32)).toNatClampNeg) V) 1 ((((4 : Int32) * nI i) + (2 : Int32)).toNatClampNeg) S) 1 ((((4 : Int32) * nI i) + (3 : Int32)).toNatClampNeg) ((up2 (up2 (up2 μ 1 (((4 : Int32) * nI i).toNatClampNeg) 1) 1 ((((4 : Int32) * nI i) + (1 : Int32)).toNatClampNeg) V) 1 ((((4 : Int32) * nI i) + (2 : Int32)).toNatClampNeg) S) 0 0), lam))) = _
      rw [(x4 hi).2, (x41 hi).2, (x42 hi).2, (x43 hi).2, up2_ne _ (by omega : (0 : Nat) ≠ 1), up2_ne _ (by omega : (0 : Nat) ≠ 1), up2_ne _ (by omega : (0 : Nat) ≠ 1)]
  rw [if_pos (l5.mpr (by omega))]
  by_cases t8 : t < 8
  · rw [if_neg (fun q => by have := l8.mp q; omega)]
    obtain ⟨i, hi, e1⟩ := l_at x (n := 3) (by omega) (by omega)
    have e1 : F_L_at x (3 : Int32) = some (nI i) := e1
    obtain ⟨n, j, e2, e4, hj⟩ : ∃ n j : Nat, (if ¬ nI i = 0 then some (6 : Int32) else some (99 : Int32)) = some (nI n) ∧ F_L_at y (nI n) = some (nI j) ∧ j < 99 := by
      by_cases h : i = 0
      · obtain ⟨j, hj, ej⟩ := l_at y (n := 99) (by omega) (by omega)
        subst h
        exact ⟨99, j, if_neg (fun q => q rfl), ej, hj⟩
      · obtain ⟨j, hj, ej⟩ := l_at y (n := 6) (by omega) (by omega)
        exact ⟨6, j, if_pos (nI_ne0 (by omega) (by omega)), ej, by omega⟩
    have eb : (1 : Int32) + nI j = nI (1 + j) := nI_add 1 j
    have hb : 1 ≤ (nI (1 + j)).toInt ∧ (nI (1 + j)).toInt ≤ 99 := by rw [nI_toInt (by omega)]; omega
    obtain ⟨σ', μ', lam', s1, s2, s3, s4⟩ := l_passes R hzv lam hb (by have := hB.1; omega)
    rw [e1, Option.bind_some, e2, Option.bind_some, e4, Option.bind_some, eb, s1, Option.bind_some]
    exact ActR.one rfl s2 s3 (by rw [s4]; exact hB.pass hz hT hb)
  rw [if_pos (l8.mpr (by omega))]
  by_cases t8' : t = 8
  · rw [if_neg (fun q => q (q8.mpr t8'))]
    obtain ⟨i, hi, e1⟩ := l_at (x >>> ((6 : Int32) &&& 31)) (n := 2) (by omega) (by omega)
    have e1 : F_L_at (x >>> ((6 : Int32) &&& 31)) (2 : Int32) = some (nI i) := e1
    have ei : (1 : Int32) + nI i = nI (1 + i) := nI_add 1 i
    have ii : inb (nI (1 + i)) 19 = true := inb_nI (by omega) (by decide)
    obtain ⟨b, e2, hb⟩ : ∃ b : Int32, (if ¬ nI i = 0 then Option.bind (F_L_at y (999 : Int32)) (fun r286 => some ((1 : Int32) + r286)) else Option.bind (F_L_at y (2 : Int32)) (fun r275 => some r275)) = some b ∧ ((i = 0 ∧ (b = 0 ∨ b = 1)) ∨ (i = 1 ∧ 1 ≤ b.toInt ∧ b.toInt ≤ 999)) := by
      by_cases h : i = 0
      · subst h
        obtain ⟨j, hj, ej⟩ := l_at y (n := 2) (by omega) (by omega)
        have ej : F_L_at y (2 : Int32) = some (nI j) := ej
        refine ⟨nI j, by rw [if_neg (fun q => q rfl), ej]; rfl, Or.inl ⟨rfl, ?_⟩⟩
        rcases (show j = 0 ∨ j = 1 by omega) with rfl | rfl
        · exact Or.inl rfl
        · exact Or.inr rfl
      · obtain ⟨j, hj, ej⟩ := l_at y (n := 999) (by omega) (by omega)
        have ej : F_L_at y (999 : Int32) = some (nI j) := ej
        refine ⟨nI (1 + j), by rw [if_pos (nI_ne0 (by omega) (by omega)), ej, Option.bind_some, show (1 : Int32) + nI j = nI (1 + j) from nI_add 1 j], Or.inr ⟨by omega, ?_⟩⟩
        rw [nI_toInt (by omega)]; omega
    obtain ⟨σ', s1, s2, s3⟩ := q_set (k := i) (b := b) R hb
    have em : lz (up2 μ 0 (1 + i) b) = up1 (lz μ) (1 + i) b := lz_up0 μ (by omega) (by omega)
    rw [e1, Option.bind_some, ei, if_pos ii, e2, Option.bind_some, if_pos ii, if_pos ii, nI_clamp (show 1 + i < 2 ^ 31 by omega)]
    show ActR σ μ T t (oR (F_X3_set (nI i) ((up2 μ 0 (1 + i) b) 0 (1 + i)) σ) _)
    rw [up2_at, s1, oR_inr]
    show ActR σ μ T t (if ¬ zv σ 6 (1 + i) = μ 0 (1 + i) then _ else _)
    rw [if_neg (fun q => q (by rw [hzv, lz_lo μ (by omega)]))]
    exact ActR.one rfl s2 (by rw [s3, hzv, em]) (by rw [em]; exact hB.spd (by omega) (fun k hk => by omega))
  rw [if_pos (fun q => t8' (q8.mp q))]
  by_cases t9 : t = 9
  · rw [if_neg (fun q => q (q9.mpr t9))]
    obtain ⟨j, hj, e1⟩ := l_at y (n := 16) (by omega) (by omega)
    have e1 : F_L_at y (16 : Int32) = some (nI j) := e1
    obtain ⟨μ', s4, s5⟩ := l_swap4 (σ := σ) (μ := μ) (lam := lam) hk hj 995
    have s4 : L_L_act_332 (nI k) (nI j) FU (0 : Int32) (σ, (μ, lam)) = some (σ, (μ', lam)) := s4
    obtain ⟨v, σ', s1, hv, s2, s3⟩ := q_swap (i := k) (j := j) R hk hj
    rw [e1, Option.bind_some, s4, Option.bind_some]
    show ActR σ μ T t (oR (F_X3_swap (nI k) (nI j) σ) _)
    rw [s1, oR_inr]
    obtain ⟨u, e2, hu⟩ : ∃ u : Int32, (if ¬ nI k = nI j then some (-1 : Int32) else some (0 : Int32)) = some u ∧ u.toInt ≤ 0 := by
      by_cases h : nI k = nI j
      · exact ⟨0, if_neg (fun q => q h), by decide⟩
      · exact ⟨-1, if_pos h, by decide⟩
    rw [e2, Option.bind_some]
    show ActR σ μ T t (if nI v < u then _ else _)
    rw [if_neg (fun q => by rw [i32_lt, nI_toInt (by omega)] at q; omega)]
    exact ActR.one rfl s2 (by rw [s3, hzv, s5]) (by rw [s5]; exact hB.swp hk hj)
  rw [if_pos (fun q => t9 (q9.mp q)), if_pos kx.1]
  simp only [kx.2, kx1.1, kx1.2, kx2.1, kx2.2, if_true]
  rw [lz_tk hz hk]
  by_cases htk : tk (lz μ) k = true
  rotate_left
  · have htk : tk (lz μ) k = false := by simpa using htk
    rw [htk, if_neg (fun q : ¬ b2i false = 0 => q rfl)]
    exact ActR.stay rfl R hzv hB (fun q => by omega)
  rw [htk, if_pos (show ¬ b2i true = 0 by decide)]
  have hzk : tk (zv σ 6) k = true := by rw [hzv]; exact htk
  by_cases t12 : t < 12
  · rw [if_neg (fun q => by have := l12.mp q; omega)]
    obtain ⟨σ', s1, s2, s3⟩ := q_speed (b := S) R hk hzk hS
    have em : lz (up2 μ 1 (4 * k + 2) S) = up1 (lz μ) (20 + 4 * k + 2) S := lz_upS μ hk (by omega)
    rw [s1, oR_inr, hzv, sk, if_neg (fun q => q rfl)]
    exact ActR.one rfl s2 (by rw [s3, hzv, em]) (by rw [em]; exact hB.spd (by omega) (fun k hk => by omega))
  rw [if_pos (l12.mpr (by omega))]
  by_cases t12' : t = 12
  · rw [if_neg (fun q => q (q12.mpr t12'))]
    have es : (lz μ (20 + 4 * k + 1) + V).toInt = vv (lz μ) k + V.toInt := fb_addI (by show _ ≤ vv (lz μ) k + _; omega) (by show vv (lz μ) k + _ < _; omega)
    obtain ⟨σ', s1, s2, s3⟩ := q_jump (b := V) R hk hzk hV (by rw [hzv, es]; omega)
    have em : lz (up2 μ 1 (4 * k + 1) (lz μ (20 + 4 * k + 1) + V)) = up1 (lz μ) (20 + 4 * k + 1) (lz μ (20 + 4 * k + 1) + V) := lz_upS μ hk (by omega)
    rw [vk]
    rw [up2_at]
    rw [if_neg (fun q => by
      rw [i32_le, es] at q
      have : (-1000000 : Int32).toInt = -1000000 := by decide
      omega), if_neg (fun q => by
      rw [i32_le, es] at q
      have : (1000000 : Int32).toInt = 1000000 := by decide
      omega), s1, oR_inr, hzv, if_neg (fun q => q rfl)]
    refine ActR.one rfl s2 (by rw [s3, hzv, em]) ?_
    rw [em]
    refine hB.row (i := k) (if_neg (by omega)) (fun k' _ hk' => if_neg (by omega)) ?_
    rw [show up1 (lz μ) (20 + 4 * k + 1) (lz μ (20 + 4 * k + 1) + V) (20 + 4 * k + 1) = lz μ (20 + 4 * k + 1) + V from if_pos rfl, es]
    omega
  · rw [if_pos (fun q => t12' (q12.mp q))]
    obtain ⟨μ', s4, s5⟩ := l_zero4 (σ := σ) (μ := μ) (lam := lam) hk (μ 1 (4 * k + 1)) 995
    have s4 : L_L_act_564 (nI k) (μ 1 (4 * k + 1)) FU (0 : Int32) (σ, (μ, lam)) = some (σ, (μ', lam)) := s4
    obtain ⟨σ', s1, s2, s3⟩ := q_remove R hk hzk
    rw [s4, Option.bind_some]
    show ActR σ μ T t (oR (F_X3_remove (nI k) σ) _)
    rw [s1, oR_inr]
    show ActR σ μ T t (if ¬ zv σ 6 (20 + 4 * k + 1) = μ 1 (4 * k + 1) then _ else _)
    rw [if_neg (fun q => q (by rw [hzv, vk]))]
    exact ActR.one rfl s2 (by rw [s3, hzv, s5]) (by rw [s5]; exact hB.put (by decide))
end AC9
