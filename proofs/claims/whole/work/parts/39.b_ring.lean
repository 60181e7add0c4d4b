/-! saved states on both sides: save and undo -/
def RS (σ : Mem) (τ : Mem × Int64) : Prop := zv σ 6 = mz τ ∧ zOK (zv σ 6) ∧ CK σ ∧ Rg σ τ ∧ Tx σ τ
theorem Rel.rs {σ : Mem} {τ : Mem × Int64} (h : Rel σ τ) : RS σ τ := ⟨h.1, h.2.1.1, h.2.1.ck, h.2.2.1, h.2.2.2⟩
theorem RS.k5 {σ : Mem} {τ τ' : Mem × Int64} (K : Keep5 τ τ') (h : RS σ τ) : RS σ τ' := by
  obtain ⟨k1, k2, k3, k4, k5⟩ := K
  obtain ⟨a, b, c, ⟨o, s, o1, s1, r1, r2, r3, r4⟩, ⟨L, l1, l2, l3, l4⟩⟩ := h
  have e : ∀ k, mrow τ' k = mrow τ k := fun k => by funext x; unfold mrow; rw [k2]
  refine ⟨a.trans (mz_cong k1).symm, b, c, ⟨o, s, o1, s1, r1, r2, by rw [k4]; exact r3, fun k hk => ?_⟩, ⟨L, l1, l2, by rw [k5]; exact l3, fun i hi => ?_⟩⟩
  · rw [e]; exact r4 k hk
  · rw [k3]; exact l4 i hi
theorem RS.mod {σ σ' : Mem} {τ τ' : Mem × Int64} (h : RS σ τ) (hs : ∀ x, x < 6 ∨ 12 ≤ x → σ' x = σ x) (h2 : τ'.1 2 = τ.1 2) (h3 : τ'.1 3 = τ.1 3) (h02 : τ'.1 0 2 = τ.1 0 2) (h04 : τ'.1 0 4 = τ.1 0 4) (hz : zv σ' 6 = mz τ') (hok : zOK (mz τ')) : RS σ' τ' := by
  obtain ⟨a, b, c, ⟨o, s, o1, s1, r1, r2, r3, r4⟩, ⟨L, l1, l2, l3, l4⟩⟩ := h
  have e : ∀ k, mrow τ' k = mrow τ k := fun k => by funext x; unfold mrow; rw [h2]
  refine ⟨hz, by rw [hz]; exact hok, fun c' c1 c2 => ?_, ⟨o, s, o1, s1, ?_, ?_, ?_, fun k hk => ?_⟩, ⟨L, l1, ?_, ?_, fun i hi => ?_⟩⟩
  · rw [hs _ (by omega)]; exact c c' c1 c2
  · rw [hs 0 (by omega)]; exact r1
  · rw [hs 0 (by omega)]; exact r2
  · rw [h02]; exact r3
  · rw [e, zv_cong (σ := σ) (n := 12 + 6 * ((o + k) % 6)) (fun j i hj => by rw [hs _ (by omega)])]; exact r4 k hk
  · rw [hs 4 (by omega)]; exact l2
  · rw [h04]; exact l3
  · rw [hs 5 (by omega), h3]; exact l4 i hi
theorem RS.fin {σ : Mem} {τ : Mem × Int64} (h : RS σ τ) : ∃ σ', F_X3_foresee σ = some σ' ∧ Rel σ' τ ∧ ∀ x, x < 48 → σ' x = σ x := by
  obtain ⟨a, b, c, ⟨o, s, o1, s1, r1, r2, r3, r4⟩, ⟨L, l1, l2, l3, l4⟩⟩ := h
  obtain ⟨σ', e, hC, hz, hf⟩ := s_foresee c b
  refine ⟨σ', e, ⟨hz.trans a, hC, ⟨o, s, o1, s1, ?_, ?_, r3, fun k hk => ?_⟩, ⟨L, l1, ?_, l3, fun i hi => ?_⟩⟩, hf⟩
  · rw [hf 0 (by omega)]; exact r1
  · rw [hf 0 (by omega)]; exact r2
  · rw [zv_cong (σ := σ) (n := 12 + 6 * ((o + k) % 6)) (fun j i hj => by rw [hf _ (by omega)])]; exact r4 k hk
  · rw [hf 4 (by omega)]; exact l2
  · rw [hf 5 (by omega)]; exact l4 i hi
/-! the reference's rows -/
def shM (σ : Mem) (k : Nat) : Mem := fun x i => if x = 2 ∧ i < k then σ 2 (i + 84) else σ x i
def wrM (σ : Mem) (s k : Nat) : Mem := fun x i => if x = 2 ∧ 84 * s ≤ i ∧ i < 84 * s + k then σ 1 (i - 84 * s) else σ x i
def udM (σ : Mem) (s k : Nat) : Mem := fun x i => if x = 1 ∧ i < k then σ 2 (84 * s + i) else σ x i
theorem m_shift (τ : Mem × Int64) : ∀ (m k fu : Nat), k + m = 420 → m < fu → L_X4_save_11 fu (nI k) (shM τ.1 k, τ.2) = some (shM τ.1 420, τ.2) := by
  intro m
  induction m with
  | zero =>
    intro k fu hk hf
    obtain ⟨f, rfl⟩ : ∃ f, fu = f + 1 := ⟨fu - 1, by omega⟩
    have : k = 420 := by omega
    subst this
    rw [L_X4_save_11, if_pos (by decide)]
  | succ m ih =>
    intro k fu hk hf
    obtain ⟨f, rfl⟩ : ∃ f, fu = f + 1 := ⟨fu - 1, by omega⟩
    rw [L_X4_save_11, if_neg (fun q : (420 : Int32) ≤ nI k => absurd ((nI_le_iff (a := 420) (by omega) (by omega)).mp q) (by omega)), show nI k + (84 : Int32) = nI (k + 84) from nI_add k 84, if_pos (inb_nI (by omega) (by decide)), if_pos (inb_nI (by omega) (by decide)), nI_clamp (by omega), nI_clamp (by omega), show nI k + (1 : Int32) = nI (k + 1) from nI_1 k]
    have e : up2 (shM τ.1 k) 2 k (shM τ.1 k 2 (k + 84)) = shM τ.1 (k + 1) := by
      have e1 : shM τ.1 k 2 (k + 84) = τ.1 2 (k + 84) := if_neg (fun q => by omega)
      rw [e1]
      funext x i
      unfold up2 shM
      by_cases h : x = 2 ∧ i = k
      · rw [if_pos h, if_pos ⟨h.1, by omega⟩, h.2]
      · rw [if_neg h]
        by_cases h' : x = 2 ∧ i < k
        · rw [if_pos h', if_pos ⟨h'.1, by omega⟩]
        · rw [if_neg h', if_neg (fun q => h' ⟨q.1, by
            have : ¬ i = k := fun w => h ⟨q.1, w⟩
            omega⟩)]
    show L_X4_save_11 f (nI (k + 1)) (up2 (shM τ.1 k) 2 k (shM τ.1 k 2 (k + 84)), τ.2) = _
    rw [e]
    exact ih (k + 1) f (by omega) (by omega)
theorem ix84 {s k : Nat} : ((84 : Int32) * nI s) + nI k = nI (84 * s + k) := by
  rw [← nI_add, ← pk_mul]; rfl
theorem m_write (τ : Mem × Int64) {s : Nat} (hs : s ≤ 5) (h02 : τ.1 0 2 = nI s) : ∀ (m k fu : Nat), k + m = 84 → m < fu → L_X4_save_51 fu (nI k) (wrM τ.1 s k, τ.2) = some (wrM τ.1 s 84, τ.2) := by
  intro m
  induction m with
  | zero =>
    intro k fu hk hf
    obtain ⟨f, rfl⟩ : ∃ f, fu = f + 1 := ⟨fu - 1, by omega⟩
    have : k = 84 := by omega
    subst this
    rw [L_X4_save_51, if_pos (by decide)]
  | succ m ih =>
    intro k fu hk hf
    obtain ⟨f, rfl⟩ : ∃ f, fu = f + 1 := ⟨fu - 1, by omega⟩
    have e2 : wrM τ.1 s k 0 2 = nI s := h02
    have e3 : wrM τ.1 s k 1 k = τ.1 1 k := if_neg (fun q => by omega)
    rw [L_X4_save_51, if_neg (fun q : (84 : Int32) ≤ nI k => absurd ((nI_le_iff (a := 84) (by omega) (by omega)).mp q) (by omega))]
    show (if inb (nI k) 84 then (if inb ((84 : Int32) * (wrM τ.1 s k 0 2) + nI k) 504 then L_X4_save_51 f (nI k + 1) (up2 (wrM τ.1 s k) 2 ((84 : Int32) * (wrM τ.1 s k 0 2) + nI k).toNatClampNeg (wrM τ.1 s k 1 (nI k).toNatClampNeg), τ.2) else none) else none) = _
    rw [e2, ix84, if_pos (inb_nI (by omega) (by decide)), if_pos (inb_nI (by omega) (by decide)), nI_clamp (by omega), nI_clamp (by omega), e3, show nI k + (1 : Int32) = nI (k + 1) from nI_1 k]
    have e : up2 (wrM τ.1 s k) 2 (84 * s + k) (τ.1 1 k) = wrM τ.1 s (k + 1) := by
      funext x i
      unfold up2 wrM
      by_cases h : x = 2 ∧ i = 84 * s + k
      · rw [if_pos h, if_pos ⟨h.1, by omega, by omega⟩, h.2, show 84 * s + k - 84 * s = k by omega]
      · rw [if_neg h]
        by_cases h' : x = 2 ∧ 84 * s ≤ i ∧ i < 84 * s + k
        · rw [if_pos h', if_pos ⟨h'.1, h'.2.1, by omega⟩]
        · rw [if_neg h', if_neg (fun q => h' ⟨q.1, q.2.1, by
            have : ¬ i = 84 * s + k := fun w => h ⟨q.1, w⟩
            omega⟩)]
    rw [e]
    exact ih (k + 1) f (by omega) (by omega)
theorem m_read (τ : Mem × Int64) {s : Nat} (hs : s ≤ 5) (h02 : τ.1 0 2 = nI s) : ∀ (m k fu : Nat), k + m = 84 → m < fu → L_X4_undo_30 fu (nI k) (udM τ.1 s k, τ.2) = some (udM τ.1 s 84, τ.2) := by
  intro m
  induction m with
  | zero =>
    intro k fu hk hf
    obtain ⟨f, rfl⟩ : ∃ f, fu = f + 1 := ⟨fu - 1, by omega⟩
    have : k = 84 := by omega
    subst this
    rw [L_X4_undo_30, if_pos (by decide)]
  | succ m ih =>
    intro k fu hk hf
    obtain ⟨f, rfl⟩ : ∃ f, fu = f + 1 := ⟨fu - 1, by omega⟩
    have e2 : udM τ.1 s k 0 2 = nI s := h02
    have e3 : udM τ.1 s k 2 (84 * s + k) = τ.1 2 (84 * s + k) := if_neg (fun q => by omega)
    rw [L_X4_undo_30, if_neg (fun q : (84 : Int32) ≤ nI k => absurd ((nI_le_iff (a := 84) (by omega) (by omega)).mp q) (by omega))]
    show (if inb ((84 : Int32) * (udM τ.1 s k 0 2) + nI k) 504 then (if inb (nI k) 84 then L_X4_undo_30 f (nI k + 1) (up2 (udM τ.1 s k) 1 (nI k).toNatClampNeg (udM τ.1 s k 2 ((84 : Int32) * (udM τ.1 s k 0 2) + nI k).toNatClampNeg), τ.2) else none) else none) = _
    rw [e2, ix84, if_pos (inb_nI (by omega) (by decide)), if_pos (inb_nI (by omega) (by decide)), nI_clamp (by omega), nI_clamp (by omega), e3, show nI k + (1 : Int32) = nI (k + 1) from nI_1 k]
    have e : up2 (udM τ.1 s k) 1 k (τ.1 2 (84 * s + k)) = udM τ.1 s (k + 1) := by
      funext x i
      unfold up2 udM
      by_cases h : x = 1 ∧ i = k
      · rw [if_pos h, if_pos ⟨h.1, by omega⟩, h.2]
      · rw [if_neg h]
        by_cases h' : x = 1 ∧ i < k
        · rw [if_pos h', if_pos ⟨h'.1, by omega⟩]
        · rw [if_neg h', if_neg (fun q => h' ⟨q.1, by
            have : ¬ i = k := fun w => h ⟨q.1, w⟩
            omega⟩)]
    rw [e]
    exact ih (k + 1) f (by omega) (by omega)
theorem shM_0 (σ : Mem) : shM σ 0 = σ := by funext x i; exact if_neg (fun q => by omega)
theorem wrM_0 (σ : Mem) (s : Nat) : wrM σ s 0 = σ := by funext x i; exact if_neg (fun q => by omega)
theorem udM_0 (σ : Mem) (s : Nat) : udM σ s 0 = σ := by funext x i; exact if_neg (fun q => by omega)
/-- what the reference keeps when it saves -/
def KeepS (τ τ' : Mem × Int64) : Prop := (∀ x, x ≠ 0 → x ≠ 2 → τ'.1 x = τ.1 x) ∧ (∀ k, k ≠ 2 → τ'.1 0 k = τ.1 0 k) ∧ τ'.2 = τ.2
/-- a row more, the last one the state as it is -/
theorem m_save1 (τ : Mem × Int64) {s : Nat} (hs : s ≤ 5) (h02 : τ.1 0 2 = nI s) : ∃ τ', Option.bind (L_X4_save_51 FU (0 : Int32) τ) (fun v51 : (Mem × Int64) => some (up2 v51.1 0 2 ((v51.1 0 2) + (1 : Int32)), v51.2)) = some τ' ∧ KeepS τ τ' ∧ τ'.1 0 2 = nI (s + 1) ∧ mrow τ' s = mz τ ∧ ∀ k, k < s → mrow τ' k = mrow τ k := by
  have k1 := m_write τ hs h02 84 0 FU rfl (by decide)
  rw [wrM_0] at k1
  have k1 : L_X4_save_51 FU 0 τ = some (wrM τ.1 s 84, τ.2) := k1
  have e2 : wrM τ.1 s 84 0 2 = nI s := h02
  refine ⟨(up2 (wrM τ.1 s 84) 0 2 (wrM τ.1 s 84 0 2 + 1), τ.2), by rw [k1]; rfl, ⟨fun x h0 h2 => ?_, fun k hk => ?_, rfl⟩, ?_, ?_, fun k hk => ?_⟩
  · show (up2 (wrM τ.1 s 84) 0 2 _) x = _
    rw [up2_ne _ (x := 0) (y := x) h0]
    funext i
    exact if_neg (fun q => h2 q.1)
  · show (up2 (wrM τ.1 s 84) 0 2 _) 0 k = _
    unfold up2
    rw [if_neg (fun q => hk q.2)]; rfl
  · show (up2 (wrM τ.1 s 84) 0 2 (wrM τ.1 s 84 0 2 + 1)) 0 2 = _
    unfold up2
    rw [if_pos ⟨rfl, rfl⟩, e2]; exact nI_1 s
  · funext x
    show (if x = 3 ∨ x = 19 ∨ 84 ≤ x then 0 else (up2 (wrM τ.1 s 84) 0 2 (wrM τ.1 s 84 0 2 + 1)) 2 (84 * s + x)) = (if x = 3 ∨ x = 19 ∨ 84 ≤ x then 0 else τ.1 1 x)
    by_cases h : x = 3 ∨ x = 19 ∨ 84 ≤ x
    · rw [if_pos h, if_pos h]
    · rw [if_neg h, if_neg h, up2_ne _ (x := 0) (y := 2) (by omega)]
      unfold wrM
      rw [if_pos ⟨rfl, by omega, by omega⟩, show 84 * s + x - 84 * s = x by omega]
  · funext x
    show (if x = 3 ∨ x = 19 ∨ 84 ≤ x then 0 else (up2 (wrM τ.1 s 84) 0 2 (wrM τ.1 s 84 0 2 + 1)) 2 (84 * k + x)) = (if x = 3 ∨ x = 19 ∨ 84 ≤ x then 0 else τ.1 2 (84 * k + x))
    by_cases h : x = 3 ∨ x = 19 ∨ 84 ≤ x
    · rw [if_pos h, if_pos h]
    · rw [if_neg h, if_neg h, up2_ne _ (x := 0) (y := 2) (by omega)]
      exact if_neg (fun q => by omega)
/-- save on the reference's side -/
theorem m_save {τ : Mem × Int64} {s : Nat} (hs : s ≤ 6) (h02 : τ.1 0 2 = nI s) : ∃ τ', F_X4_save τ = some τ' ∧ KeepS τ τ' ∧ τ'.1 0 2 = nI (if s = 6 then 6 else s + 1) ∧ mrow τ' (if s = 6 then 5 else s) = mz τ ∧ ∀ k, k < (if s = 6 then 5 else s) → mrow τ' k = mrow τ (if s = 6 then k + 1 else k) := by
  unfold F_X4_save
  by_cases h6 : s = 6
  · subst h6
    simp only [if_true]
    have k1 := m_shift τ 420 0 FU rfl (by decide)
    rw [shM_0] at k1
    have k1 : L_X4_save_11 FU 0 τ = some (shM τ.1 420, τ.2) := k1
    have e2 : shM τ.1 420 0 2 = nI 6 := h02
    obtain ⟨τ', e, ⟨a, b, c⟩, d1, d2, d3⟩ := m_save1 (up2 (shM τ.1 420) 0 2 (shM τ.1 420 0 2 - 1), τ.2) (s := 5) (by omega) (by
      show (up2 (shM τ.1 420) 0 2 _) 0 2 = _
      unfold up2
      rw [if_pos ⟨rfl, rfl⟩, e2]; rfl)
    have hx : ∀ x, x ≠ 0 → x ≠ 2 → (up2 (shM τ.1 420) 0 2 (shM τ.1 420 0 2 - 1)) x = τ.1 x := fun x h0 h2 => by
      rw [up2_ne _ (x := 0) (y := x) h0]
      funext i
      exact if_neg (fun q => h2 q.1)
    refine ⟨τ', ?_, ⟨fun x h0 h2 => (a x h0 h2).trans (hx x h0 h2), fun k hk => (b k hk).trans ?_, c⟩, d1, ?_, fun k hk => ?_⟩
    · rw [h02, if_neg (fun q => q rfl), k1, Option.bind_some]
      exact e
    · show (up2 (shM τ.1 420) 0 2 _) 0 k = _
      unfold up2
      rw [if_neg (fun q => hk q.2)]; rfl
    · rw [d2]; exact mz_cong (hx 1 (by omega) (by omega))
    · rw [d3 k hk]
      funext x
      show (if x = 3 ∨ x = 19 ∨ 84 ≤ x then 0 else (up2 (shM τ.1 420) 0 2 (shM τ.1 420 0 2 - 1)) 2 (84 * k + x)) = (if x = 3 ∨ x = 19 ∨ 84 ≤ x then 0 else τ.1 2 (84 * (k + 1) + x))
      by_cases h : x = 3 ∨ x = 19 ∨ 84 ≤ x
      · rw [if_pos h, if_pos h]
      · rw [if_neg h, if_neg h, up2_ne _ (x := 0) (y := 2) (by omega)]
        unfold shM
        rw [if_pos ⟨rfl, by omega⟩, show 84 * k + x + 84 = 84 * (k + 1) + x by omega]
  · simp only [h6, if_false]
    obtain ⟨τ', e, K, d1, d2, d3⟩ := m_save1 τ (s := s) (by omega) h02
    refine ⟨τ', ?_, K, d1, d2, d3⟩
    rw [h02, if_pos (show ¬ nI s = (6 : Int32) from fun q => h6 ((nI_eq_iff (a := s) (b := 6) (by omega) (by omega)).mp q)), Option.bind_some]
    exact e
theorem lat_ix : ∀ o, o < 6 → ∀ s, s < 7 → 1 ≤ s → (((nI o + nI s) - (1 : Int32)) - ((nI o + nI s) - (1 : Int32)) / (6 : Int32) * (6 : Int32)) = nI ((o + s - 1) % 6) := by decide +kernel
theorem old_ix : ∀ o, o < 6 → ((nI o + (1 : Int32)) - (nI o + (1 : Int32)) / (6 : Int32) * (6 : Int32)) = nI ((o + 1) % 6) := by decide +kernel
theorem s_latest {σ : Mem} {o s : Nat} (ho : o < 6) (hs : s ≤ 6) (h1 : 1 ≤ s) (r1 : σ 0 2 = nI o) (r2 : σ 0 3 = nI s) : F_X3_latestSaved σ = some (12 + 6 * ((o + s - 1) % 6)) := by
  unfold F_X3_latestSaved
  have hm : (o + s - 1) % 6 < 6 := Nat.mod_lt _ (by decide)
  rw [r1, r2, lat_ix o ho s (by omega) h1, if_neg (nI_pos (by omega)), if_neg (fun q : (6 : Int32) ≤ nI ((o + s - 1) % 6) => absurd ((nI_le_iff (a := 6) (by omega) (by omega)).mp q) (by omega)), if_pos (inb_nI hm (by decide)), nI_clamp (by omega)]
theorem save_ok {σ : Mem} {τ : Mem × Int64} (R : RS σ τ) : ∃ σ' τ', F_X3_save σ = some σ' ∧ F_X4_save τ = some τ' ∧ RS σ' τ' ∧ (∀ x, x ≠ 0 → x < 12 ∨ 48 ≤ x → σ' x = σ x) ∧ KeepS τ τ' := by
  obtain ⟨a, b, c, ⟨o, s, o1, s1, r1, r2, r3, r4⟩, ⟨L, l1, l2, l3, l4⟩⟩ := R
  obtain ⟨τ', e, K, m1, m2, m3⟩ := m_save s1 r3
  -- the class: where the oldest stands then, and how many
  have hsv : ∃ σ1 o' s', (if (6 : Int32) ≤ (σ 0 3) then some (up2 σ 0 2 (((σ 0 2) + (1 : Int32)) - ((σ 0 2) + (1 : Int32)) / (6 : Int32) * (6 : Int32))) else some (up2 σ 0 3 ((σ 0 3) + (1 : Int32)))) = some σ1 ∧ (∀ x, x ≠ 0 → σ1 x = σ x) ∧ o' < 6 ∧ s' ≤ 6 ∧ 1 ≤ s' ∧ σ1 0 2 = nI o' ∧ σ1 0 3 = nI s' ∧ s' = (if s = 6 then 6 else s + 1) ∧ o' = (if s = 6 then (o + 1) % 6 else o) := by
    by_cases h6 : s = 6
    · subst h6
      refine ⟨up2 σ 0 2 (nI ((o + 1) % 6)), (o + 1) % 6, 6, ?_, fun x h => up2_ne _ (x := 0) (y := x) h, Nat.mod_lt _ (by decide), by omega, by omega, ?_, ?_, rfl, rfl⟩
      · rw [r2, r1, old_ix o o1, if_pos (by decide)]
      · unfold up2; rw [if_pos ⟨rfl, rfl⟩]
      · unfold up2; rw [if_neg (fun q => by omega)]; exact r2
    · refine ⟨up2 σ 0 3 (nI (s + 1)), o, s + 1, ?_, fun x h => up2_ne _ (x := 0) (y := x) h, o1, by omega, by omega, ?_, ?_, by rw [if_neg h6], by rw [if_neg h6]⟩
      · rw [r2, if_neg (fun q : (6 : Int32) ≤ nI s => absurd ((nI_le_iff (a := 6) (by omega) (by omega)).mp q) (by omega)), show nI s + (1 : Int32) = nI (s + 1) from nI_1 s]
      · unfold up2; rw [if_neg (fun q => by omega)]; exact r1
      · unfold up2; rw [if_pos ⟨rfl, rfl⟩]
  obtain ⟨σ1, o', s', e1, f1, o2, s2, s3, p1, p2, es, eo⟩ := hsv
  have hz1 : zv σ1 6 = zv σ 6 := zv_cong (fun j k hj => by rw [f1 _ (by omega)])
  obtain ⟨σ2, e2, z2, f2⟩ := s_copy (n := 12 + 6 * ((o' + s' - 1) % 6)) (o := 6) (fun i j hi hj => by omega) σ1 (by rw [hz1]; exact b)
  have hfar : ∀ x, x ≠ 0 → x < 12 ∨ 48 ≤ x → σ2 x = σ x := fun x h0 hx => by
    rw [f2 x (fun j hj => by omega)]; exact f1 x h0
  have h0 : σ2 0 = σ1 0 := f2 0 (fun j hj => by omega)
  refine ⟨σ2, τ', ?_, e, ?_, hfar, K⟩
  · unfold F_X3_save
    rw [e1, Option.bind_some, s_latest o2 s2 s3 p1 p2, Option.bind_some, e2]; rfl
  · have hz2 : zv σ2 6 = zv σ 6 := zv_cong (fun j k hj => by rw [hfar _ (by omega) (by omega)])
    refine ⟨hz2.trans (a.trans (mz_cong (K.1 1 (by omega) (by omega))).symm), by rw [hz2]; exact b, fun c' c1 c2 => ?_, ⟨o', s', o2, s2, by rw [h0]; exact p1, by rw [h0]; exact p2, by rw [m1, es], fun k hk => ?_⟩, ⟨L, l1, ?_, ?_, fun i hi => ?_⟩⟩
    · rw [hfar _ (by omega) (by omega)]; exact c c' c1 c2
    · by_cases hl : k = s' - 1
      · subst hl
        have hm : mrow τ' (s' - 1) = mz τ := by
          rw [← m2, es]
          by_cases h6 : s = 6
          · simp [h6]
          · simp [h6]
        rw [hm, show o' + (s' - 1) = o' + s' - 1 by omega]
        refine ⟨z2.trans (hz1.trans a), by rw [← a]; exact b⟩
      · have hne : (o' + k) % 6 ≠ (o' + s' - 1) % 6 := by omega
        have hzk : zv σ2 (12 + 6 * ((o' + k) % 6)) = zv σ (12 + 6 * ((o' + k) % 6)) := zv_cong (fun j i hj => by
          rw [f2 _ (fun j' hj' => by omega)]
          rw [f1 _ (by omega)])
        rw [hzk]
        by_cases h6 : s = 6
        · subst h6
          rw [if_pos rfl] at es eo
          have hm := m3 k (by rw [if_pos rfl]; omega)
          rw [if_pos rfl] at hm
          rw [hm, show (o' + k) % 6 = (o + (k + 1)) % 6 by rw [eo]; omega]
          exact r4 (k + 1) (by omega)
        · rw [if_neg h6] at es eo
          have hm := m3 k (by rw [if_neg h6]; omega)
          rw [if_neg h6] at hm
          rw [hm, eo]
          exact r4 k (by omega)
    · rw [hfar 4 (by omega) (by omega)]; exact l2
    · rw [K.2.1 4 (by omega)]; exact l3
    · rw [hfar 5 (by omega) (by omega), K.1 3 (by omega) (by omega)]; exact l4 i hi
/-- undo, both sides -/
def AgM (l : List (Nat × Int32)) (res : Nat ⊕ (Int32 × Mem)) (σ : Mem) (τ : Mem × Int64) (b : Int32) (τ' : Mem × Int64) : Prop := match res with
  | .inl k => (k, τ'.1 0 5) ∈ l ∧ Rel σ τ'
  | .inr v => τ'.1 0 5 = 0 ∧ b = v.1 ∧ Rel v.2 τ'
theorem o_undo {σ : Mem} {τ : Mem × Int64} (R : Rel σ τ) : ∃ res v τ', F_X3_undo σ = some res ∧ F_X4_undo τ = some (v, τ') ∧ AgM [(1, 1)] res σ τ v τ' := by
  obtain ⟨a, b, c, ⟨o, s, o1, s1, r1, r2, r3, r4⟩, ⟨L, l1, l2, l3, l4⟩⟩ := R.rs
  have e02 : (up2 τ.1 0 5 (0 : Int32)) 0 2 = nI s := r3
  unfold F_X4_undo F_X3_undo
  rw [e02, r2]
  by_cases h : s = 0
  · subst h
    obtain ⟨τ', e, K, h5⟩ := m_fails τ 1
    refine ⟨.inl 1, 0, τ', by rw [if_neg (by decide)], by rw [if_neg (fun q => q rfl), show (up2 τ.1 0 5 (0 : Int32), τ.2) = t0 τ from rfl, e]; rfl, ?_, K.rel R⟩
    rw [h5]; exact List.mem_cons_self ..
  · obtain ⟨s, rfl⟩ : ∃ t, s = t + 1 := ⟨s - 1, by omega⟩
    have es : nI (s + 1) - (1 : Int32) = nI s := by
      rw [← nI_1 s]; simp [Int32.add_sub_cancel]
    rw [if_pos (show (1 : Int32) ≤ nI (s + 1) from (nI_le_iff (a := 1) (by omega) (by omega)).mpr (by omega)), if_pos (show ¬ nI (s + 1) = (0 : Int32) from fun q => absurd ((nI_eq_iff (a := s + 1) (b := 0) (by omega) (by omega)).mp q) (by omega)), es]
    obtain ⟨w1, w2⟩ := r4 s (by omega)
    have hl := s_latest o1 s1 (by omega) r1 r2
    rw [show o + (s + 1) - 1 = o + s by omega] at hl
    obtain ⟨σ1, e1, z1, f1⟩ := s_copy (n := 6) (o := 12 + 6 * ((o + s) % 6)) (fun i j hi hj => by omega) σ (by rw [w1]; exact w2)
    have h0 : σ1 0 = σ 0 := f1 0 (fun j hj => by omega)
    have g0 : ∀ x, x < 6 ∨ 12 ≤ x → σ1 x = σ x := fun x hx => f1 x (fun j hj => by omega)
    -- the reference
    have k1 := m_read (up2 (up2 τ.1 0 5 (0 : Int32)) 0 2 (nI s), τ.2) (s := s) (by omega) (by show (up2 (up2 τ.1 0 5 (0 : Int32)) 0 2 (nI s)) 0 2 = nI s; unfold up2; rw [if_pos ⟨rfl, rfl⟩]) 84 0 FU rfl (by decide)
    rw [udM_0] at k1
    have k1 : L_X4_undo_30 FU 0 (up2 (up2 τ.1 0 5 (0 : Int32)) 0 2 (nI s), τ.2) = some (udM (up2 (up2 τ.1 0 5 (0 : Int32)) 0 2 (nI s)) s 84, τ.2) := k1
    obtain ⟨τ', hτ'⟩ : ∃ t : Mem × Int64, t = (udM (up2 (up2 τ.1 0 5 (0 : Int32)) 0 2 (nI s)) s 84, τ.2) := ⟨_, rfl⟩
    rw [← hτ'] at k1
    have q0 : ∀ k, τ'.1 0 k = if k = 2 then nI s else if k = 5 then 0 else τ.1 0 k := fun k => by
      rw [hτ']
      show udM (up2 (up2 τ.1 0 5 (0 : Int32)) 0 2 (nI s)) s 84 0 k = _
      rw [show udM (up2 (up2 τ.1 0 5 (0 : Int32)) 0 2 (nI s)) s 84 0 k = up2 (up2 τ.1 0 5 (0 : Int32)) 0 2 (nI s) 0 k from if_neg (fun q => by omega)]
      unfold up2
      by_cases q2 : k = 2
      · simp [q2]
      · by_cases q5 : k = 5
        · simp [q5]
        · simp [q2, q5]
    have qx : ∀ x, x ≠ 0 → x ≠ 1 → τ'.1 x = τ.1 x := fun x hx hx1 => by
      rw [hτ']
      funext i
      show udM (up2 (up2 τ.1 0 5 (0 : Int32)) 0 2 (nI s)) s 84 x i = _
      rw [show udM (up2 (up2 τ.1 0 5 (0 : Int32)) 0 2 (nI s)) s 84 x i = up2 (up2 τ.1 0 5 (0 : Int32)) 0 2 (nI s) x i from if_neg (fun q => hx1 q.1), up2_ne _ (x := 0) (y := x) hx, up2_ne _ (x := 0) (y := x) hx]
    have qz : mz τ' = mrow τ s := by
      rw [hτ']
      funext x
      show (if x = 3 ∨ x = 19 ∨ 84 ≤ x then 0 else udM (up2 (up2 τ.1 0 5 (0 : Int32)) 0 2 (nI s)) s 84 1 x) = (if x = 3 ∨ x = 19 ∨ 84 ≤ x then 0 else τ.1 2 (84 * s + x))
      by_cases h : x = 3 ∨ x = 19 ∨ 84 ≤ x
      · rw [if_pos h, if_pos h]
      · rw [if_neg h, if_neg h]
        unfold udM
        rw [if_pos ⟨rfl, by omega⟩, up2_ne _ (x := 0) (y := 2) (by omega), up2_ne _ (x := 0) (y := 2) (by omega)]
    obtain ⟨σ2, hσ2⟩ : ∃ m : Mem, m = up2 σ1 0 3 ((σ1 0 3) - (1 : Int32)) := ⟨_, rfl⟩
    have g2 : ∀ x, x ≠ 0 → σ2 x = σ1 x := fun x hx => by rw [hσ2]; exact up2_ne _ (x := 0) (y := x) hx
    have h03 : σ1 0 3 - (1 : Int32) = nI s := by rw [h0, r2, es]
    have RS2 : RS σ2 τ' := by
      have hz2 : zv σ2 6 = mrow τ s := (zv_cong (σ := σ1) (fun j k hj => by rw [g2 _ (by omega)])).trans (z1.trans w1)
      refine ⟨hz2.trans qz.symm, by rw [hz2]; exact w2, fun c' c1 c2 => ?_, ⟨o, s, o1, by omega, ?_, ?_, ?_, fun k hk => ?_⟩, ⟨L, l1, ?_, ?_, fun i hi => ?_⟩⟩
      · rw [g2 _ (by omega), g0 _ (by omega)]; exact c c' c1 c2
      · rw [hσ2]; unfold up2; rw [if_neg (fun q => by omega), h0]; exact r1
      · rw [hσ2]; unfold up2; rw [if_pos ⟨rfl, rfl⟩]; exact h03
      · rw [q0, if_pos rfl]
      · have : mrow τ' k = mrow τ k := by funext x; unfold mrow; rw [qx 2 (by omega) (by omega)]
        rw [this, zv_cong (σ := σ) (n := 12 + 6 * ((o + k) % 6)) (fun j i hj => by rw [g2 _ (by omega), g0 _ (by omega)])]
        exact r4 k (by omega)
      · rw [g2 4 (by omega), g0 4 (by omega)]; exact l2
      · rw [q0, if_neg (by omega), if_neg (by omega)]; exact l3
      · rw [g2 5 (by omega), g0 5 (by omega), qx 3 (by omega) (by omega)]; exact l4 i hi
    obtain ⟨σ3, e3, R3, f3⟩ := RS2.fin
    have h33 : σ3 0 3 = nI s := by
      rw [f3 0 (by omega), hσ2]; unfold up2; rw [if_pos ⟨rfl, rfl⟩]; exact h03
    refine ⟨.inr (nI s, σ3), nI s, τ', ?_, ?_, ?_, rfl, R3⟩
    · rw [hl, Option.bind_some, e1, Option.bind_some, ← hσ2, e3, Option.bind_some, h33]; rfl
    · rw [k1, Option.bind_some, q0, if_pos rfl]
    · rw [q0, if_neg (by omega), if_pos rfl]
