/-! saving, foreseeing: what they change -/
theorem nar_b (b : Bool) : vp_nar .boolean (b2i b) = b2i b := by cases b <;> rfl
def cp1 (σ : Mem) (n o k : Nat) : Mem := fun x i => if n + 1 ≤ x ∧ x ≤ n + 4 ∧ i < k then σ (o + (x - n)) i else σ x i
def cp2 (σ : Mem) (n o c : Nat) : Mem := fun x i => if x = n + 5 ∧ 1 ≤ i ∧ i < c then σ (o + 5) i else σ x i
theorem s_copy1 {n o : Nat} (hno : ∀ i j, i ≤ 5 → j ≤ 5 → o + i ≠ n + j) (σ : Mem) (ht : ∀ k, k < 16 → ∃ b, σ (o + 1) k = b2i b) : ∀ (m k fu : Nat), k + m = 16 → m < fu → L_X1_copyFrom_2 n o fu (nI k) (cp1 σ n o k) = some (cp1 σ n o 16) := by
  intro m
  induction m with
  | zero =>
    intro k fu hk hf
    obtain ⟨f, rfl⟩ : ∃ f, fu = f + 1 := ⟨fu - 1, by omega⟩
    have : k = 16 := by omega
    subst this
    rw [L_X1_copyFrom_2, if_pos e16]
  | succ m ih =>
    intro k fu hk hf
    obtain ⟨f, rfl⟩ : ∃ f, fu = f + 1 := ⟨fu - 1, by omega⟩
    have hin : inb (nI k) 16 = true := inb_nI (by omega) (by decide)
    have ho : ∀ (M : Mem) (j j' : Nat) (v : Int32), j ≤ 5 → j' ≤ 5 → (up2 M (n + j) k v) (o + j') = M (o + j') := fun M j j' v h1 h2 => up2_ne M (x := n + j) (y := o + j') (hno j' j h2 h1)
    have hc : ∀ j', j' ≤ 5 → (cp1 σ n o k) (o + j') k = σ (o + j') k := fun j' h => by
      unfold cp1
      exact if_neg (fun q => by
        have := hno j' (o + j' - n) h (by omega)
        omega)
    obtain ⟨b, hb⟩ := ht k (by omega)
    rw [L_X1_copyFrom_2, if_neg (d16 (by omega)), if_pos hin, if_pos hin, if_pos hin, if_pos hin, if_pos hin, if_pos hin, if_pos hin, if_pos hin, nI_clamp (by omega), show nI k + (1 : Int32) = nI (k + 1) from nI_1 k]
    rw [ho _ 1 2 _ (by omega) (by omega), ho _ 2 3 _ (by omega) (by omega), ho _ 1 3 _ (by omega) (by omega), ho _ 3 4 _ (by omega) (by omega), ho _ 2 4 _ (by omega) (by omega), ho _ 1 4 _ (by omega) (by omega), hc 1 (by omega), hc 2 (by omega), hc 3 (by omega), hc 4 (by omega), hb, nar_b, ← hb]
    have e : up2 (up2 (up2 (up2 (cp1 σ n o k) (n + 1) k (σ (o + 1) k)) (n + 2) k (σ (o + 2) k)) (n + 3) k (σ (o + 3) k)) (n + 4) k (σ (o + 4) k) = cp1 σ n o (k + 1) := by
      funext x i
      unfold up2 cp1
      by_cases h4 : x = n + 4 ∧ i = k
      · rw [if_pos h4, if_pos ⟨by omega, by omega, by omega⟩, h4.1, h4.2, show o + (n + 4 - n) = o + 4 by omega]
      · rw [if_neg h4]
        by_cases h3 : x = n + 3 ∧ i = k
        · rw [if_pos h3, if_pos ⟨by omega, by omega, by omega⟩, h3.1, h3.2, show o + (n + 3 - n) = o + 3 by omega]
        · rw [if_neg h3]
          by_cases h2 : x = n + 2 ∧ i = k
          · rw [if_pos h2, if_pos ⟨by omega, by omega, by omega⟩, h2.1, h2.2, show o + (n + 2 - n) = o + 2 by omega]
          · rw [if_neg h2]
            by_cases h1 : x = n + 1 ∧ i = k
            · rw [if_pos h1, if_pos ⟨by omega, by omega, by omega⟩, h1.1, h1.2, show o + (n + 1 - n) = o + 1 by omega]
            · rw [if_neg h1]
              by_cases h : n + 1 ≤ x ∧ x ≤ n + 4 ∧ i < k
              · rw [if_pos h, if_pos ⟨h.1, h.2.1, by omega⟩]
              · rw [if_neg h, if_neg (fun q => h ⟨q.1, q.2.1, by omega⟩)]
    rw [e]
    exact ih (k + 1) f (by omega) (by omega)
theorem s_copy2 {n o : Nat} (hno : ∀ i j, i ≤ 5 → j ≤ 5 → o + i ≠ n + j) (σ : Mem) : ∀ (m k fu : Nat), k + m = 16 → 1 ≤ k → m < fu → L_X1_copyFrom_64 n o fu (nI k) (cp2 σ n o k) = some (cp2 σ n o 16) := by
  intro m
  induction m with
  | zero =>
    intro k fu hk h1 hf
    obtain ⟨f, rfl⟩ : ∃ f, fu = f + 1 := ⟨fu - 1, by omega⟩
    have : k = 16 := by omega
    subst this
    rw [L_X1_copyFrom_64, if_pos c16]
  | succ m ih =>
    intro k fu hk h1 hf
    obtain ⟨f, rfl⟩ : ∃ f, fu = f + 1 := ⟨fu - 1, by omega⟩
    have hin : inb (nI k) 16 = true := inb_nI (by omega) (by decide)
    have hc : (cp2 σ n o k) (o + 5) k = σ (o + 5) k := by
      unfold cp2
      exact if_neg (fun q => hno 5 5 (by omega) (by omega) q.1)
    rw [L_X1_copyFrom_64, if_neg (c15 (by omega)), if_pos hin, if_pos hin, nI_clamp (by omega), show nI k + (1 : Int32) = nI (k + 1) from nI_1 k, hc]
    have e : up2 (cp2 σ n o k) (n + 5) k (σ (o + 5) k) = cp2 σ n o (k + 1) := by
      funext x i
      unfold up2 cp2
      by_cases h : x = n + 5 ∧ i = k
      · rw [if_pos h, if_pos ⟨h.1, by omega, by omega⟩, h.2]
      · rw [if_neg h]
        by_cases h' : x = n + 5 ∧ 1 ≤ i ∧ i < k
        · rw [if_pos h', if_pos ⟨h'.1, h'.2.1, by omega⟩]
        · rw [if_neg h', if_neg (fun q => h' ⟨q.1, q.2.1, by
            have : ¬ i = k := fun w => h ⟨q.1, w⟩
            omega⟩)]
    rw [e]
    exact ih (k + 1) f (by omega) (by omega) (by omega)
theorem cp1_0 (σ : Mem) (n o : Nat) : cp1 σ n o 0 = σ := by
  funext x i; unfold cp1; exact if_neg (fun q => by omega)
theorem cp2_1 (σ : Mem) (n o : Nat) : cp2 σ n o 1 = σ := by
  funext x i; unfold cp2; exact if_neg (fun q => by omega)
theorem s_copy {n o : Nat} (hno : ∀ i j, i ≤ 5 → j ≤ 5 → o + i ≠ n + j) (σ : Mem) (hz : zOK (zv σ o)) : ∃ σ', F_X1_copyFrom n o σ = some σ' ∧ zv σ' n = zv σ o ∧ ∀ x, (∀ j, j ≤ 5 → x ≠ n + j) → σ' x = σ x := by
  have ht : ∀ k, k < 16 → ∃ b, σ (o + 1) k = b2i b := fun k hk => ⟨_, tk_n0 hz hk⟩
  have k1 := s_copy1 hno σ ht 16 0 FU rfl (by decide)
  have k2 := s_copy2 hno (cp1 σ n o 16) 15 1 FU rfl (by omega) (by decide)
  rw [cp1_0] at k1
  rw [cp2_1] at k2
  have k1 : L_X1_copyFrom_2 n o FU 0 σ = _ := k1
  have k2 : L_X1_copyFrom_64 n o FU 1 (cp1 σ n o 16) = _ := k2
  obtain ⟨M, hM⟩ : ∃ M : Mem, M = cp2 (cp1 σ n o 16) n o 16 := ⟨_, rfl⟩
  rw [← hM] at k2
  have hon : o ≠ n := by have := hno 0 0 (by omega) (by omega); omega
  have ho : ∀ (M : Mem) (k : Nat) (v : Int32), (up2 M n k v) o = M o := fun M k v => up2_ne M (x := n) (y := o) hon
  have hx : ∀ x, (∀ j, 1 ≤ j → j ≤ 5 → x ≠ n + j) → M x = σ x := fun x h => by
    rw [hM]
    funext i
    unfold cp2 cp1
    rw [if_neg (fun q => h 5 (by omega) (by omega) q.1), if_neg (fun q => h (x - n) (by omega) (by omega) (by omega))]
  refine ⟨up2 (up2 (up2 M n 5 (σ o 5)) n 6 (σ o 6)) n 7 (σ o 7), ?_, ?_, fun x h => ?_⟩
  · unfold F_X1_copyFrom
    rw [k1, Option.bind_some, k2, Option.bind_some]
    have hMo : M o = σ o := hx o (fun j j1 j2 => hno 0 j (by omega) j2)
    rw [ho, ho, ho, hMo]
  · have g : ∀ j i, 1 ≤ j → (up2 (up2 (up2 M n 5 (σ o 5)) n 6 (σ o 6)) n 7 (σ o 7)) (n + j) i = M (n + j) i := fun j i hj => by
      rw [up2_ne _ (x := n) (y := n + j) (by omega), up2_ne _ (x := n) (y := n + j) (by omega), up2_ne _ (x := n) (y := n + j) (by omega)]
    have gM : ∀ j i, 1 ≤ j → j ≤ 4 → i < 16 → M (n + j) i = σ (o + j) i := fun j i h1 h2 h3 => by
      rw [hM]
      unfold cp2
      rw [if_neg (fun q => by omega)]
      unfold cp1
      rw [if_pos ⟨by omega, by omega, h3⟩, show o + (n + j - n) = o + j by omega]
    have g5 : ∀ i, 1 ≤ i → i < 16 → M (n + 5) i = σ (o + 5) i := fun i h1 h2 => by
      rw [hM]
      unfold cp2
      rw [if_pos ⟨rfl, h1, h2⟩]
      unfold cp1
      rw [if_neg (fun q => by have := hno 5 (o + 5 - n) (by omega) (by omega); omega)]
    funext x
    unfold zv
    by_cases h0 : x = 0
    · rw [if_pos h0, if_pos h0]; unfold up2; simp
    · rw [if_neg h0, if_neg h0]
      by_cases h1 : x = 1
      · rw [if_pos h1, if_pos h1]; unfold up2; simp
      · rw [if_neg h1, if_neg h1]
        by_cases h2 : x = 2
        · rw [if_pos h2, if_pos h2]; unfold up2; simp
        · rw [if_neg h2, if_neg h2]
          by_cases h3 : x < 4
          · rw [if_pos h3, if_pos h3]
          · rw [if_neg h3, if_neg h3]
            by_cases h4 : x < 19
            · rw [if_pos h4, if_pos h4, g 5 _ (by omega), g5 _ (by omega) (by omega)]
            · rw [if_neg h4, if_neg h4]
              by_cases h5 : x < 20
              · rw [if_pos h5, if_pos h5]
              · rw [if_neg h5, if_neg h5]
                by_cases h6 : x < 84
                · rw [if_pos h6, if_pos h6, Nat.add_assoc, Nat.add_assoc, g _ _ (by omega), gM _ _ (by omega) (by omega) (by omega)]
                · rw [if_neg h6, if_neg h6]
  · rw [up2_ne _ (x := n) (y := x) (by have := h 0 (by omega); omega), up2_ne _ (x := n) (y := x) (by have := h 0 (by omega); omega), up2_ne _ (x := n) (y := x) (by have := h 0 (by omega); omega)]
    exact hx x (fun j j1 j2 => h j j2)
/-- foreseeing -/
theorem CoOK.fr {σ σ' : Mem} {z : Zf} {c : Nat} (h : CoOK σ z c) (e : ∀ j, j ≤ 3 → σ' (44 + 4 * c + j) = σ (44 + 4 * c + j)) : CoOK σ' z c := by
  obtain ⟨len, h1, ⟨a, b, d, r⟩, h2⟩ := h
  have e0 := e 0 (by omega)
  rw [Nat.add_zero] at e0
  refine ⟨len, h1, ⟨by rw [e0]; exact a, by rw [e0]; exact b, by rw [e0]; exact d, fun k hk => ?_⟩, h2⟩
  obtain ⟨w, b1, b2, b3, b4⟩ := r k hk
  exact ⟨w, b1, by rw [e 1 (by omega)]; exact b2, by rw [e 2 (by omega)]; exact b3, by rw [e 3 (by omega)]; exact b4⟩
theorem s_foresee {σ : Mem} (hK : CK σ) (hz : zOK (zv σ 6)) : ∃ σ', F_X3_foresee σ = some σ' ∧ CA σ' ∧ zv σ' 6 = zv σ 6 ∧ ∀ x, x < 48 → σ' x = σ x := by
  have key : ∀ (m c fu : Nat) (σ1 : Mem), c + m = 16 → 1 ≤ c → m < fu → zv σ1 6 = zv σ 6 → (∀ x, x < 48 → σ1 x = σ x) → CK σ1 → (∀ d, 1 ≤ d → d < c → CoOK σ1 (zv σ 6) d) →
      ∃ σ', L_X3_foresee_2 fu (nI c) σ1 = some σ' ∧ CA σ' ∧ zv σ' 6 = zv σ 6 ∧ ∀ x, x < 48 → σ' x = σ x := by
    intro m
    induction m with
    | zero =>
      intro c fu σ1 hc h1 hf h2 h3 h4 h5
      obtain ⟨f, rfl⟩ : ∃ f, fu = f + 1 := ⟨fu - 1, by omega⟩
      have : c = 16 := by omega
      subst this
      refine ⟨σ1, by rw [L_X3_foresee_2, if_pos c16], ⟨by rw [h2]; exact hz, fun d d1 d2 => by rw [h2]; exact h5 d d1 (by omega)⟩, h2, h3⟩
    | succ m ih =>
      intro c fu σ1 hc h1 hf h2 h3 h4 h5
      obtain ⟨f, rfl⟩ : ∃ f, fu = f + 1 := ⟨fu - 1, by omega⟩
      obtain ⟨b0, b1⟩ := h4 c h1 (by omega)
      obtain ⟨σ2, e, hC, hF⟩ := s_follow h1 (by omega) (by rw [h2]; exact hz) b0 b1
      rw [L_X3_foresee_2, if_neg (c15 (by omega)), s_courseOf h1 (by omega), Option.bind_some, e, Option.bind_some, show nI c + (1 : Int32) = nI (c + 1) from nI_1 c]
      have hz2 : zv σ2 6 = zv σ 6 := (hF.zv h1).trans h2
      have hfr : ∀ d j, d ≠ c → j ≤ 3 → σ2 (44 + 4 * d + j) = σ1 (44 + 4 * d + j) := fun d j hd hj => hF _ (fun i hi => by omega)
      refine ih (c + 1) f σ2 (by omega) (by omega) (by omega) hz2 (fun x hx => ?_) (fun d d1 d2 => ?_) (fun d d1 d2 => ?_)
      · rw [hF x (fun i hi => by omega)]; exact h3 x hx
      · by_cases q : d = c
        · subst q
          obtain ⟨len, -, hR, -⟩ := hC
          exact ⟨hR.1, hR.2.1⟩
        · have := hfr d 0 q (by omega)
          rw [Nat.add_zero] at this
          rw [this]
          exact h4 d d1 d2
      · by_cases q : d = c
        · subst q; rw [h2] at hC; exact hC
        · exact (h5 d d1 (by omega)).fr (fun j hj => hfr d j q hj)
  exact key 15 1 FU σ rfl (by omega) (by decide) rfl (fun _ _ => rfl) hK (fun d d1 d2 => by omega)
