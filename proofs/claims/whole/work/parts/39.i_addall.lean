/-! addAll, both sides -/
def rT (σ : Mem) (q : Nat) : Mem := up2 σ 4 2 (nI q)
theorem rT_x (σ : Mem) (q x : Nat) (h : x ≠ 4) : rT σ q x = σ x := up2_ne _ (x := 4) (y := x) h
theorem rT_1 (σ : Mem) (q : Nat) : rT σ q 4 1 = σ 4 1 := by unfold rT up2; rw [if_neg (by omega)]
theorem rT_2 (σ : Mem) (q : Nat) : rT σ q 4 2 = nI q := by unfold rT up2; rw [if_pos ⟨rfl, rfl⟩]
theorem rT_rT (σ : Mem) (p q : Nat) : rT (rT σ p) q = rT σ q := up2_up2 _ _ _ _ _
theorem rT_buf {σ : Mem} {c : Nat → Nat} {L : Nat} (b : BufS σ c L) (q : Nat) : BufS (rT σ q) c L := ⟨b.1, by rw [rT_1]; exact b.2.1, fun i hi => by rw [rT_x _ _ _ (by omega)]; exact b.2.2.1 i hi, b.2.2.2.1, b.2.2.2.2⟩
section T42
variable {σ : Mem} {τ : Mem × Int64} {c : Nat → Nat} {L : Nat}
theorem s_readLoop (b : BufS σ c L) (s1 : Int32) {a k : Nat} (hd : ∀ n, n < k → dig (c (a + n)) = true) (hs : dig (c (a + k)) = false) (hk : a + k ≤ L) : ∀ (j n fu : Nat), n + j = k → j < fu → L_X2_readNumber_28 s1 fu (nI (dv c a n)) (rT σ (a + n)) = some (nI (dv c a k), rT σ (a + k)) := by
  have h1 := b.1
  intro j
  induction j with
  | zero =>
    intro n fu hn hf
    obtain ⟨f, rfl⟩ : ∃ f, fu = f + 1 := ⟨fu - 1, by omega⟩
    have : n = k := by omega
    subst this
    have hx := b.2.2.2.1 (a + n)
    rw [L_X2_readNumber_28, rT_1, rT_2, b.2.1]
    by_cases q : L ≤ a + n
    · rw [if_pos ((nI_le_iff (by omega) (by omega)).mpr q)]
    · rw [if_neg (fun w => q ((nI_le_iff (by omega) (by omega)).mp w)), s_code (rT_buf b _) (by omega), Option.bind_some, s_digit _ hx, hs, Option.bind_some, if_b0]
  | succ j ih =>
    intro n fu hn hf
    obtain ⟨f, rfl⟩ : ∃ f, fu = f + 1 := ⟨fu - 1, by omega⟩
    have hx := b.2.2.2.1 (a + n)
    have hdn := hd n (by omega)
    have hc := (dig_iff _).mp hdn
    rw [L_X2_readNumber_28, rT_1, rT_2, b.2.1, if_neg (fun w => absurd ((nI_le_iff (by omega) (by omega)).mp w) (by omega)), s_code (rT_buf b _) (by omega), Option.bind_some, s_digit _ hx, hdn, Option.bind_some, if_b1, Option.bind_some, show nI (a + n) + (1 : Int32) = nI (a + (n + 1)) from nI_1 (a + n)]
    have e : ((10 : Int32) * nI (dv c a n)) + nI (c (a + n)) - (48 : Int32) = nI (dv c a (n + 1)) := by
      rw [show (10 : Int32) * nI (dv c a n) = nI (10 * dv c a n) from pk_mul 10 _, nI_add, show nI (10 * dv c a n + c (a + n)) - (48 : Int32) = nI (10 * dv c a n + c (a + n) - 48) from pk_sub (b := 48) (by omega), dvs]
      congr 1; omega
    rw [e]
    show L_X2_readNumber_28 s1 f (nI (dv c a (n + 1))) (rT (rT σ (a + n)) (a + (n + 1))) = _
    rw [rT_rT]
    exact ih (n + 1) f (by omega) (by omega)
theorem s_readNumber (b : BufS σ c L) {p a k : Nat} (hp : σ 4 2 = nI p) (ea : a = (if c p = 43 ∨ c p = 45 then p + 1 else p)) (hd : ∀ n, n < k → dig (c (a + n)) = true) (hs : dig (c (a + k)) = false) (hk : a + k ≤ L) : F_X2_readNumber σ = some (sgn1 c p (dv c a k), rT σ (a + k)) := by
  have h1 := b.1
  have hpa : p ≤ a := by rw [ea]; split <;> omega
  have hx := b.2.2.2.1 p
  have hl := s_readLoop b (nI (c p)) hd hs hk k 0 FU (by omega) (by show k < 1000; omega)
  have hl : L_X2_readNumber_28 (nI (c p)) FU 0 (rT σ (a + 0)) = _ := hl
  rw [Nat.add_zero] at hl
  have hv : (if b2i (decide (c p = 43 ∨ c p = 45)) = 0 then some σ else some (up2 σ 4 2 ((σ 4 2) + (1 : Int32)))) = some (rT σ a) := by
    by_cases q : c p = 43 ∨ c p = 45
    · rw [decide_eq_true q, if_b1, hp, show nI p + (1 : Int32) = nI (p + 1) from nI_1 p, ea, if_pos q]; rfl
    · rw [decide_eq_false q, if_b0, ea, if_neg q]
      unfold rT; rw [← hp, up2_same]
  unfold F_X2_readNumber
  rw [hp, s_code b (by omega), Option.bind_some, s_sign _ hx, Option.bind_some]
  rw [← hp, hv, Option.bind_some, hl, Option.bind_some]
  unfold sgn1
  by_cases q : c p = 45
  · rw [if_neg (fun w => w (by rw [q]; rfl)), if_pos q]
  · rw [if_pos (show ¬ nI (c p) = (45 : Int32) from fun w => q ((nI_eq_iff (a := c p) (b := 45) (by omega) (by omega)).mp w)), if_neg q]
theorem s_two (b : BufS σ c L) {p e : Nat} {v s : Int32} (hp : σ 4 2 = nI p) (h : OneAt c p e v s) (he : dig (c e) = false) (heL : e ≤ L) : ∃ q, F_X2_readNumber σ = some (v, rT σ q) ∧ F_X2_readNumber (rT σ q) = some (s, rT σ e) := by
  obtain ⟨a, k1, b', k2, ea, h43, g1, d1, rfl, hb, g2, d2, rfl, rfl, rfl, -, -⟩ := h
  refine ⟨a + k1, s_readNumber b hp ?_ d1 ?_ (by omega), ?_⟩
  · rw [ea]
    by_cases q : c p = 45
    · rw [if_pos q, if_pos (Or.inr q)]
    · rw [if_neg q, if_neg (by omega)]
  · rcases hb with w | w <;> (rw [w]; rfl)
  · have := s_readNumber (rT_buf b (a + k1)) (rT_2 σ (a + k1)) (a := a + k1 + 1) (k := k2) (by rw [if_pos (by omega)]) d2 he heL
    rw [rT_rT] at this
    exact this
theorem Rest.le {c : Nat → Nat} : ∀ (l : List (Int32 × Int32)) (p : Nat), Rest c L l p → p ≤ L := by
  intro l
  induction l with
  | nil => intro p h; have h : L = p := h; omega
  | cons x xs ih =>
    intro p h
    obtain ⟨-, e, ⟨a, k1, b', k2, ea, -, -, -, rfl, -, -, -, rfl, -⟩, hr⟩ := h
    have := ih _ hr
    have : p + 1 ≤ a := by rw [ea]; split <;> omega
    omega
theorem Rest.nd {c : Nat → Nat} (h0 : ∀ i, L ≤ i → c i = 0) : ∀ (l : List (Int32 × Int32)) (p : Nat), Rest c L l p → dig (c p) = false := by
  intro l p h
  cases l with
  | nil => have h : L = p := h; rw [h0 p (by omega)]; rfl
  | cons x xs => rw [h.1]; rfl
/-- how many there are -/
def p59 (c : Nat → Nat) (i : Nat) : Bool := decide (c i = 59)
theorem s_inside (b : BufS σ c L) : F_X2_moversInside σ = some (nI (1 + fb_ct (p59 c) L)) := by
  have h1 := b.1
  unfold F_X2_moversInside
  obtain ⟨r, e, rfl⟩ := lp_inv (L := L_X2_moversInside_4 σ) L (fun k v => v = nI (1 + fb_ct (p59 c) k)) (fun v => v = nI (1 + fb_ct (p59 c) L))
    (fun fu k v hk hv => by
      subst hv
      refine ⟨_, ?_, rfl⟩
      have hx := b.2.2.2.1 k
      rw [L_X2_moversInside_4, b.2.1, if_neg (fun w => absurd ((nI_le_iff (by omega) (by omega)).mp w) (by omega)), s_code b (by omega), Option.bind_some, show nI k + (1 : Int32) = nI (k + 1) from nI_1 k, fb_ct_succ]
      by_cases q : c k = 59
      · rw [if_neg (fun w => w (by rw [q]; rfl)), Option.bind_some, show nI (1 + fb_ct (p59 c) k) + (1 : Int32) = nI (1 + fb_ct (p59 c) k + 1) from nI_1 _]
        have : p59 c k = true := decide_eq_true q
        rw [this]; rfl
      · rw [if_pos (show ¬ nI (c k) = (59 : Int32) from fun w => q ((nI_eq_iff (a := c k) (b := 59) (by omega) (by omega)).mp w)), Option.bind_some]
        have : p59 c k = false := decide_eq_false q
        rw [this]; rfl)
    (fun fu v hv => ⟨v, by rw [L_X2_moversInside_4, b.2.1, if_pos ((nI_le_iff (by omega) (by omega)).mpr (Nat.le_refl _))], hv⟩) L 0 FU 1 (by omega) (by show L < 1000; omega) rfl
  have e : L_X2_moversInside_4 σ FU 1 0 = _ := e
  rw [e]; rfl
theorem ct_run {q : Nat → Bool} {p : Nat} : ∀ n, (∀ i, i < n → q (p + i) = false) → fb_ct q (p + n) = fb_ct q p := by
  intro n
  induction n with
  | zero => intro _; rfl
  | succ n ih =>
    intro h
    show fb_ct q (p + n + 1) = _
    rw [fb_ct_succ, h n (by omega), ih (fun i hi => h i (by omega))]; rfl
theorem one_ct {p e : Nat} {v s : Int32} (h : OneAt c p e v s) : fb_ct (p59 c) e = fb_ct (p59 c) p := by
  obtain ⟨a, k1, b', k2, ea, h43, g1, d1, rfl, hb, g2, d2, rfl, -⟩ := h
  have nd : ∀ x, dig x = true → x ≠ 59 := fun x hx w => by rw [w] at hx; cases hx
  have hpa : (c p = 45 ∧ a = p + 1) ∨ (c p ≠ 45 ∧ a = p) := by
    by_cases q : c p = 45
    · rw [if_pos q] at ea; exact Or.inl ⟨q, ea⟩
    · rw [if_neg q] at ea; exact Or.inr ⟨q, ea⟩
  rw [show a + k1 + 1 + k2 = p + (a + k1 + 1 + k2 - p) by omega]
  refine ct_run _ (fun i hi => decide_eq_false ?_)
  by_cases h1 : p + i < a
  · have : p + i = p := by omega
    rw [this]; omega
  · by_cases h2 : p + i < a + k1
    · have := nd _ (d1 (p + i - a) (by omega))
      rw [show a + (p + i - a) = p + i by omega] at this; exact this
    · by_cases h3 : p + i = a + k1
      · rw [h3]; omega
      · have := nd _ (d2 (p + i - (a + k1 + 1)) (by omega))
        rw [show a + k1 + 1 + (p + i - (a + k1 + 1)) = p + i by omega] at this; exact this
theorem rest_ct : ∀ (l : List (Int32 × Int32)) (p : Nat), Rest c L l p → fb_ct (p59 c) L = fb_ct (p59 c) p + l.length := by
  intro l
  induction l with
  | nil => intro p h; have h : L = p := h; rw [h]; rfl
  | cons x xs ih =>
    intro p h
    obtain ⟨hc, e, h1, h2⟩ := h
    have hp : p59 c p = true := decide_eq_true hc
    rw [ih e h2, one_ct h1, fb_ct_succ, hp]
    simp only [List.length_cons, if_true]; omega
theorem full_ct {l : List (Int32 × Int32)} (h : Full c L l) : 1 + fb_ct (p59 c) L = l.length := by
  cases l with
  | nil => exact h.elim
  | cons x xs =>
    obtain ⟨e, h1, h2⟩ := h
    rw [rest_ct xs e h2, one_ct h1]
    simp only [List.length_cons]
    show 1 + (0 + xs.length) = _
    omega
/-- the movers that are still to be read, from p on -/
def Sg (c : Nat → Nat) (L : Nat) : List (Int32 × Int32) → Nat → Prop
  | [], _ => True
  | x :: xs, p => ∃ e, OneAt c p e x.1 x.2 ∧ Rest c L xs e
theorem fsl_none {z : Zf} : ∀ (m k : Nat), fsl z m k = none → ∀ i, k ≤ i → i < k + m → tk z i = true := by
  intro m
  induction m with
  | zero => intro k _ i h1 h2; omega
  | succ m ih =>
    intro k h i h1 h2
    rw [fsl] at h
    by_cases ht : tk z k = true
    · rw [if_pos ht] at h
      by_cases q : i = k
      · rw [q]; exact ht
      · exact ih (k + 1) h i (by omega) (by omega)
    · rw [if_neg ht] at h; cases h
theorem ct_full {z : Zf} (h : fsl z 16 0 = none) : fb_ct (tk z) 16 = 16 := by
  have h1 := fb_ct_not (tk z) 16
  have h2 : fb_ct (fun k => !tk z k) 16 = 0 := fb_ct_zero.mpr (fun k hk => by rw [fsl_none 16 0 h k (by omega) (by omega)]; rfl)
  omega
theorem ct_put {z : Zf} {i : Nat} {a b d : Int32} (hi : i < 16) (h : tk z i = false) : fb_ct (tk (putZ z i 1 a b d)) 16 = fb_ct (tk z) 16 + 1 := by
  have e : tk (putZ z i 1 a b d) = fun k => if k = i then true else tk z k := by
    funext k
    unfold tk putZ up1
    rw [if_neg (by omega), if_neg (by omega), if_neg (by omega)]
    by_cases q : k = i
    · rw [if_pos (by omega), if_pos q]; rfl
    · rw [if_neg (by omega), if_neg q]
  rw [e]
  have := fb_ct_upd (tk z) true hi
  rw [h] at this
  simpa using this
theorem add_loop : ∀ (l : List (Int32 × Int32)) (t p fu N : Nat) (σ : Mem) (τ : Mem × Int64), Sg c L l p → t + l.length = N → N ≤ 16 → l.length < fu → BufS σ c L → σ 4 2 = nI p → zv σ 6 = mz τ → zOK (mz τ) → fb_ct (tk (mz τ)) 16 + l.length ≤ 16 → RdL τ l t → τ.1 0 15 = nI N →
    ∃ σ' τ', L_X3_addAll_65 (nI N) fu (nI t) σ = some σ' ∧ L_X4_addAll_44 fu (nI t) τ = some τ' ∧ zv σ' 6 = mz τ' ∧ zOK (mz τ') ∧ (∀ x, x ≠ 4 → x < 6 ∨ 12 ≤ x → σ' x = σ x) ∧ Off1 τ τ' := by
  intro l
  induction l with
  | nil =>
    intro t p fu N σ τ hS hN hN2 hf b hp hz hok hct hrd h15
    obtain ⟨f, rfl⟩ : ∃ f, fu = f + 1 := ⟨fu - 1, by omega⟩
    have : t = N := by simpa using hN
    subst this
    exact ⟨σ, τ, by rw [L_X3_addAll_65, if_pos ((nI_le_iff (by omega) (by omega)).mpr (Nat.le_refl _))], by rw [L_X4_addAll_44, h15, if_pos ((nI_le_iff (by omega) (by omega)).mpr (Nat.le_refl _))], hz, hok, fun _ _ _ => rfl, fun _ _ => rfl⟩
  | cons x xs ih =>
    intro t p fu N σ τ hS hN hN2 hf b hp hz hok hct hrd h15
    obtain ⟨f, rfl⟩ : ∃ f, fu = f + 1 := ⟨fu - 1, by omega⟩
    simp only [List.length_cons] at hN hf hct
    obtain ⟨e, hO, hR⟩ := hS
    have heL := Rest.le xs e hR
    have hnd := Rest.nd b.2.2.2.2 xs e hR
    obtain ⟨q, r1, r2⟩ := s_two b hp hO hnd heL
    obtain ⟨rd1, rd2, rd3⟩ := hrd
    -- a free slot
    obtain ⟨i, hfs⟩ : ∃ i, fsl (mz τ) 16 0 = some i := by
      cases hq : fsl (mz τ) 16 0 with
      | none => have := ct_full hq; omega
      | some i => exact ⟨i, rfl⟩
    obtain ⟨-, hi, hfree⟩ := fsl_some 16 0 i hfs
    have hi : i < 16 := by omega
    have zr : zv (rT σ (e + 1)) 6 = zv σ 6 := zv_cong (fun j k hj => by rw [rT_x _ _ _ (by omega)])
    obtain ⟨σ1, p1, p2, p3⟩ := s_put (σ := rT σ (e + 1)) hi x.1 x.2
    obtain ⟨τ1, a1, a2, a3, a4⟩ := m_addNow (τ := τ) x.1 x.2 hfs
    have hvb : (-1000000 ≤ x.1.toInt ∧ x.1.toInt ≤ 1000000) ∧ (-99 ≤ x.2.toInt ∧ x.2.toInt ≤ 99) := by
      obtain ⟨a, k1, b', k2, -, -, -, -, -, -, -, -, -, ev, es, l1, l2⟩ := hO
      have key : ∀ (p y : Nat) (B : Int), (y : Int) ≤ B → B ≤ 9999 → -B ≤ (sgn1 c p y).toInt ∧ (sgn1 c p y).toInt ≤ B := fun p y B hy hB => by
        unfold sgn1
        have e1 : (nI y).toInt = (y : Int) := nI_toInt (by omega)
        split
        · rw [fb_negI (by rw [e1]; omega), e1]; omega
        · rw [e1]; omega
      rw [ev, es]
      have v1 := key p (dv c a k1) 9999 (by omega) (by omega)
      have v2 := key b' (dv c (b' + 1) k2) 99 (by omega) (by omega)
      omega
    have hok1 : zOK (mz τ1) := by rw [a3]; exact putZ_ok hok hi (Or.inr rfl) hvb.1 hvb.2
    have hz1 : zv σ1 6 = mz τ1 := by rw [p2, a3, zr, hz]
    have hct1 : fb_ct (tk (mz τ1)) 16 + xs.length ≤ 16 := by rw [a3, ct_put hi hfree]; omega
    have b1 : BufS σ1 c L := by
      have := rT_buf b (e + 1)
      exact ⟨this.1, by rw [p3 4 (by omega)]; exact this.2.1, fun j hj => by rw [p3 5 (by omega)]; exact this.2.2.1 j hj, this.2.2.2.1, this.2.2.2.2⟩
    have hSx : Sg c L xs (e + 1) := by
      cases xs with
      | nil => trivial
      | cons y ys => exact hR.2
    obtain ⟨σ', τ', f1, f2, f3, f4, f5, f6⟩ := ih (t + 1) (e + 1) f N σ1 τ1 hSx (by omega) hN2 (by omega) b1 (by rw [p3 4 (by omega)]; exact rT_2 σ (e + 1)) hz1 hok1 hct1 (RdL.cong (a2 5 (by omega)) xs (t + 1) rd3) (by rw [a2 0 (by omega)]; exact h15)
    have hin : inb (nI (2 * t)) 44 = true ∧ inb (nI (2 * t) + (1 : Int32)) 44 = true := by
      rw [show nI (2 * t) + (1 : Int32) = nI (2 * t + 1) from nI_1 _]
      exact ⟨inb_nI (by omega) (by decide), inb_nI (by omega) (by decide)⟩
    refine ⟨σ', τ', ?_, ?_, f3, f4, fun y h4 hy => ?_, fun y hy => (f6 y hy).trans (a2 y hy)⟩
    · rw [L_X3_addAll_65, if_neg (fun w => absurd ((nI_le_iff (by omega) (by omega)).mp w) (by omega)), r1, Option.bind_some]
      show Option.bind (F_X2_readNumber (rT σ q)) _ = _
      rw [r2, Option.bind_some]
      have hk : F_X2_skipCode (rT σ e) = some (rT σ (e + 1)) := by
        unfold F_X2_skipCode
        rw [rT_2, show nI e + (1 : Int32) = nI (e + 1) from nI_1 e]
        show some (rT (rT σ e) (e + 1)) = _
        rw [rT_rT]
      show Option.bind (F_X2_skipCode (rT σ e)) _ = _
      rw [hk, Option.bind_some, s_free (by rw [zr, hz]; exact hok), zr, hz, hfs, Option.bind_some]
      show Option.bind (F_X1_put 6 (nI i) x.1 x.2 (rT σ (e + 1))) _ = _
      rw [p1, Option.bind_some, show nI t + (1 : Int32) = nI (t + 1) from nI_1 t]
      exact f1
    · rw [L_X4_addAll_44, h15, if_neg (fun w => absurd ((nI_le_iff (by omega) (by omega)).mp w) (by omega)), show (2 : Int32) * nI t = nI (2 * t) from pk_mul 2 t, if_pos hin.1, if_pos hin.2, show nI (2 * t) + (1 : Int32) = nI (2 * t + 1) from nI_1 _, nI_clamp (by omega), nI_clamp (by omega), rd1, rd2, a1, Option.bind_some, show nI t + (1 : Int32) = nI (t + 1) from nI_1 t]
      exact f2
    · rw [f5 y h4 hy, p3 y hy, rT_x _ _ _ h4]
end T42
theorem m_failsK {τ τ1 : Mem × Int64} (K : Keep5 τ τ1) (k : Int32) : ∃ τ', F_X4_fails k τ1 = some (0, τ') ∧ Keep5 τ τ' ∧ τ'.1 0 5 = k := by
  obtain ⟨k1, k2, k3, k4, k5⟩ := K
  refine ⟨(up2 τ1.1 0 5 k, τ1.2), rfl, ⟨?_, ?_, ?_, ?_, ?_⟩, by show up2 τ1.1 0 5 k 0 5 = k; unfold up2; rw [if_pos ⟨rfl, rfl⟩]⟩
  · exact (up2_ne τ1.1 (x := 0) (y := 1) (k := 5) (v := k) (by omega)).trans k1
  · exact (up2_ne τ1.1 (x := 0) (y := 2) (k := 5) (v := k) (by omega)).trans k2
  · exact (up2_ne τ1.1 (x := 0) (y := 3) (k := 5) (v := k) (by omega)).trans k3
  · show up2 τ1.1 0 5 k 0 2 = _
    unfold up2; rw [if_neg (by omega)]; exact k4
  · show up2 τ1.1 0 5 k 0 4 = _
    unfold up2; rw [if_neg (by omega)]; exact k5
theorem o_addAll {σ : Mem} {τ : Mem × Int64} (R : Rel σ τ) : ∃ res v τ', F_X3_addAll σ = some res ∧ F_X4_addAll τ = some (v, τ') ∧ AgM [(0, 1), (1, 2)] res σ τ v τ' := by
  obtain ⟨c, L, bs, bm⟩ := R.2.2.2.buf
  obtain ⟨r, τ1, p', e, K, q1, q2, q3, q4, q5⟩ := m_isText bm.t0
  obtain ⟨K5, h5⟩ := K.k5
  have hz1 : mz τ1 = zv σ 6 := (mz_cong K5.1).trans R.1.symm
  unfold F_X4_addAll F_X3_addAll
  rw [show (up2 τ.1 0 5 (0 : Int32), τ.2) = t0 τ from rfl, e, Option.bind_some, s_complete bs, Option.bind_some]
  rcases q5 with ⟨rfl, -, hc, l, hF, h15, hl, hrd⟩ | ⟨rfl, hc⟩
  · have hN := full_ct hF
    have hcm := fb_ct_le (tk (zv σ 6)) 16
    rw [decide_eq_true hc, if_c1, if_c1, s_inside bs, hN, Option.bind_some, s_movers R.2.1.1, Option.bind_some, m_movers (by rw [hz1]; exact R.2.1.1), hz1, Option.bind_some]
    show ∃ res v τ', _ ∧ (if nI (fb_ct (tk (zv σ 6)) 16) + τ1.1 0 15 ≤ (16 : Int32) then Option.bind (F_X4_save τ1) _ else Option.bind (F_X4_fails (2 : Int32) τ1) _) = _ ∧ _
    rw [h15, nI_add, show (16 : Int32) - nI (fb_ct (tk (zv σ 6)) 16) = nI (16 - fb_ct (tk (zv σ 6)) 16) from pk_sub (a := 16) hcm]
    by_cases hle : fb_ct (tk (zv σ 6)) 16 + l.length ≤ 16
    · rw [if_pos ((nI_le_iff (by omega) (by omega)).mpr (by omega)), if_pos (show nI (fb_ct (tk (zv σ 6)) 16 + l.length) ≤ (16 : Int32) from (nI_le_iff (b := 16) (by omega) (by omega)).mpr hle)]
      obtain ⟨σ2, τ2, s1, s2, RS2, f2, K2⟩ := save_ok (R.rs.k5 K5)
      have zs2 : zv σ2 6 = mz τ2 := RS2.1
      have zm2 : mz τ2 = mz τ1 := K2.mz
      have b2 : BufS (rT σ2 0) c L := rT_buf ⟨bs.1, by rw [f2 4 (by omega) (by omega)]; exact bs.2.1, fun i hi => by rw [f2 5 (by omega) (by omega)]; exact bs.2.2.1 i hi, bs.2.2.2.1, bs.2.2.2.2⟩ 0
      have zr : zv (rT σ2 0) 6 = zv σ2 6 := zv_cong (fun j k hj => by rw [rT_x _ _ _ (by omega)])
      have hSg : Sg c L l 0 := by
        cases l with
        | nil => trivial
        | cons x xs => exact hF
      obtain ⟨σ3, τ3, g1, g2, g3, g4, g5, g6⟩ := add_loop l 0 0 FU l.length (rT σ2 0) τ2 hSg (by omega) hl (by show l.length < 1000; omega) b2 (rT_2 σ2 0) (by rw [zr]; exact zs2) (by rw [← zs2]; exact RS2.2.1) (by rw [zm2, hz1]; exact hle) (RdL.cong (K2.1 5 (by omega) (by omega)) l 0 hrd) (by rw [K2.2.1 15 (by omega)]; exact h15)
      have g1 : L_X3_addAll_65 (nI l.length) FU 0 (rT σ2 0) = some σ3 := g1
      have g2 : L_X4_addAll_44 FU 0 τ2 = some τ3 := g2
      obtain ⟨σ4, h4⟩ : ∃ m : Mem, m = up2 σ3 4 1 (0 : Int32) := ⟨_, rfl⟩
      obtain ⟨τ4, i4⟩ : ∃ x : Mem × Int64, x = (up2 τ3.1 0 4 (0 : Int32), τ3.2) := ⟨_, rfl⟩
      have fx : ∀ x, x ≠ 4 → x < 6 ∨ 12 ≤ x → σ4 x = σ2 x := fun x h hx => by rw [h4, up2_ne _ (x := 4) (y := x) h, g5 x h hx, rT_x _ _ _ h]
      have ft : ∀ x, x ≠ 0 → x ≠ 1 → τ4.1 x = τ2.1 x := fun x h0 h1 => by
        rw [i4]
        show (up2 τ3.1 0 4 (0 : Int32)) x = _
        rw [up2_ne _ (x := 0) (y := x) h0, g6 x h1]
      have ft0 : ∀ k, τ4.1 0 k = if k = 4 then 0 else τ2.1 0 k := fun k => by
        rw [i4]
        show (up2 τ3.1 0 4 (0 : Int32)) 0 k = _
        unfold up2
        by_cases q : k = 4
        · rw [if_pos ⟨rfl, q⟩, if_pos q]
        · rw [if_neg (fun w => q w.2), if_neg q, g6 0 (by omega)]
      have zs4 : zv σ4 6 = zv σ3 6 := zv_cong (fun j k hj => by rw [h4, up2_ne _ (x := 4) (y := 6 + j) (by omega)])
      have zm4 : mz τ4 = mz τ3 := mz_cong (by rw [i4]; exact up2_ne τ3.1 (x := 0) (y := 1) (k := 4) (v := 0) (by omega))
      have RS4 : RS σ4 τ4 := by
        obtain ⟨w1, w2, w3, ⟨o, s, o1, s1, r1, r2, r3, r4⟩, -⟩ := RS2
        have em : ∀ k, mrow τ4 k = mrow τ2 k := fun k => by funext x; unfold mrow; rw [ft 2 (by omega) (by omega)]
        refine ⟨by rw [zs4, zm4]; exact g3, by rw [zs4, g3]; exact g4, fun c' c1 c2 => by rw [fx _ (by omega) (by omega)]; exact w3 c' c1 c2, ⟨o, s, o1, s1, by rw [fx 0 (by omega) (by omega)]; exact r1, by rw [fx 0 (by omega) (by omega)]; exact r2, by rw [ft0, if_neg (by omega)]; exact r3, fun k hk => ?_⟩, ⟨0, by omega, ?_, ?_, fun i hi => by omega⟩⟩
        · rw [em, zv_cong (σ := σ2) (n := 12 + 6 * ((o + k) % 6)) (fun j i hj => by rw [fx _ (by omega) (by omega)])]; exact r4 k hk
        · rw [h4]; unfold up2; rw [if_pos ⟨rfl, rfl⟩]; rfl
        · rw [ft0, if_pos rfl]; rfl
      obtain ⟨σ5, e5, R5, -⟩ := RS4.fin
      have h55 : τ4.1 0 5 = 0 := by rw [ft0, if_neg (by omega), K2.2.1 5 (by omega)]; exact h5
      refine ⟨.inr (nI (fb_ct (tk (zv σ5 6)) 16), σ5), nI (fb_ct (tk (zv σ5 6)) 16), τ4, ?_, ?_, h55, rfl, R5⟩
      · rw [s1, Option.bind_some]
        show inR (Option.bind (F_X2_startReading σ2) _) = _
        have : F_X2_startReading σ2 = some (rT σ2 0) := rfl
        rw [this, Option.bind_some, g1, Option.bind_some, ← h4, e5, Option.bind_some, s_movers R5.2.1.1]; rfl
      · rw [s2, Option.bind_some, g2, Option.bind_some, ← i4, m_movers (by rw [← R5.1]; exact R5.2.1.1), R5.1]; rfl
    · rw [if_neg (fun w => hle (by have := (nI_le_iff (by omega) (by omega)).mp w; omega)), if_neg (show ¬ nI (fb_ct (tk (zv σ 6)) 16 + l.length) ≤ (16 : Int32) from fun w => hle ((nI_le_iff (b := 16) (by omega) (by omega)).mp w))]
      obtain ⟨τ', f1, f2, f3⟩ := m_failsK K5 2
      refine ⟨.inl 1, 0, τ', rfl, by rw [f1]; rfl, ?_, f2.rel R⟩
      rw [f3]; exact List.mem_cons_of_mem _ (List.mem_cons_self ..)
  · rw [decide_eq_false hc, if_c0, if_c0]
    obtain ⟨τ', f1, f2, f3⟩ := m_failsK K5 1
    refine ⟨.inl 0, 0, τ', rfl, ?_, ?_, f2.rel R⟩
    · show Option.bind (F_X4_fails (1 : Int32) τ1) _ = _
      rw [f1]; rfl
    · rw [f3]; exact List.mem_cons_self ..
