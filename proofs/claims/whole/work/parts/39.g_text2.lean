/-! one mover of the text; the whole text on the reference's side -/
section T40
variable {σ : Mem} {τ : Mem × Int64} {c : Nat → Nat} {L : Nat}
theorem dig_iff (x : Nat) : dig x = true ↔ 48 ≤ x ∧ x ≤ 57 := by unfold dig; simp
theorem st_s (c : Nat → Nat) (i : Nat) : st c (i + 1) = pa (st c i) (c i) := rfl
theorem dv1 (c : Nat → Nat) (a : Nat) : dv c a 1 = c a - 48 := by show 10 * 0 + (c (a + 0) - 48) = _; rw [Nat.mul_zero, Nat.zero_add, Nat.add_zero]
theorem dvs (c : Nat → Nat) (a n : Nat) : dv c a (n + 1) = 10 * dv c a n + (c (a + n) - 48) := rfl
/-- the value: how far it goes, and how the reading stands then -/
theorem value_spec {a : Nat} (h : st c a = 0 ∧ c a ≠ 45 ∨ st c a = 1) : ∃ k, (∀ n, n < k → nC c 9999 a n) ∧ ¬ nC c 9999 a k ∧ (∀ n, n < k → dig (c (a + n)) = true) ∧ ((k = 0 ∧ st c (a + 1) = 9) ∨ (1 ≤ k ∧ 2 ≤ st c (a + k) ∧ st c (a + k) ≤ 5 ∧ (st c (a + k) < 5 → dig (c (a + k)) = false))) := by
  have hn : ∀ k, dig (c (a + k)) = false → ¬ nC c 9999 a k := fun k hk w => by have := w.1; rw [hk] at this; cases this
  by_cases d0 : dig (c a) = true
  · have b0 := (dig_iff _).mp d0
    by_cases z0 : c a = 48
    · have e1 : st c (a + 1) = 5 := by
        rw [st_s]
        rcases h with ⟨h, h'⟩ | h
        · rw [h]; unfold pa; rw [if_pos rfl, if_neg h', if_pos z0]
        · rw [h]; unfold pa; rw [if_neg (by decide), if_pos rfl, if_pos z0]
      refine ⟨1, fun n hn => ?_, fun w => ?_, fun n hn => ?_, Or.inr ⟨by omega, by omega, by omega, fun w => by omega⟩⟩
      · have : n = 0 := by omega
        subst this
        exact ⟨d0, Or.inl rfl, by rw [dv1]; omega⟩
      · rcases w.2.1 with q | q
        · omega
        · exact q (by rw [dv1]; omega)
      · have : n = 0 := by omega
        subst this; exact d0
    · have e1 : st c (a + 1) = 2 := by
        rw [st_s]
        rcases h with ⟨h, h'⟩ | h
        · rw [h]; unfold pa; rw [if_pos rfl, if_neg h', if_neg z0, if_pos d0]
        · rw [h]; unfold pa; rw [if_neg (by decide), if_pos rfl, if_neg z0, if_pos d0]
      have v1 := dv1 c a
      have c0 : nC c 9999 a 0 := ⟨d0, Or.inl rfl, by rw [dv1]; omega⟩
      by_cases d1 : dig (c (a + 1)) = true
      · have b1 := (dig_iff _).mp d1
        have v2 : dv c a 2 = 10 * dv c a 1 + (c (a + 1) - 48) := dvs c a 1
        have e2 : st c (a + 2) = 3 := by rw [st_s, e1]; unfold pa; rw [if_neg (by decide), if_neg (by decide), if_pos (by decide), if_pos d1]
        have c1 : nC c 9999 a 1 := ⟨d1, Or.inr (by omega), by rw [dvs]; omega⟩
        by_cases d2 : dig (c (a + 2)) = true
        · have b2 := (dig_iff _).mp d2
          have v3 : dv c a 3 = 10 * dv c a 2 + (c (a + 2) - 48) := dvs c a 2
          have e3 : st c (a + 3) = 4 := by rw [st_s, e2]; unfold pa; rw [if_neg (by decide), if_neg (by decide), if_pos (by decide), if_pos d2]
          have c2 : nC c 9999 a 2 := ⟨d2, Or.inr (by omega), by rw [dvs]; omega⟩
          by_cases d3 : dig (c (a + 3)) = true
          · have b3 := (dig_iff _).mp d3
            have v4 : dv c a 4 = 10 * dv c a 3 + (c (a + 3) - 48) := dvs c a 3
            have e4 : st c (a + 4) = 5 := by rw [st_s, e3]; unfold pa; rw [if_neg (by decide), if_neg (by decide), if_pos (by decide), if_pos d3]
            have c3 : nC c 9999 a 3 := ⟨d3, Or.inr (by omega), by rw [dvs]; omega⟩
            refine ⟨4, fun n hn => ?_, fun w => ?_, fun n hn => ?_, Or.inr ⟨by omega, by omega, by omega, fun w => by omega⟩⟩
            · rcases (show n = 0 ∨ n = 1 ∨ n = 2 ∨ n = 3 by omega) with rfl | rfl | rfl | rfl
              · exact c0
              · exact c1
              · exact c2
              · exact c3
            · have := w.2.2
              rw [dvs] at this
              omega
            · rcases (show n = 0 ∨ n = 1 ∨ n = 2 ∨ n = 3 by omega) with rfl | rfl | rfl | rfl
              · exact d0
              · exact d1
              · exact d2
              · exact d3
          · refine ⟨3, fun n hn' => ?_, hn 3 (Bool.not_eq_true _ ▸ d3), fun n hn => ?_, Or.inr ⟨by omega, by omega, by omega, fun _ => Bool.not_eq_true _ ▸ d3⟩⟩
            · rcases (show n = 0 ∨ n = 1 ∨ n = 2 by omega) with rfl | rfl | rfl
              · exact c0
              · exact c1
              · exact c2
            · rcases (show n = 0 ∨ n = 1 ∨ n = 2 by omega) with rfl | rfl | rfl
              · exact d0
              · exact d1
              · exact d2
        · refine ⟨2, fun n hn' => ?_, hn 2 (Bool.not_eq_true _ ▸ d2), fun n hn => ?_, Or.inr ⟨by omega, by omega, by omega, fun _ => Bool.not_eq_true _ ▸ d2⟩⟩
          · rcases (show n = 0 ∨ n = 1 by omega) with rfl | rfl
            · exact c0
            · exact c1
          · rcases (show n = 0 ∨ n = 1 by omega) with rfl | rfl
            · exact d0
            · exact d1
      · refine ⟨1, fun n hn' => ?_, hn 1 (Bool.not_eq_true _ ▸ d1), fun n hn => ?_, Or.inr ⟨by omega, by omega, by omega, fun _ => Bool.not_eq_true _ ▸ d1⟩⟩
        · have : n = 0 := by omega
          subst this; exact c0
        · have : n = 0 := by omega
          subst this; exact d0
  · have d0 : dig (c a) = false := Bool.not_eq_true _ ▸ d0
    have z0 : c a ≠ 48 := fun e => by rw [e] at d0; cases d0
    refine ⟨0, fun n hn => by omega, hn 0 d0, fun n hn => by omega, Or.inl ⟨rfl, ?_⟩⟩
    rw [st_s]
    rcases h with ⟨h, h'⟩ | h
    · rw [h]; unfold pa; rw [if_pos rfl, if_neg h', if_neg z0, d0]; rfl
    · rw [h]; unfold pa; rw [if_neg (by decide), if_pos rfl, if_neg z0, d0]; rfl
theorem speed_spec {a : Nat} (h : st c a = 6) : ∃ k, (∀ n, n < k → nC c 99 a n) ∧ ¬ nC c 99 a k ∧ (∀ n, n < k → dig (c (a + n)) = true) ∧ ((k = 0 ∧ st c (a + 1) = 9) ∨ (1 ≤ k ∧ (st c (a + k) = 8 ∨ (st c (a + k) = 7 ∧ dig (c (a + k)) = false)))) := by
  have hn : ∀ k, dig (c (a + k)) = false → ¬ nC c 99 a k := fun k hk w => by have := w.1; rw [hk] at this; cases this
  by_cases d0 : dig (c a) = true
  · have b0 := (dig_iff _).mp d0
    by_cases z0 : c a = 48
    · have e1 : st c (a + 1) = 8 := by
        rw [st_s, h]; unfold pa; rw [if_neg (by decide), if_neg (by decide), if_neg (by decide), if_neg (by decide), if_pos rfl, if_pos z0]
      refine ⟨1, fun n hn => ?_, fun w => ?_, fun n hn => ?_, Or.inr ⟨by omega, Or.inl e1⟩⟩
      · have : n = 0 := by omega
        subst this
        exact ⟨d0, Or.inl rfl, by rw [dv1]; omega⟩
      · rcases w.2.1 with q | q
        · omega
        · exact q (by rw [dv1]; omega)
      · have : n = 0 := by omega
        subst this; exact d0
    · have e1 : st c (a + 1) = 7 := by
        rw [st_s, h]; unfold pa; rw [if_neg (by decide), if_neg (by decide), if_neg (by decide), if_neg (by decide), if_pos rfl, if_neg z0, if_pos d0]
      have v1 := dv1 c a
      have c0 : nC c 99 a 0 := ⟨d0, Or.inl rfl, by rw [dv1]; omega⟩
      by_cases d1 : dig (c (a + 1)) = true
      · have b1 := (dig_iff _).mp d1
        have v2 : dv c a 2 = 10 * dv c a 1 + (c (a + 1) - 48) := dvs c a 1
        have e2 : st c (a + 2) = 8 := by rw [st_s, e1]; unfold pa; rw [if_neg (by decide), if_neg (by decide), if_neg (by decide), if_neg (by decide), if_neg (by decide), if_pos rfl, if_pos d1]
        have c1 : nC c 99 a 1 := ⟨d1, Or.inr (by omega), by rw [dvs]; omega⟩
        refine ⟨2, fun n hn => ?_, fun w => ?_, fun n hn => ?_, Or.inr ⟨by omega, Or.inl e2⟩⟩
        · rcases (show n = 0 ∨ n = 1 by omega) with rfl | rfl
          · exact c0
          · exact c1
        · have := w.2.2
          rw [dvs] at this
          omega
        · rcases (show n = 0 ∨ n = 1 by omega) with rfl | rfl
          · exact d0
          · exact d1
      · refine ⟨1, fun n hn' => ?_, hn 1 (Bool.not_eq_true _ ▸ d1), fun n hn => ?_, Or.inr ⟨by omega, Or.inr ⟨e1, Bool.not_eq_true _ ▸ d1⟩⟩⟩
        · have : n = 0 := by omega
          subst this; exact c0
        · have : n = 0 := by omega
          subst this; exact d0
  · have d0 : dig (c a) = false := Bool.not_eq_true _ ▸ d0
    have z0 : c a ≠ 48 := fun e => by rw [e] at d0; cases d0
    refine ⟨0, fun n hn => by omega, hn 0 d0, fun n hn => by omega, Or.inl ⟨rfl, ?_⟩⟩
    rw [st_s, h]; unfold pa; rw [if_neg (by decide), if_neg (by decide), if_neg (by decide), if_neg (by decide), if_pos rfl, if_neg z0, d0]; rfl
/-- one mover from p to e -/
def sgn1 (c : Nat → Nat) (p : Nat) (x : Nat) : Int32 := if c p = 45 then -nI x else nI x
def OneAt (c : Nat → Nat) (p e : Nat) (v s : Int32) : Prop := ∃ a k1 b k2, a = (if c p = 45 then p + 1 else p) ∧ c p ≠ 43 ∧ 1 ≤ k1 ∧ (∀ n, n < k1 → dig (c (a + n)) = true) ∧ b = a + k1 ∧ (c b = 45 ∨ c b = 43) ∧ 1 ≤ k2 ∧ (∀ n, n < k2 → dig (c (b + 1 + n)) = true) ∧ e = b + 1 + k2 ∧ v = sgn1 c p (dv c a k1) ∧ s = sgn1 c b (dv c (b + 1) k2) ∧ dv c a k1 ≤ 9999 ∧ dv c (b + 1) k2 ≤ 99
theorem pa_sign {q x : Nat} (h2 : 2 ≤ q) (h5 : q ≤ 5) (hd : q < 5 → dig x = false) : ((x = 45 ∨ x = 43) → pa q x = 6) ∧ (¬ (x = 45 ∨ x = 43) → pa q x = 9) := by
  have hs : (x = 45 ∨ x = 43) → dig x = false := fun w => by rcases w with rfl | rfl <;> rfl
  unfold pa
  rw [if_neg (by omega), if_neg (by omega)]
  by_cases q5 : q = 5
  · rw [if_neg (by omega), if_pos q5]
    exact ⟨fun w => if_pos (by omega), fun w => if_neg (by omega)⟩
  · have := hd (by omega)
    rw [if_pos (by omega), if_neg (by rw [this]; decide)]
    exact ⟨fun w => if_pos (by omega), fun w => if_neg (by omega)⟩
def put5 (τ : Mem × Int64) (i : Nat) (v : Int32) : Mem × Int64 := (up2 τ.1 5 i v, τ.2)
theorem put5_k (τ : Mem × Int64) (i : Nat) (v : Int32) : KeepT τ (put5 τ i v) := ⟨fun x _ h5 => up2_ne _ (x := 5) (y := x) h5, fun k _ _ => by show up2 τ.1 5 i v 0 k = _; rw [up2_ne _ (x := 5) (y := 0) (by omega)], rfl⟩
theorem put5_0 (τ : Mem × Int64) (i : Nat) (v : Int32) (k : Nat) : (put5 τ i v).1 0 k = τ.1 0 k := by show up2 τ.1 5 i v 0 k = _; rw [up2_ne _ (x := 5) (y := 0) (by omega)]
theorem put5_5 (τ : Mem × Int64) (i : Nat) (v : Int32) (j : Nat) : (put5 τ i v).1 5 j = if j = i then v else τ.1 5 j := by
  show up2 τ.1 5 i v 5 j = _
  unfold up2
  by_cases q : j = i
  · rw [if_pos ⟨rfl, q⟩, if_pos q]
  · rw [if_neg (fun w => q w.2), if_neg q]
theorem neg_sgn (c : Nat → Nat) (p x : Nat) : (if b2i (decide (c p = 45)) = 0 then some (nI x) else some (-nI x)) = some (sgn1 c p x) := by
  unfold sgn1
  by_cases q : c p = 45
  · rw [decide_eq_true q, if_b1, if_pos q]
  · rw [decide_eq_false q, if_b0, if_neg q]
theorem vN0 (c : Nat → Nat) (a : Nat) : vN c a 0 = -1 := if_pos rfl
theorem neg1 : -(-1 : Int32) = 1 := by decide
theorem i9999 : (9999 : Int32) = nI 9999 := rfl
theorem i99 : (99 : Int32) = nI 99 := rfl
theorem i45 : (45 : Int32) = nI 45 := rfl
theorem i43 : (43 : Int32) = nI 43 := rfl
/-- the reference reads one mover -/
theorem m_isOne (b : BufM τ c L) {p t : Nat} (hp : τ.1 0 14 = nI p) (hpL : p ≤ L) (ht : τ.1 0 15 = nI t) (ht2 : 4 * t ≤ p) (hq : st c p = 0) :
    ∃ r τ' p', F_X4_isOne τ = some (b2i r, τ') ∧ KeepT τ τ' ∧ τ'.1 0 14 = nI p' ∧ p' ≤ L ∧ τ'.1 0 15 = nI (t + 1) ∧ (∀ j, j < 2 * t → τ'.1 5 j = τ.1 5 j) ∧
      ((r = true ∧ ∃ v s, OneAt c p p' v s ∧ τ'.1 5 (2 * t) = v ∧ τ'.1 5 (2 * t + 1) = s ∧ (st c p' = 8 ∨ (st c p' = 7 ∧ dig (c p') = false)) ∧ p + 3 ≤ p') ∨
       (r = false ∧ st c p' ≠ 7 ∧ st c p' ≠ 8 ∧ st c p' ≠ 9 ∧ (p' = L ∨ st c (p' + 1) = 9))) := by
  have hL := b.1
  -- told
  obtain ⟨τ0, h0⟩ : ∃ x : Mem × Int64, x = (up2 τ.1 0 15 ((τ.1 0 15) + (1 : Int32)), τ.2) := ⟨_, rfl⟩
  have k0 : KeepT τ τ0 := by
    rw [h0]
    exact ⟨fun x h0 _ => up2_ne _ (x := 0) (y := x) h0, fun k _ h1 => by show up2 τ.1 0 15 _ 0 k = _; unfold up2; rw [if_neg (fun q => h1 q.2)], rfl⟩
  have p0 : τ0.1 0 14 = nI p := by rw [h0]; show up2 τ.1 0 15 (τ.1 0 15 + 1) 0 14 = nI p; unfold up2; rw [if_neg (fun q => by omega)]; exact hp
  have t0' : τ0.1 0 15 = nI (t + 1) := by rw [h0]; show up2 τ.1 0 15 (τ.1 0 15 + 1) 0 15 = _; unfold up2; rw [if_pos ⟨rfl, rfl⟩, ht]; exact nI_1 t
  have x50 : τ0.1 5 = τ.1 5 := by rw [h0]; exact up2_ne τ.1 (x := 0) (y := 5) (k := 15) (v := τ.1 0 15 + 1) (by omega)
  have b0 := k0.buf b
  -- the value's sign
  have tk1 := m_takes (s := 45) b0 p0 (by omega) (by omega)
  obtain ⟨a, ea⟩ : ∃ a, a = (if c p = 45 then p + 1 else p) := ⟨_, rfl⟩
  rw [← ea] at tk1
  have haL : a ≤ L := by
    rw [ea]
    by_cases q : c p = 45
    · rw [if_pos q]
      rcases Nat.lt_or_ge p L with w | w
      · omega
      · rw [b.2.2.2.2 p w] at q; omega
    · rw [if_neg q]; exact hpL
  have hsa : st c a = 0 ∧ c a ≠ 45 ∨ st c a = 1 := by
    by_cases q : c p = 45
    · rw [ea, if_pos q]
      right
      rw [st_s, hq]; unfold pa; rw [if_pos rfl, if_pos q]
    · rw [ea, if_neg q]; exact Or.inl ⟨hq, q⟩
  obtain ⟨k1, n1, n2, n3, n4⟩ := value_spec hsa
  have b1 := (setP_k τ0 a).buf b0
  obtain ⟨m1, m2⟩ := m_number b1 (most := 9999) (by omega) (setP_p τ0 a) haL n1 n2
  rw [setP_setP] at m1
  have hin1 : inb ((2 : Int32) * (τ.1 0 15)) 44 = true ∧ ((2 : Int32) * (τ.1 0 15)).toNatClampNeg = 2 * t := by
    rw [ht, show (2 : Int32) * nI t = nI (2 * t) from pk_mul 2 t]
    exact ⟨inb_nI (by omega) (by decide), nI_clamp (by omega)⟩
  have hin2 : inb (((2 : Int32) * (τ.1 0 15)) + (1 : Int32)) 44 = true ∧ (((2 : Int32) * (τ.1 0 15)) + (1 : Int32)).toNatClampNeg = 2 * t + 1 := by
    rw [ht, show (2 : Int32) * nI t = nI (2 * t) from pk_mul 2 t, show nI (2 * t) + (1 : Int32) = nI (2 * t + 1) from nI_1 _]
    exact ⟨inb_nI (by omega) (by decide), nI_clamp (by omega)⟩
  unfold F_X4_isOne
  rw [← h0, i45, tk1, Option.bind_some, i9999]
  show ∃ r τ' p', Option.bind (F_X4_number (nI 9999) (setP τ0 a)) _ = _ ∧ _
  rw [m1, Option.bind_some]
  rcases n4 with ⟨rfl, n4⟩ | ⟨g1, g2, g3, g4⟩
  · -- no value
    refine ⟨false, put5 (setP τ0 (a + 0)) (2 * t) (if c p = 45 then 1 else -1), a + 0, ?_, (k0.tr (setP_k τ0 _)).tr (put5_k _ _ _), by rw [put5_0]; exact setP_p τ0 _, haL, by rw [put5_0, setP_n _ _ _ (by omega)]; exact t0', fun j hj => ?_, Or.inr ⟨rfl, ?_, ?_, ?_, Or.inr n4⟩⟩
    · show Option.bind (if b2i (decide (c p = 45)) = 0 then some (vN c a 0) else some (-vN c a 0)) _ = _
      have hv : (if b2i (decide (c p = 45)) = 0 then some (vN c a 0) else some (-vN c a 0)) = some (if c p = 45 then (1 : Int32) else -1) := by
        by_cases q : c p = 45
        · rw [decide_eq_true q, if_b1, if_pos q, vN0, neg1]
        · rw [decide_eq_false q, if_b0, if_neg q, vN0]
      rw [hv, Option.bind_some, if_pos hin1.1, hin1.2]
      show (if ¬ vN c a 0 = (-1 : Int32) then _ else some ((0 : Int32), (up2 (setP τ0 (a + 0)).1 5 (2 * t) (if c p = 45 then (1 : Int32) else -1), (setP τ0 (a + 0)).2))) = _
      rw [if_neg (fun w => w (vN0 c a))]; rfl
    · rw [put5_5, if_neg (by omega), setP_x _ _ _ (by omega), x50]
    · rcases hsa with ⟨h, -⟩ | h <;> (rw [Nat.add_zero, h]; omega)
    · rcases hsa with ⟨h, -⟩ | h <;> (rw [Nat.add_zero, h]; omega)
    · rcases hsa with ⟨h, -⟩ | h <;> (rw [Nat.add_zero, h]; omega)
  · have hv9 : dv c a k1 ≤ 9999 := by
      have := (n1 (k1 - 1) (by omega)).2.2
      rw [show k1 - 1 + 1 = k1 by omega] at this; exact this
    have hvN : vN c a k1 = nI (dv c a k1) := if_neg (by omega)
    obtain ⟨τ1, h1⟩ : ∃ x : Mem × Int64, x = put5 (setP τ0 (a + k1)) (2 * t) (sgn1 c p (dv c a k1)) := ⟨_, rfl⟩
    have K1 : KeepT τ τ1 := by rw [h1]; exact (k0.tr (setP_k τ0 _)).tr (put5_k _ _ _)
    have p1 : τ1.1 0 14 = nI (a + k1) := by rw [h1, put5_0]; exact setP_p τ0 _
    have q1 : τ1.1 0 15 = nI (t + 1) := by rw [h1, put5_0, setP_n _ _ _ (by omega)]; exact t0'
    have x51 : ∀ j, τ1.1 5 j = if j = 2 * t then sgn1 c p (dv c a k1) else τ.1 5 j := fun j => by rw [h1, put5_5, setP_x _ _ _ (by omega), x50]
    have B1 := K1.buf b
    have tk2 := m_takes (s := 45) B1 p1 (by omega) (by omega)
    have hps := pa_sign g2 g3 g4
    have e5 : st c (a + k1 + 1) = pa (st c (a + k1)) (c (a + k1)) := rfl
    have hpre : ∀ G : Option (Int32 × (Mem × Int64)), (Option.bind (F_X4_takes (45 : Int32) τ1) (fun r58 => (if ¬ r58.1 = 0 then Option.bind (F_X4_number (99 : Int32) r58.2) (fun r82 => (Option.bind (if r58.1 = 0 then some r82.1 else some (-r82.1)) (fun v96 : Int32 => if inb (((2 : Int32) * (τ.1 0 15)) + (1 : Int32)) 44 then ((if r82.1 = (-1 : Int32) then some ((0 : Int32), (up2 r82.2.1 5 ((((2 : Int32) * (τ.1 0 15)) + (1 : Int32)).toNatClampNeg) v96, r82.2.2)) else some ((1 : Int32), (up2 r82.2.1 5 ((((2 : Int32) * (τ.1 0 15)) + (1 : Int32)).toNatClampNeg) v96, r82.2.2)))) else none))) else Option.bind (F_X4_takes (43 : Int32) r58.2) (fun r71 => (if ¬ r71.1 = 0 then Option.bind (F_X4_number (99 : Int32) r71.2) (fun r82 => (Option.bind (if r58.1 = 0 then some r82.1 else some (-r82.1)) (fun v96 : Int32 => if inb (((2 : Int32) * (τ.1 0 15)) + (1 : Int32)) 44 then ((if r82.1 = (-1 : Int32) then some ((0 : Int32), (up2 r82.2.1 5 ((((2 : Int32) * (τ.1 0 15)) + (1 : Int32)).toNatClampNeg) v96, r82.2.2)) else some ((1 : Int32), (up2 r82.2.1 5 ((((2 : Int32) * (τ.1 0 15)) + (1 : Int32)).toNatClampNeg) v96, r82.2.2)))) else none))) else some ((0 : Int32), r71.2))))) = G) →
        Option.bind (if b2i (decide (c p = 45)) = 0 then some (vN c a k1) else some (-vN c a k1)) (fun v38 : Int32 => if inb ((2 : Int32) * (τ.1 0 15)) 44 then ((if ¬ vN c a k1 = (-1 : Int32) then Option.bind (F_X4_takes (45 : Int32) (up2 (setP τ0 (a + k1)).1 5 (((2 : Int32) * (τ.1 0 15)).toNatClampNeg) v38, (setP τ0 (a + k1)).2)) (fun r58 => (if ¬ r58.1 = 0 then Option.bind (F_X4_number (99 : Int32) r58.2) (fun r82 => (Option.bind (if r58.1 = 0 then some r82.1 else some (-r82.1)) (fun v96 : Int32 => if inb (((2 : Int32) * (τ.1 0 15)) + (1 : Int32)) 44 then ((if r82.1 = (-1 : Int32) then some ((0 : Int32), (up2 r82.2.1 5 ((((2 : Int32) * (τ.1 0 15)) + (1 : Int32)).toNatClampNeg) v96, r82.2.2)) else some ((1 : Int32), (up2 r82.2.1 5 ((((2 : Int32) * (τ.1 0 15)) + (1 : Int32)).toNatClampNeg) v96, r82.2.2)))) else none))) else Option.bind (F_X4_takes (43 : Int32) r58.2) (fun r71 => (if ¬ r71.1 = 0 then Option.bind (F_X4_number (99 : Int32) r71.2) (fun r82 => (Option.bind (if r58.1 = 0 then some r82.1 else some (-r82.1)) (fun v96 : Int32 => if inb (((2 : Int32) * (τ.1 0 15)) + (1 : Int32)) 44 then ((if r82.1 = (-1 : Int32) then some ((0 : Int32), (up2 r82.2.1 5 ((((2 : Int32) * (τ.1 0 15)) + (1 : Int32)).toNatClampNeg) v96, r82.2.2)) else some ((1 : Int32), (up2 r82.2.1 5 ((((2 : Int32) * (τ.1 0 15)) + (1 : Int32)).toNatClampNeg) v96, r82.2.2)))) else none))) else some ((0 : Int32), r71.2))))) else some ((0 : Int32), (up2 (setP τ0 (a + k1)).1 5 (((2 : Int32) * (τ.1 0 15)).toNatClampNeg) v38, (setP τ0 (a + k1)).2)))) else none) = G := fun G hG => by
      rw [hvN, neg_sgn, Option.bind_some, if_pos hin1.1, hin1.2, if_pos (nI_ne_m1 (by omega))]
      rw [h1] at hG
      exact hG
    -- the speed's number, at a place behind the sign
    have hfin : ∀ (sg : Int32) (τ2 : Mem × Int64), (sg = b2i (decide (c (a + k1) = 45))) → KeepT τ τ2 → τ2.1 0 14 = nI (a + k1 + 1) → τ2.1 0 15 = nI (t + 1) → (∀ j, τ2.1 5 j = τ1.1 5 j) → (c (a + k1) = 45 ∨ c (a + k1) = 43) →
        ∃ r τ' p', Option.bind (F_X4_number (99 : Int32) τ2) (fun r82 => (Option.bind (if sg = 0 then some r82.1 else some (-r82.1)) (fun v96 : Int32 => if inb (((2 : Int32) * (τ.1 0 15)) + (1 : Int32)) 44 then ((if r82.1 = (-1 : Int32) then some ((0 : Int32), (up2 r82.2.1 5 ((((2 : Int32) * (τ.1 0 15)) + (1 : Int32)).toNatClampNeg) v96, r82.2.2)) else some ((1 : Int32), (up2 r82.2.1 5 ((((2 : Int32) * (τ.1 0 15)) + (1 : Int32)).toNatClampNeg) v96, r82.2.2)))) else none))) = some (b2i r, τ') ∧ KeepT τ τ' ∧ τ'.1 0 14 = nI p' ∧ p' ≤ L ∧ τ'.1 0 15 = nI (t + 1) ∧ (∀ j, j < 2 * t → τ'.1 5 j = τ.1 5 j) ∧
          ((r = true ∧ ∃ v s, OneAt c p p' v s ∧ τ'.1 5 (2 * t) = v ∧ τ'.1 5 (2 * t + 1) = s ∧ (st c p' = 8 ∨ (st c p' = 7 ∧ dig (c p') = false)) ∧ p + 3 ≤ p') ∨
           (r = false ∧ st c p' ≠ 7 ∧ st c p' ≠ 8 ∧ st c p' ≠ 9 ∧ (p' = L ∨ st c (p' + 1) = 9))) := by
      intro sg τ2 hsg K2 p2 q2 x2 hb
      have h6 : st c (a + k1 + 1) = 6 := by rw [e5]; exact hps.1 hb
      have hlt : a + k1 < L := by
        rcases Nat.lt_or_ge (a + k1) L with w | w
        · exact w
        · have := b.2.2.2.2 _ w; omega
      obtain ⟨k2, o1, o2, o3, o4⟩ := speed_spec h6
      obtain ⟨r1, r2⟩ := m_number (K2.buf b) (most := 99) (by omega) p2 (by omega) o1 o2
      rw [i99, r1, Option.bind_some]
      have hcp : c p ≠ 43 := fun w => by
        have hd := n3 0 (by omega)
        rw [Nat.add_zero, ea, if_neg (by omega), w] at hd
        cases hd
      rcases o4 with ⟨rfl, o4⟩ | ⟨o4, o5⟩
      · refine ⟨false, put5 (setP τ2 (a + k1 + 1 + 0)) (2 * t + 1) (if sg = 0 then -1 else 1), a + k1 + 1 + 0, ?_, (K2.tr (setP_k _ _)).tr (put5_k _ _ _), by rw [put5_0]; exact setP_p _ _, r2, by rw [put5_0, setP_n _ _ _ (by omega)]; exact q2, fun j hj => ?_, Or.inr ⟨rfl, by rw [Nat.add_zero, h6]; omega, by rw [Nat.add_zero, h6]; omega, by rw [Nat.add_zero, h6]; omega, Or.inr o4⟩⟩
        · show Option.bind (if sg = 0 then some (vN c (a + k1 + 1) 0) else some (-vN c (a + k1 + 1) 0)) _ = _
          have hv : (if sg = 0 then some (vN c (a + k1 + 1) 0) else some (-vN c (a + k1 + 1) 0)) = some (if sg = 0 then (-1 : Int32) else 1) := by rw [vN0, neg1]; split <;> rfl
          rw [hv, Option.bind_some, if_pos hin2.1, hin2.2]
          show (if vN c (a + k1 + 1) 0 = (-1 : Int32) then some ((0 : Int32), put5 (setP τ2 (a + k1 + 1 + 0)) (2 * t + 1) (if sg = 0 then (-1 : Int32) else 1)) else _) = _
          rw [if_pos (vN0 c _)]; rfl
        · rw [put5_5, if_neg (by omega), setP_x _ _ _ (by omega), x2, x51, if_neg (by omega)]
      · have hs9 : dv c (a + k1 + 1) k2 ≤ 99 := by
          have := (o1 (k2 - 1) (by omega)).2.2
          rw [show k2 - 1 + 1 = k2 by omega] at this; exact this
        refine ⟨true, put5 (setP τ2 (a + k1 + 1 + k2)) (2 * t + 1) (sgn1 c (a + k1) (dv c (a + k1 + 1) k2)), a + k1 + 1 + k2, ?_, (K2.tr (setP_k _ _)).tr (put5_k _ _ _), by rw [put5_0]; exact setP_p _ _, r2, by rw [put5_0, setP_n _ _ _ (by omega)]; exact q2, fun j hj => ?_, Or.inl ⟨rfl, sgn1 c p (dv c a k1), sgn1 c (a + k1) (dv c (a + k1 + 1) k2), ⟨a, k1, a + k1, k2, ea, hcp, g1, n3, rfl, hb, o4, o3, rfl, rfl, rfl, hv9, hs9⟩, ?_, ?_, o5, ?_⟩⟩
        · show Option.bind (if sg = 0 then some (vN c (a + k1 + 1) k2) else some (-vN c (a + k1 + 1) k2)) _ = _
          rw [show vN c (a + k1 + 1) k2 = nI (dv c (a + k1 + 1) k2) from if_neg (by omega), hsg, neg_sgn, Option.bind_some, if_pos hin2.1, hin2.2]
          show (if nI (dv c (a + k1 + 1) k2) = (-1 : Int32) then _ else some ((1 : Int32), put5 (setP τ2 (a + k1 + 1 + k2)) (2 * t + 1) (sgn1 c (a + k1) (dv c (a + k1 + 1) k2)))) = _
          rw [if_neg (nI_ne_m1 (by omega))]; rfl
        · rw [put5_5, if_neg (by omega), setP_x _ _ _ (by omega), x2, x51, if_neg (by omega)]
        · rw [put5_5, if_neg (by omega), setP_x _ _ _ (by omega), x2, x51, if_pos rfl]
        · rw [put5_5, if_pos rfl]
        · have : p ≤ a := by rw [ea]; split <;> omega
          omega
    by_cases hm : c (a + k1) = 45
    · rw [if_pos hm] at tk2
      obtain ⟨r, τ', p', f1, f2⟩ := hfin (b2i (decide (c (a + k1) = 45))) (setP τ1 (a + k1 + 1)) rfl (K1.tr (setP_k _ _)) (setP_p _ _) (by rw [setP_n _ _ _ (by omega)]; exact q1) (fun j => by rw [setP_x _ _ _ (by omega)]) (Or.inl hm)
      refine ⟨r, τ', p', hpre _ ?_, f2⟩
      rw [i45, tk2, Option.bind_some]
      show (if ¬ b2i (decide (c (a + k1) = 45)) = 0 then _ else _) = _
      rw [if_pos (by rw [decide_eq_true hm]; decide)]
      exact f1
    · rw [if_neg hm] at tk2
      have e45 : setP τ1 (a + k1) = τ1 := setP_same τ1 _ p1
      rw [e45] at tk2
      have tk3 := m_takes (s := 43) B1 p1 (by omega) (by omega)
      by_cases hpl : c (a + k1) = 43
      · rw [if_pos hpl] at tk3
        obtain ⟨r, τ', p', f1, f2⟩ := hfin (b2i (decide (c (a + k1) = 45))) (setP τ1 (a + k1 + 1)) rfl (K1.tr (setP_k _ _)) (setP_p _ _) (by rw [setP_n _ _ _ (by omega)]; exact q1) (fun j => by rw [setP_x _ _ _ (by omega)]) (Or.inr hpl)
        refine ⟨r, τ', p', hpre _ ?_, f2⟩
        rw [i45, tk2, Option.bind_some]
        show (if ¬ b2i (decide (c (a + k1) = 45)) = 0 then _ else Option.bind (F_X4_takes (nI 43) τ1) _) = _
        rw [if_neg (by rw [decide_eq_false hm]; decide), tk3, Option.bind_some]
        show (if ¬ b2i (decide (c (a + k1) = 43)) = 0 then _ else _) = _
        rw [if_pos (by rw [decide_eq_true hpl]; decide)]
        exact f1
      · rw [if_neg hpl, e45] at tk3
        have h9 : st c (a + k1 + 1) = 9 := by rw [e5]; exact hps.2 (by omega)
        refine ⟨false, τ1, a + k1, hpre _ ?_, K1, p1, m2, q1, fun j hj => by rw [x51, if_neg (by omega)], Or.inr ⟨rfl, by omega, by omega, by omega, Or.inr h9⟩⟩
        rw [i45, tk2, Option.bind_some]
        show (if ¬ b2i (decide (c (a + k1) = 45)) = 0 then _ else Option.bind (F_X4_takes (nI 43) τ1) _) = _
        rw [if_neg (by rw [decide_eq_false hm]; decide), tk3, Option.bind_some]
        show (if ¬ b2i (decide (c (a + k1) = 43)) = 0 then _ else _) = _
        rw [if_neg (by rw [decide_eq_false hpl]; decide)]; rfl
end T40
