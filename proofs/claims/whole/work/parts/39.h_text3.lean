/-! the whole text; firstError, append, clearBuffer -/
def Rest (c : Nat → Nat) (q : Nat) : List (Int32 × Int32) → Nat → Prop
  | [], p => q = p
  | x :: xs, p => c p = 59 ∧ ∃ e, OneAt c (p + 1) e x.1 x.2 ∧ Rest c q xs e
def Full (c : Nat → Nat) (L : Nat) : List (Int32 × Int32) → Prop
  | [] => False
  | x :: xs => ∃ e, OneAt c 0 e x.1 x.2 ∧ Rest c L xs e
def RdL (τ : Mem × Int64) : List (Int32 × Int32) → Nat → Prop
  | [], _ => True
  | x :: xs, t => τ.1 5 (2 * t) = x.1 ∧ τ.1 5 (2 * t + 1) = x.2 ∧ RdL τ xs (t + 1)
theorem RdL.cong {τ τ' : Mem × Int64} (h : τ'.1 5 = τ.1 5) : ∀ (l : List (Int32 × Int32)) (t : Nat), RdL τ l t → RdL τ' l t := by
  intro l
  induction l with
  | nil => intro t _; trivial
  | cons x xs ih => intro t hr; exact ⟨by rw [h]; exact hr.1, by rw [h]; exact hr.2.1, ih (t + 1) hr.2.2⟩
section T41
variable {σ : Mem} {τ : Mem × Int64} {c : Nat → Nat} {L : Nat}
theorem pa_semi {q x : Nat} (h : q = 8 ∨ (q = 7 ∧ dig x = false)) : (x = 59 → pa q x = 0) ∧ (x ≠ 59 → pa q x = 9) := by
  unfold pa
  rcases h with rfl | ⟨rfl, hd⟩
  · exact ⟨fun w => by rw [if_neg (by decide), if_neg (by decide), if_neg (by decide), if_neg (by decide), if_neg (by decide), if_neg (by decide), if_pos rfl, if_pos w], fun w => by rw [if_neg (by decide), if_neg (by decide), if_neg (by decide), if_neg (by decide), if_neg (by decide), if_neg (by decide), if_pos rfl, if_neg w]⟩
  · exact ⟨fun w => by rw [if_neg (by decide), if_neg (by decide), if_neg (by decide), if_neg (by decide), if_neg (by decide), if_pos rfl, hd, if_neg (by decide), if_pos w], fun w => by rw [if_neg (by decide), if_neg (by decide), if_neg (by decide), if_neg (by decide), if_neg (by decide), if_pos rfl, hd, if_neg (by decide), if_neg w]⟩
theorem m_textLoop : ∀ (m p t fu : Nat) (τ : Mem × Int64), L - p ≤ m → m + 1 < fu → BufM τ c L → τ.1 0 14 = nI p → p ≤ L → τ.1 0 15 = nI t → 4 * t ≤ p + 1 → (st c p = 8 ∨ (st c p = 7 ∧ dig (c p) = false)) →
    ∃ r τ' p', L_X4_isText_15 fu 1 τ = some (b2i r, τ') ∧ KeepT τ τ' ∧ τ'.1 0 14 = nI p' ∧ p' ≤ L ∧ st c p' ≠ 9 ∧ (∀ j, j < 2 * t → τ'.1 5 j = τ.1 5 j) ∧
      ((r = true ∧ (st c p' = 8 ∨ (st c p' = 7 ∧ dig (c p') = false)) ∧ c p' ≠ 59 ∧ ∃ l, Rest c p' l p ∧ τ'.1 0 15 = nI (t + l.length) ∧ 4 * (t + l.length) ≤ p' + 1 ∧ RdL τ' l t) ∨
       (r = false ∧ st c p' ≠ 7 ∧ st c p' ≠ 8 ∧ (p' = L ∨ st c (p' + 1) = 9))) := by
  intro m
  induction m with
  | zero =>
    intro p t fu τ hm hf b hp hpL ht ht4 hs
    obtain ⟨f, rfl⟩ : ∃ f, fu = f + 1 := ⟨fu - 1, by omega⟩
    have h1 := b.1
    have hc : c p = 0 := b.2.2.2.2 p (by omega)
    have tk := m_takes (s := 59) b hp (by omega) (by omega)
    rw [if_neg (by omega), setP_same τ p hp, decide_eq_false (by omega)] at tk
    have tk : F_X4_takes (59 : Int32) τ = some (b2i false, τ) := tk
    refine ⟨true, τ, p, ?_, KeepT.rf, hp, hpL, by omega, fun _ _ => rfl, Or.inl ⟨rfl, hs, by omega, [], rfl, by simpa using ht, by simpa using ht4, trivial⟩⟩
    rw [L_X4_isText_15, if_neg (by decide), tk, Option.bind_some]
    exact if_pos rfl
  | succ m ih =>
    intro p t fu τ hm hf b hp hpL ht ht4 hs
    obtain ⟨f, rfl⟩ : ∃ f, fu = f + 1 := ⟨fu - 1, by omega⟩
    have h1 := b.1
    have tk := m_takes (s := 59) b hp (by omega) (by omega)
    by_cases hc : c p = 59
    · rw [if_pos hc, decide_eq_true hc] at tk
      have tk : F_X4_takes (59 : Int32) τ = some (b2i true, setP τ (p + 1)) := tk
      have hlt : p < L := by
        rcases Nat.lt_or_ge p L with w | w
        · exact w
        · have := b.2.2.2.2 p w; omega
      have hs0 : st c (p + 1) = 0 := (pa_semi hs).1 hc
      obtain ⟨r, τ1, p1, e1, K1, q1, q2, q3, q4, q5⟩ := m_isOne (t := t) ((setP_k τ (p + 1)).buf b) (setP_p τ _) (by omega) (by rw [setP_n _ _ _ (by omega)]; exact ht) (by omega) hs0
      have KK := (setP_k τ (p + 1)).tr K1
      have x5 : ∀ j, j < 2 * t → τ1.1 5 j = τ.1 5 j := fun j hj => by rw [q4 j hj, setP_x _ _ _ (by omega)]
      rw [L_X4_isText_15, if_neg (by decide), tk, Option.bind_some]
      show ∃ r τ' p', (if b2i true = 0 then _ else Option.bind (F_X4_isOne (setP τ (p + 1))) _) = _ ∧ _
      rw [if_b1, e1, Option.bind_some]
      rcases q5 with ⟨rfl, v, s, g1, g2, g3, g4, g5⟩ | ⟨rfl, g1, g2, g3, g4⟩
      · obtain ⟨r', τ2, p2, f1, f2, f3, f4, f5, f6, f7⟩ := ih p1 (t + 1) f τ1 (by omega) (by omega) (KK.buf b) q1 q2 q3 (by omega) g4
        have f1 : L_X4_isText_15 f (b2i true) τ1 = some (b2i r', τ2) := f1
        refine ⟨r', τ2, p2, f1, KK.tr f2, f3, f4, f5, fun j hj => by rw [f6 j (by omega)]; exact x5 j hj, ?_⟩
        rcases f7 with ⟨rfl, w1, w2, l, w3, w4, w5, w6⟩ | w
        · refine Or.inl ⟨rfl, w1, w2, (v, s) :: l, ⟨hc, p1, g1, w3⟩, ?_, ?_, ?_, ?_, w6⟩
          · rw [w4]; congr 1; simp only [List.length_cons]; omega
          · simp only [List.length_cons]; omega
          · rw [f6 _ (by omega)]; exact g2
          · rw [f6 _ (by omega)]; exact g3
        · exact Or.inr w
      · obtain ⟨f, rfl⟩ : ∃ g, f = g + 1 := ⟨f - 1, by omega⟩
        exact ⟨false, τ1, p1, by rw [L_X4_isText_15]; exact if_pos rfl, KK, q1, q2, g3, x5, Or.inr ⟨rfl, g1, g2, g4⟩⟩
    · rw [if_neg hc, setP_same τ p hp, decide_eq_false hc] at tk
      have tk : F_X4_takes (59 : Int32) τ = some (b2i false, τ) := tk
      refine ⟨true, τ, p, ?_, KeepT.rf, hp, hpL, by omega, fun _ _ => rfl, Or.inl ⟨rfl, hs, hc, [], rfl, by simpa using ht, by simpa using ht4, trivial⟩⟩
      rw [L_X4_isText_15, if_neg (by decide), tk, Option.bind_some]
      exact if_pos rfl
theorem m_isText (b : BufM τ c L) : ∃ r τ' p', F_X4_isText τ = some (b2i r, τ') ∧ KeepT τ τ' ∧ τ'.1 0 14 = nI p' ∧ p' ≤ L ∧ st c p' ≠ 9 ∧ (p' = L ∨ st c (p' + 1) = 9) ∧
    ((r = true ∧ p' = L ∧ (st c L = 7 ∨ st c L = 8) ∧ ∃ l, Full c L l ∧ τ'.1 0 15 = nI l.length ∧ l.length ≤ 16 ∧ RdL τ' l 0) ∨ (r = false ∧ ¬ (st c L = 7 ∨ st c L = 8))) := by
  have h1 := b.1
  obtain ⟨τ0, h0⟩ : ∃ x : Mem × Int64, x = (up2 (up2 τ.1 0 14 (0 : Int32)) 0 15 (0 : Int32), τ.2) := ⟨_, rfl⟩
  have k0 : KeepT τ τ0 := by
    rw [h0]
    refine ⟨fun x h0 _ => ?_, fun k h1 h2 => ?_, rfl⟩
    · show up2 (up2 τ.1 0 14 0) 0 15 0 x = _
      rw [up2_ne _ (x := 0) (y := x) h0, up2_ne _ (x := 0) (y := x) h0]
    · show up2 (up2 τ.1 0 14 0) 0 15 0 0 k = _
      unfold up2; rw [if_neg (fun q => h2 q.2), if_neg (fun q => h1 q.2)]
  have p0 : τ0.1 0 14 = nI 0 := by
    rw [h0]
    show up2 (up2 τ.1 0 14 0) 0 15 0 0 14 = _
    unfold up2; rw [if_neg (by omega), if_pos ⟨rfl, rfl⟩]; rfl
  have t0' : τ0.1 0 15 = nI 0 := by
    rw [h0]
    show up2 (up2 τ.1 0 14 0) 0 15 0 0 15 = _
    unfold up2; rw [if_pos ⟨rfl, rfl⟩]; rfl
  obtain ⟨r, τ1, p1, e1, K1, q1, q2, q3, q4, q5⟩ := m_isOne (t := 0) (p := 0) (k0.buf b) p0 (by omega) t0' (by omega) rfl
  have K01 := k0.tr K1
  have h9 : ∀ p', p' ≤ L → p' ≠ L → st c (p' + 1) = 9 → st c L = 9 := fun p' w1 w2 w3 => by
    have := st_9 w3 (L - (p' + 1))
    rw [show p' + 1 + (L - (p' + 1)) = L by omega] at this; exact this
  unfold F_X4_isText
  rw [← h0, e1, Option.bind_some]
  rcases q5 with ⟨rfl, v, s, g1, g2, g3, g4, g5⟩ | ⟨rfl, g1, g2, g3, g4⟩
  · obtain ⟨r', τ2, p2, f1, f2, f3, f4, f5, f6, f7⟩ := m_textLoop (L - p1) p1 1 FU τ1 (Nat.le_refl _) (by show _ < 1000; omega) (K01.buf b) q1 q2 q3 (by omega) g4
    have f1 : L_X4_isText_15 FU (b2i true) τ1 = some (b2i r', τ2) := f1
    have KK := K01.tr f2
    rw [f1, Option.bind_some]
    have e04 : τ2.1 0 4 = nI L := (KK.buf b).2.1
    rcases f7 with ⟨rfl, w1, w2, l, w3, w4, w5, w6⟩ | ⟨rfl, w1, w2, w3⟩
    · by_cases hL : p2 = L
      · refine ⟨true, τ2, p2, ?_, KK, f3, f4, f5, Or.inl hL, Or.inl ⟨rfl, hL, by rw [← hL]; omega, (v, s) :: l, ⟨p1, g1, by rw [← hL]; exact w3⟩, ?_, ?_, ?_, ?_, w6⟩⟩
        · rw [if_b1, f3, e04, hL, if_neg (fun w => w rfl)]; rfl
        · rw [w4]; congr 1; simp only [List.length_cons]; omega
        · simp only [List.length_cons]; omega
        · rw [f6 _ (by omega)]; exact g2
        · rw [f6 _ (by omega)]; exact g3
      · have hn := (pa_semi w1).2 w2
        refine ⟨false, τ2, p2, ?_, KK, f3, f4, f5, Or.inr hn, Or.inr ⟨rfl, ?_⟩⟩
        · rw [if_b1, f3, e04, if_pos (fun w => hL ((nI_eq_iff (by omega) (by omega)).mp w))]; rfl
        · have := h9 p2 f4 hL hn
          omega
    · refine ⟨false, τ2, p2, by rw [if_b0]; rfl, KK, f3, f4, f5, w3, Or.inr ⟨rfl, ?_⟩⟩
      by_cases hL : p2 = L
      · rw [← hL]; omega
      · have := h9 p2 f4 hL (w3.resolve_left hL)
        omega
  · refine ⟨false, τ1, p1, ?_, K01, q1, q2, g3, g4, Or.inr ⟨rfl, ?_⟩⟩
    · show Option.bind (L_X4_isText_15 (999 + 1) (b2i false) τ1) _ = _
      rw [L_X4_isText_15, if_b0, Option.bind_some]
      exact if_pos rfl
    · by_cases hL : p1 = L
      · rw [← hL]; omega
      · have := h9 p1 q2 hL (g4.resolve_left hL)
        omega
theorem fe_eq {p : Nat} (h9 : st c p ≠ 9) (hp : p ≤ L) (he : p = L ∨ st c (p + 1) = 9) : fe c L L 0 = p := by
  have key : ∀ (m i : Nat), i + m = L → i ≤ p → fe c L m i = p := by
    intro m
    induction m with
    | zero => intro i hi h; show i = p; omega
    | succ m ih =>
      intro i hi h
      rw [fe]
      by_cases q : i = p
      · rw [if_pos]
        · exact q
        · rw [q]; exact he.resolve_left (by omega)
      · rw [if_neg (st_n9 h9 (by omega))]
        exact ih (i + 1) (by omega) (by omega)
  exact key L 0 (by omega) (by omega)
end T41
theorem KeepT.k5 {τ τ' : Mem × Int64} (h : KeepT (t0 τ) τ') : Keep5 τ τ' ∧ τ'.1 0 5 = 0 := by
  obtain ⟨j1, j2, j3, j4, j5⟩ := t0_k5 τ
  exact ⟨⟨(h.1 1 (by omega) (by omega)).trans j1, (h.1 2 (by omega) (by omega)).trans j2, (h.1 3 (by omega) (by omega)).trans j3, (h.2.1 2 (by omega) (by omega)).trans j4, (h.2.1 4 (by omega) (by omega)).trans j5⟩, (h.2.1 5 (by omega) (by omega)).trans (t0_5 τ)⟩
theorem BufM.t0 {τ : Mem × Int64} {c : Nat → Nat} {L : Nat} (b : BufM τ c L) : BufM (t0 τ) c L := by
  obtain ⟨-, -, j3, -, j5⟩ := t0_k5 τ
  exact ⟨b.1, by rw [j5]; exact b.2.1, fun i hi => by rw [j3]; exact b.2.2.1 i hi, b.2.2.2.1, b.2.2.2.2⟩
theorem o_firstError {σ : Mem} {τ : Mem × Int64} (R : Rel σ τ) : ∃ v τ', F_X3_firstError σ = some v ∧ F_X4_firstError τ = some (v, τ') ∧ Keep5 τ τ' := by
  obtain ⟨c, L, bs, bm⟩ := R.2.2.2.buf
  obtain ⟨r, τ', p', e, K, q1, q2, q3, q4, q5⟩ := m_isText bm.t0
  obtain ⟨K5, -⟩ := K.k5
  refine ⟨nI (fe c L L 0), τ', ?_, ?_, K5⟩
  · unfold F_X3_firstError; rw [s_sound bs]; rfl
  · unfold F_X4_firstError
    rw [show (up2 τ.1 0 5 (0 : Int32), τ.2) = t0 τ from rfl, e, Option.bind_some, fe_eq q3 q2 q4]
    rcases q5 with ⟨rfl, h, -⟩ | ⟨rfl, -⟩
    · rw [if_b1]
      show some (τ'.1 0 4, τ') = _
      rw [(K.buf bm.t0).2.1, h]
    · rw [if_b0]
      show some (τ'.1 0 14, τ') = _
      rw [q1]
theorem o_clear {σ : Mem} {τ : Mem × Int64} (R : Rel σ τ) : ∃ v σ' τ', F_X3_clearBuffer σ = some (v, σ') ∧ F_X4_clearBuffer τ = some (v, τ') ∧ Rel σ' τ' := by
  obtain ⟨a, C, ⟨o, s, o1, s1, r1, r2, r3, r4⟩, ⟨L, l1, l2, l3, l4⟩⟩ := R
  have e4 : (up2 τ.1 0 5 (0 : Int32)) 0 4 = nI L := l3
  have fs : ∀ x, x ≠ 4 → (up2 σ 4 1 (0 : Int32)) x = σ x := fun x hx => up2_ne _ (x := 4) (y := x) hx
  have ft : ∀ x, x ≠ 0 → (up2 (up2 τ.1 0 5 (0 : Int32)) 0 4 (0 : Int32)) x = τ.1 x := fun x hx => by rw [up2_ne _ (x := 0) (y := x) hx, up2_ne _ (x := 0) (y := x) hx]
  have hz : zv (up2 σ 4 1 (0 : Int32)) 6 = zv σ 6 := zv_cong (fun j k hj => by rw [fs _ (by omega)])
  refine ⟨σ 4 1, up2 σ 4 1 0, (up2 (up2 τ.1 0 5 (0 : Int32)) 0 4 (0 : Int32), τ.2), rfl, ?_, hz.trans (a.trans (mz_cong (ft 1 (by omega))).symm), ⟨by rw [hz]; exact C.1, fun c c1 c2 => by rw [hz]; exact (C.2 c c1 c2).fr (fun j hj => fs _ (by omega))⟩, ⟨o, s, o1, s1, ?_, ?_, ?_, fun k hk => ?_⟩, ⟨0, by omega, ?_, ?_, fun i hi => by omega⟩⟩
  · unfold F_X4_clearBuffer
    rw [e4, l2]
  · rw [fs 0 (by omega)]; exact r1
  · rw [fs 0 (by omega)]; exact r2
  · show (up2 (up2 τ.1 0 5 (0 : Int32)) 0 4 (0 : Int32)) 0 2 = _
    unfold up2; rw [if_neg (by omega), if_neg (by omega)]; exact r3
  · have : mrow (up2 (up2 τ.1 0 5 (0 : Int32)) 0 4 (0 : Int32), τ.2) k = mrow τ k := by
      funext x; unfold mrow
      show (if _ then _ else (up2 (up2 τ.1 0 5 (0 : Int32)) 0 4 (0 : Int32)) 2 _) = _
      rw [ft 2 (by omega)]
    rw [this, zv_cong (σ := σ) (n := 12 + 6 * ((o + k) % 6)) (fun j i hj => by rw [fs _ (by omega)])]
    exact r4 k hk
  · unfold up2; rw [if_pos ⟨rfl, rfl⟩]; rfl
  · show (up2 (up2 τ.1 0 5 (0 : Int32)) 0 4 (0 : Int32)) 0 4 = _
    unfold up2; rw [if_pos ⟨rfl, rfl⟩]; rfl
theorem code_nar : ∀ k, k < 128 → vp_nar .char (((nI k).toUInt32 % 65536).toInt32) = nI k := by decide +kernel
theorem o_append {σ : Mem} {τ : Mem × Int64} (R : Rel σ τ) (x : Int32) : ∃ res v τ', F_X3_append x σ = some res ∧ F_X4_append x τ = some (v, τ') ∧ AgM [(0, 1), (1, 2)] res σ τ v τ' := by
  unfold F_X4_append F_X3_append
  rw [m_in, s_within, Option.bind_some, Option.bind_some]
  by_cases hx : (33 : Int32).toInt ≤ x.toInt ∧ x.toInt ≤ (126 : Int32).toInt
  · obtain ⟨a, C, ⟨o, s, o1, s1, r1, r2, r3, r4⟩, ⟨L, l1, l2, l3, l4⟩⟩ := R
    have R : Rel σ τ := ⟨a, C, ⟨o, s, o1, s1, r1, r2, r3, r4⟩, ⟨L, l1, l2, l3, l4⟩⟩
    have hx' : 33 ≤ x.toInt ∧ x.toInt ≤ 126 := hx
    obtain ⟨k, hk, rfl⟩ := sm_nI (a := x) (N := 126) ⟨by omega, by omega⟩
    rw [nI_toInt (by omega)] at hx'
    have e4 : (up2 τ.1 0 5 (0 : Int32)) 0 4 = nI L := l3
    rw [decide_eq_true hx, if_c1, if_c1, e4, l2]
    by_cases hL : L = 60
    · subst hL
      obtain ⟨τ', e, K, h5⟩ := m_fails τ 2
      refine ⟨.inl 1, 0, τ', by rw [if_neg (by decide)], by rw [if_neg (fun w => w rfl), show (up2 τ.1 0 5 (0 : Int32), τ.2) = t0 τ from rfl, e]; rfl, ?_, K.rel R⟩
      rw [h5]; exact List.mem_cons_of_mem _ (List.mem_cons_self ..)
    · have hLt : L < 60 := by omega
      rw [if_pos (show nI L < (60 : Int32) from (nI_lt_iff (b := 60) (by omega) (by omega)).mpr hLt), if_pos (show ¬ nI L = (60 : Int32) from fun w => hL ((nI_eq_iff (a := L) (b := 60) (by omega) (by omega)).mp w)), if_pos (inb_nI hLt (by decide)), nI_clamp (by omega)]
      have fs : ∀ y, y ≠ 4 → y ≠ 5 → (up2 (up2 σ 5 L (nI k)) 4 1 (nI (L + 1))) y = σ y := fun y h4 h5 => by rw [up2_ne _ (x := 4) (y := y) h4, up2_ne _ (x := 5) (y := y) h5]
      have et4 : (up2 (up2 τ.1 0 5 (0 : Int32)) 3 L (nI k)) 0 4 = nI L := by rw [up2_ne _ (x := 3) (y := 0) (by omega)]; exact e4
      have es4 : (up2 σ 5 L (nI k)) 4 1 = nI L := by rw [up2_ne _ (x := 5) (y := 4) (by omega)]; exact l2
      rw [et4, show nI L + (1 : Int32) = nI (L + 1) from nI_1 L]
      have ft : ∀ y, y ≠ 0 → y ≠ 3 → (up2 (up2 (up2 τ.1 0 5 (0 : Int32)) 3 L (nI k)) 0 4 (nI (L + 1))) y = τ.1 y := fun y h0 h3 => by rw [up2_ne _ (x := 0) (y := y) h0, up2_ne _ (x := 3) (y := y) h3, up2_ne _ (x := 0) (y := y) h0]
      have hz : zv (up2 (up2 σ 5 L (nI k)) 4 1 (nI (L + 1))) 6 = zv σ 6 := zv_cong (fun j i hj => by rw [fs _ (by omega) (by omega)])
      have f0 : ∀ i, (up2 (up2 (up2 τ.1 0 5 (0 : Int32)) 3 L (nI k)) 0 4 (nI (L + 1))) 0 i = if i = 4 then nI (L + 1) else if i = 5 then 0 else τ.1 0 i := fun i => by
        unfold up2
        by_cases q4 : i = 4
        · rw [if_pos ⟨rfl, q4⟩, if_pos q4]
        · rw [if_neg (fun w => q4 w.2), if_neg q4, if_neg (fun w => by omega)]
          by_cases q5 : i = 5
          · rw [if_pos ⟨rfl, q5⟩, if_pos q5]
          · rw [if_neg (fun w => q5 w.2), if_neg q5]
      refine ⟨.inr (nI (L + 1), up2 (up2 σ 5 L (nI k)) 4 1 (nI (L + 1))), nI (L + 1), (up2 (up2 (up2 τ.1 0 5 (0 : Int32)) 3 L (nI k)) 0 4 (nI (L + 1)), τ.2), ?_, ?_, ?_, rfl, hz.trans (a.trans (mz_cong (ft 1 (by omega) (by omega))).symm), ⟨by rw [hz]; exact C.1, fun c c1 c2 => by rw [hz]; exact (C.2 c c1 c2).fr (fun j hj => fs _ (by omega) (by omega))⟩, ⟨o, s, o1, s1, ?_, ?_, ?_, fun k' hk' => ?_⟩, ⟨L + 1, by omega, ?_, ?_, fun i hi => ?_⟩⟩
      · unfold F_X2_put
        rw [l2, if_neg (nI_pos (by omega)), if_neg (fun w : (60 : Int32) ≤ nI L => absurd ((nI_le_iff (a := 60) (by omega) (by omega)).mp w) (by omega)), if_pos (inb_nI hLt (by decide)), nI_clamp (by omega), code_nar k (by omega), es4, show nI L + (1 : Int32) = nI (L + 1) from nI_1 L, Option.bind_some]
        show some (Sum.inr ((up2 (up2 σ 5 L (nI k)) 4 1 (nI (L + 1))) 4 1, _)) = _
        have : (up2 (up2 σ 5 L (nI k)) 4 1 (nI (L + 1))) 4 1 = nI (L + 1) := by unfold up2; rw [if_pos ⟨rfl, rfl⟩]
        rw [this]
      · rw [f0, if_pos rfl]
      · show (up2 (up2 (up2 τ.1 0 5 (0 : Int32)) 3 L (nI k)) 0 4 (nI (L + 1))) 0 5 = 0
        rw [f0, if_neg (by omega), if_pos rfl]
      · show (up2 (up2 σ 5 L (nI k)) 4 1 (nI (L + 1))) 0 2 = _
        rw [fs 0 (by omega) (by omega)]; exact r1
      · show (up2 (up2 σ 5 L (nI k)) 4 1 (nI (L + 1))) 0 3 = _
        rw [fs 0 (by omega) (by omega)]; exact r2
      · show (up2 (up2 (up2 τ.1 0 5 (0 : Int32)) 3 L (nI k)) 0 4 (nI (L + 1))) 0 2 = _
        rw [f0, if_neg (by omega), if_neg (by omega)]; exact r3
      · have : mrow (up2 (up2 (up2 τ.1 0 5 (0 : Int32)) 3 L (nI k)) 0 4 (nI (L + 1)), τ.2) k' = mrow τ k' := by
          funext y; unfold mrow
          show (if _ then _ else (up2 (up2 (up2 τ.1 0 5 (0 : Int32)) 3 L (nI k)) 0 4 (nI (L + 1))) 2 _) = _
          rw [ft 2 (by omega) (by omega)]
        rw [this]
        show zv (up2 (up2 σ 5 L (nI k)) 4 1 (nI (L + 1))) (12 + 6 * ((o + k') % 6)) = _ ∧ _
        rw [zv_cong (σ := σ) (n := 12 + 6 * ((o + k') % 6)) (fun j i hj => by rw [fs _ (by omega) (by omega)])]
        exact r4 k' hk'
      · show (up2 (up2 σ 5 L (nI k)) 4 1 (nI (L + 1))) 4 1 = _
        unfold up2; rw [if_pos ⟨rfl, rfl⟩]
      · show (up2 (up2 (up2 τ.1 0 5 (0 : Int32)) 3 L (nI k)) 0 4 (nI (L + 1))) 0 4 = _
        rw [f0, if_pos rfl]
      · have s5 : (up2 (up2 σ 5 L (nI k)) 4 1 (nI (L + 1))) 5 i = if i = L then nI k else σ 5 i := by
          rw [up2_ne _ (x := 4) (y := 5) (by omega)]
          unfold up2
          by_cases q : i = L
          · rw [if_pos ⟨rfl, q⟩, if_pos q]
          · rw [if_neg (fun w => q w.2), if_neg q]
        have t3 : (up2 (up2 (up2 τ.1 0 5 (0 : Int32)) 3 L (nI k)) 0 4 (nI (L + 1))) 3 i = if i = L then nI k else τ.1 3 i := by
          rw [up2_ne _ (x := 0) (y := 3) (by omega)]
          unfold up2
          by_cases q : i = L
          · rw [if_pos ⟨rfl, q⟩, if_pos q]
          · rw [if_neg (fun w => q w.2), if_neg q, if_neg (fun w => by omega)]
        show ∃ k', 33 ≤ k' ∧ k' ≤ 126 ∧ (up2 (up2 σ 5 L (nI k)) 4 1 (nI (L + 1))) 5 i = nI k' ∧ (up2 (up2 (up2 τ.1 0 5 (0 : Int32)) 3 L (nI k)) 0 4 (nI (L + 1))) 3 i = nI k'
        rw [s5, t3]
        by_cases q : i = L
        · exact ⟨k, by omega, hk, by rw [if_pos q], by rw [if_pos q]⟩
        · rw [if_neg q, if_neg q]
          exact l4 i (by omega)
  · obtain ⟨τ', e, K, h5⟩ := m_fails τ 1
    refine ⟨.inl 0, 0, τ', by rw [decide_eq_false hx, if_c0], by rw [decide_eq_false hx, if_c0, show (up2 τ.1 0 5 (0 : Int32), τ.2) = t0 τ from rfl, e]; rfl, ?_, K.rel R⟩
    rw [h5]; exact List.mem_cons_self ..
