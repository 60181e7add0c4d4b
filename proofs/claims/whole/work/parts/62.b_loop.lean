theorem lp_out {k L : Nat} (h1 : 4 * k ≥ L) (h2 : 4 * k ≤ 2048) (hL : L ≤ 2048) : Int32.ofNat L - 4 < nI (4 * k) := by
  have e1 : (Int32.ofNat L).toInt = (L : Int) := nI_toInt (show L < 2 ^ 31 by omega)
  have e2 : (nI (4 * k)).toInt = ((4 * k : Nat) : Int) := nI_toInt (by omega)
  rw [Int32.lt_iff_toInt_lt, Int32.toInt_sub, e1, e2, show (4 : Int32).toInt = 4 from by decide]
  rw [Int.bmod_eq_of_le (by omega) (by omega)]
  omega
theorem lp_in {k L : Nat} (h2 : 4 * k ≤ 2048) (hL : L ≤ 2048) (q : ¬ Int32.ofNat L - 4 < nI (4 * k)) : 4 * k + 4 ≤ L := by
  have e1 : (Int32.ofNat L).toInt = (L : Int) := nI_toInt (show L < 2 ^ 31 by omega)
  have e2 : (nI (4 * k)).toInt = ((4 * k : Nat) : Int) := nI_toInt (by omega)
  rw [Int32.lt_iff_toInt_lt, Int32.toInt_sub, e1, e2, show (4 : Int32).toInt = 4 from by decide, Int.bmod_eq_of_le (by omega) (by omega)] at q
  omega
theorem lp_i {k j L : Nat} (h : 4 * k + j < L) (hL : L ≤ 2048) : vp_in (nI (4 * k) + nI j) L := by
  rw [nI_add]
  exact nI_in h (by omega)
theorem lp_next (k : Nat) : nI (4 * k) + Int32.ofInt 4 = nI (4 * (k + 1)) := by
  rw [show Int32.ofInt 4 = nI 4 from rfl, nI_add, Nat.mul_succ]
set_option maxHeartbeats 4000000 in
set_option maxRecDepth 100000 in
theorem k_switch {l : Launch} (hlt : l.stackTraces = false) {D : va_G} {ay : Nat → ClassId} {ad am : Nat → Nat} {oa od : Nat} {p : Program} {e : Env} {s : State} {m : MethodId} {b L : Nat} {xs : Nat → Int32} {below : List Frame} {meth : Method} {c : Code} {Q : State → Prop} {sd : Nat → Nat} {rt : Option FieldType} (X : CX D ay p s m #[.ref b] meth c cL_law 9 RL rt wsL_law) (hX : va_X b L xs s s.heap) (hb : b < s.heap.size) (hA : LA s.heap.size ad am oa od) (hT : TX (fun q => s.heap.size ≤ q) sd s) {σ : Mem} {τ : Mem × Int64} {ov : Int64} {dv : UInt64} (R : Rel σ τ) {cells slots : Nat} (hc : cells + 1 ≤ 601024) (hs : slots + 6 ≤ 7293034) {i : Int32} (i1 : vp_in (i + 1) L) (i2 : vp_in (i + 2) L) (i3 : vp_in (i + 3) L)
    (K : ∀ (σ' : Mem) (τ' : Mem × Int64) (ov' : Int64) (dv' : UInt64) (H : Heap), Rel σ' τ' → LH D ay ad am oa od s σ' τ' ov' dv' H → ∀ ls : Array Slot, lv_has ls 9 [(0, .ref b), (1, .ref (ad 0)), (2, .ref (am 0)), (3, .ref oa), (4, .ref od), (5, .int i)] → W p l e room_1 s m #[.ref b] below meth c H [] (cells + 1) (slots + 6) Q (F0 m 1549 ls []))
    {H : Heap} (hH : LH D ay ad am oa od s σ τ ov dv H) {ls : Array Slot} (hl : lv_has ls 9 [(0, .ref b), (1, .ref (ad 0)), (2, .ref (am 0)), (3, .ref oa), (4, .ref od), (5, .int i)]) (w : Int32) : W p l e room_1 s m #[.ref b] below meth c H [] cells slots Q (F0 m 44 ls [.int w]) := by
  by_cases h0 : w = 0
  · refine lv_tableIn (tgt := 160) X.x X.b dL_law_44 (by rw [h0]; decide) (by rw [h0]; decide) (by rw [h0]; rfl) (by decide) ?_
    exact k_add hlt X hX hb hA hT R hc hs i1 i2 K hH hl
  by_cases h1 : w = 1
  · refine lv_tableIn (tgt := 228) X.x X.b dL_law_44 (by rw [h1]; decide) (by rw [h1]; decide) (by rw [h1]; rfl) (by decide) ?_
    exact k_remove hlt X hX hb hA hT R hc hs i1 K hH hl
  by_cases h2 : w = 2
  · refine lv_tableIn (tgt := 284) X.x X.b dL_law_44 (by rw [h2]; decide) (by rw [h2]; decide) (by rw [h2]; rfl) (by decide) ?_
    exact k_speed hlt X hX hb hA hT R hc hs i1 i2 K hH hl
  by_cases h3 : w = 3
  · refine lv_tableIn (tgt := 352) X.x X.b dL_law_44 (by rw [h3]; decide) (by rw [h3]; decide) (by rw [h3]; rfl) (by decide) ?_
    exact k_jump hlt X hX hb hA hT R hc hs i1 i2 K hH hl
  by_cases h4 : w = 4
  · refine lv_tableIn (tgt := 420) X.x X.b dL_law_44 (by rw [h4]; decide) (by rw [h4]; decide) (by rw [h4]; rfl) (by decide) ?_
    exact k_swap hlt X hX hb hA hT R hc hs i1 i2 K hH hl
  by_cases h5 : w = 5
  · refine lv_tableIn (tgt := 488) X.x X.b dL_law_44 (by rw [h5]; decide) (by rw [h5]; decide) (by rw [h5]; rfl) (by decide) ?_
    exact k_pass hlt X hX hb hA hT R hc hs i1 K hH hl
  by_cases h6 : w = 6
  · refine lv_tableIn (tgt := 544) X.x X.b dL_law_44 (by rw [h6]; decide) (by rw [h6]; decide) (by rw [h6]; rfl) (by decide) ?_
    exact k_passToTurn hlt X hX hb hA hT R hc hs K hH hl
  by_cases h7 : w = 7
  · refine lv_tableIn (tgt := 588) X.x X.b dL_law_44 (by rw [h7]; decide) (by rw [h7]; decide) (by rw [h7]; rfl) (by decide) ?_
    exact k_set hlt X hX hb hA hT R hc hs i1 i2 K hH hl
  by_cases h8 : w = 8
  · refine lv_tableIn (tgt := 656) X.x X.b dL_law_44 (by rw [h8]; decide) (by rw [h8]; decide) (by rw [h8]; rfl) (by decide) ?_
    exact k_append hlt X hX hb hA hT R hc hs i1 K hH hl
  by_cases h9 : w = 9
  · refine lv_tableIn (tgt := 712) X.x X.b dL_law_44 (by rw [h9]; decide) (by rw [h9]; decide) (by rw [h9]; rfl) (by decide) ?_
    exact k_clearBuffer hlt X hX hb hA hT R hc hs K hH hl
  by_cases h10 : w = 10
  · refine lv_tableIn (tgt := 725) X.x X.b dL_law_44 (by rw [h10]; decide) (by rw [h10]; decide) (by rw [h10]; rfl) (by decide) ?_
    exact k_firstError hlt X hX hb hA hT R hc hs K hH hl
  by_cases h11 : w = 11
  · refine lv_tableIn (tgt := 738) X.x X.b dL_law_44 (by rw [h11]; decide) (by rw [h11]; decide) (by rw [h11]; rfl) (by decide) ?_
    exact k_addAll hlt X hX hb hA hT R hc hs K hH hl
  by_cases h12 : w = 12
  · refine lv_tableIn (tgt := 782) X.x X.b dL_law_44 (by rw [h12]; decide) (by rw [h12]; decide) (by rw [h12]; rfl) (by decide) ?_
    exact k_undo hlt X hX hb hA hT R hc hs K hH hl
  by_cases h13 : w = 13
  · refine lv_tableIn (tgt := 826) X.x X.b dL_law_44 (by rw [h13]; decide) (by rw [h13]; decide) (by rw [h13]; rfl) (by decide) ?_
    exact k_mover hlt X hX hb hA hT R hc hs i1 i2 K hH hl
  by_cases h14 : w = 14
  · refine lv_tableIn (tgt := 894) X.x X.b dL_law_44 (by rw [h14]; decide) (by rw [h14]; decide) (by rw [h14]; rfl) (by decide) ?_
    exact k_contest hlt X hX hb hA hT R hc hs i1 i2 K hH hl
  by_cases h15 : w = 15
  · refine lv_tableIn (tgt := 962) X.x X.b dL_law_44 (by rw [h15]; decide) (by rw [h15]; decide) (by rw [h15]; rfl) (by decide) ?_
    exact k_nextTurn hlt X hX hb hA hT R hc hs i1 K hH hl
  by_cases h16 : w = 16
  · refine lv_tableIn (tgt := 1018) X.x X.b dL_law_44 (by rw [h16]; decide) (by rw [h16]; decide) (by rw [h16]; rfl) (by decide) ?_
    exact k_span hlt X hX hb hA hT R hc hs i1 i2 K hH hl
  by_cases h17 : w = 17
  · refine lv_tableIn (tgt := 1086) X.x X.b dL_law_44 (by rw [h17]; decide) (by rw [h17]; decide) (by rw [h17]; rfl) (by decide) ?_
    exact k_count hlt X hX hb hA hT R hc hs i1 K hH hl
  by_cases h18 : w = 18
  · refine lv_tableIn (tgt := 1142) X.x X.b dL_law_44 (by rw [h18]; decide) (by rw [h18]; decide) (by rw [h18]; rfl) (by decide) ?_
    exact k_setting hlt X hX hb hA hT R hc hs i1 K hH hl
  by_cases h19 : w = 19
  · refine lv_tableIn (tgt := 1198) X.x X.b dL_law_44 (by rw [h19]; decide) (by rw [h19]; decide) (by rw [h19]; rfl) (by decide) ?_
    exact k_leaderAfter hlt X hX hb hA hT R hc hs i1 K hH hl
  by_cases h20 : w = 20
  · refine lv_tableIn (tgt := 1254) X.x X.b dL_law_44 (by rw [h20]; decide) (by rw [h20]; decide) (by rw [h20]; rfl) (by decide) ?_
    exact k_overtakes hlt X hX hb hA hT R hc hs i1 i2 i3 K hH hl
  by_cases h21 : w = 21
  · refine lv_tableIn (tgt := 1334) X.x X.b dL_law_44 (by rw [h21]; decide) (by rw [h21]; decide) (by rw [h21]; rfl) (by decide) ?_
    exact k_turnsIn hlt X hX hb hA hT R hc hs i1 K hH hl
  by_cases h22 : w = 22
  · refine lv_tableIn (tgt := 1390) X.x X.b dL_law_44 (by rw [h22]; decide) (by rw [h22]; decide) (by rw [h22]; rfl) (by decide) ?_
    exact k_leastSpeed hlt X hX hb hA hT R hc hs i1 i2 K hH hl
  by_cases h23 : w = 23
  · refine lv_tableIn (tgt := 1458) X.x X.b dL_law_44 (by rw [h23]; decide) (by rw [h23]; decide) (by rw [h23]; rfl) (by decide) ?_
    exact k_leadShare hlt X hX hb hA hT R hc hs i1 K hH hl
  by_cases h24 : w = 24
  · refine lv_tableIn (tgt := 1535) X.x X.b dL_law_44 (by rw [h24]; decide) (by rw [h24]; decide) (by rw [h24]; rfl) (by decide) ?_
    exact k_digest hlt X hX hb hA hT R hc hs K hH hl
  have t0 : w.toInt ≠ 0 := tb_ne h0
  have t1 : w.toInt ≠ 1 := tb_ne h1
  have t2 : w.toInt ≠ 2 := tb_ne h2
  have t3 : w.toInt ≠ 3 := tb_ne h3
  have t4 : w.toInt ≠ 4 := tb_ne h4
  have t5 : w.toInt ≠ 5 := tb_ne h5
  have t6 : w.toInt ≠ 6 := tb_ne h6
  have t7 : w.toInt ≠ 7 := tb_ne h7
  have t8 : w.toInt ≠ 8 := tb_ne h8
  have t9 : w.toInt ≠ 9 := tb_ne h9
  have t10 : w.toInt ≠ 10 := tb_ne h10
  have t11 : w.toInt ≠ 11 := tb_ne h11
  have t12 : w.toInt ≠ 12 := tb_ne h12
  have t13 : w.toInt ≠ 13 := tb_ne h13
  have t14 : w.toInt ≠ 14 := tb_ne h14
  have t15 : w.toInt ≠ 15 := tb_ne h15
  have t16 : w.toInt ≠ 16 := tb_ne h16
  have t17 : w.toInt ≠ 17 := tb_ne h17
  have t18 : w.toInt ≠ 18 := tb_ne h18
  have t19 : w.toInt ≠ 19 := tb_ne h19
  have t20 : w.toInt ≠ 20 := tb_ne h20
  have t21 : w.toInt ≠ 21 := tb_ne h21
  have t22 : w.toInt ≠ 22 := tb_ne h22
  have t23 : w.toInt ≠ 23 := tb_ne h23
  have t24 : w.toInt ≠ 24 := tb_ne h24
  refine lv_tableOut (tgt := 1549) X.x X.b dL_law_44 (by omega) (by decide) ?_
  exact W.widen (by omega) (by omega) (K σ τ ov dv H R hH ls hl)
set_option maxHeartbeats 4000000 in
set_option maxRecDepth 100000 in
theorem k_loop {l : Launch} (hlt : l.stackTraces = false) {D : va_G} {ay : Nat → ClassId} {ad am : Nat → Nat} {oa od : Nat} {p : Program} {e : Env} {s : State} {m : MethodId} {b L : Nat} {xs : Nat → Int32} {below : List Frame} {meth : Method} {c : Code} {Q : State → Prop} {sd : Nat → Nat} {rt : Option FieldType} (X : CX D ay p s m #[.ref b] meth c cL_law 9 RL rt wsL_law) (hX : va_X b L xs s s.heap) (hb : b < s.heap.size) (hA : LA s.heap.size ad am oa od) (hT : TX (fun q => s.heap.size ≤ q) sd s) (hL : L ≤ 2048) {c0 s0 : Nat} (hc0 : c0 + 600 ≤ 601024) (hs0 : s0 + 3600 ≤ 7293034)
    (Kend : ∀ (H : Heap) (ls : Array Slot) (cells slots : Nat), cells ≤ 601024 → slots ≤ 7293034 → W p l e room_1 s m #[.ref b] below meth c H [] cells slots Q (F0 m 1555 ls [])) :
    ∀ (n k : Nat) (σ : Mem) (τ : Mem × Int64) (ov : Int64) (dv : UInt64) (H : Heap) (ls : Array Slot), 4 * k + 4 * n ≥ L → 4 * k ≤ L → Rel σ τ → LH D ay ad am oa od s σ τ ov dv H → lv_has ls 9 [(0, .ref b), (1, .ref (ad 0)), (2, .ref (am 0)), (3, .ref oa), (4, .ref od), (5, .int (nI (4 * k)))] → W p l e room_1 s m #[.ref b] below meth c H [] (c0 + k) (s0 + 6 * k) Q (F0 m 28 ls []) := by
  intro n
  induction n with
  | zero =>
    intro k σ τ ov dv H ls h1 h2 R hH hl
    have hk : k ≤ 512 := by omega
    refine lv_iload X.x X.b dL_law_28 (lv_at hl 5 rfl) ?_
    refine lv_aload_n X.x X.b dL_law_30 rfl (lv_at hl 0 rfl) ?_
    refine lc_slen X hX hb hH dL_law_31 ?_
    refine lv_iconst (v := 4) X.x X.b dL_law_32 (by decide) ?_
    refine lv_isub X.x X.b dL_law_33 ?_
    refine lv_icmp_gt (tgt := 1555) X.x X.b dL_law_34 (by decide) (fun _ => ?_) (fun q => ?_)
    · exact Kend H ls _ _ (by omega) (by omega)
    · exact (q (lp_out (by omega) (by omega) (by omega))).elim
  | succ n ih =>
    intro k σ τ ov dv H ls h1 h2 R hH hl
    have hk : k ≤ 512 := by omega
    refine lv_iload X.x X.b dL_law_28 (lv_at hl 5 rfl) ?_
    refine lv_aload_n X.x X.b dL_law_30 rfl (lv_at hl 0 rfl) ?_
    refine lc_slen X hX hb hH dL_law_31 ?_
    refine lv_iconst (v := 4) X.x X.b dL_law_32 (by decide) ?_
    refine lv_isub X.x X.b dL_law_33 ?_
    refine lv_icmp_gt (tgt := 1555) X.x X.b dL_law_34 (by decide) (fun _ => ?_) (fun q => ?_)
    · exact Kend H ls _ _ (by omega) (by omega)
    · have hlt4 : 4 * k + 4 ≤ L := lp_in (by omega) (by omega) q
      refine lv_aload_n X.x X.b dL_law_37 rfl (lv_at hl 0 rfl) ?_
      refine lv_iload X.x X.b dL_law_38 (lv_at hl 5 rfl) ?_
      refine lc_sld X hX hb hH (nI_in (by omega) (by omega)) dL_law_40 ?_
      refine lv_bipush (v := 31) X.x X.b dL_law_41 (by decide) ?_
      refine lv_iand X.x X.b dL_law_43 ?_
      refine k_switch hlt X hX hb hA hT R (by omega) (by omega) (lp_i (j := 1) (by omega) (by omega)) (lp_i (j := 2) (by omega) (by omega)) (lp_i (j := 3) (by omega) (by omega)) (fun σ' τ' ov' dv' H R hH ls hl => ?_) hH hl _
      refine lv_iinc (v := nI (4 * (k + 1))) (lv' := [(5, _), (0, _), (1, _), (2, _), (3, _), (4, _)]) X.x X.b dL_law_1549 hl (k := 5) rfl (lp_next k) (by decide) rfl (fun ls hl => ?_)
      refine lv_goto (tgt := 28) X.x X.b dL_law_1552 (by decide) ?_
      have := ih (k + 1) σ' τ' ov' dv' H ls (by omega) (by omega) R hH (lv_sub hl [1, 2, 3, 4, 5, 0] rfl)
      rw [show c0 + (k + 1) = c0 + k + 1 by omega, show s0 + 6 * (k + 1) = s0 + 6 * k + 6 by omega] at this
      exact this
