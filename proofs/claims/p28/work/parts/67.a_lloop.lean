/-! the law's loop: forty actions -/
abbrev lvL (b : Nat) (ad : Nat → Nat) (k : Nat) : List (Nat × Value) := [(0, .ref b), (1, .ref (ad 0)), (2, .ref (ad 108)), (3, .ref (ad 109)), (4, .ref (ad 110)), (5, .ref (ad 111)), (6, .int (nI k))]
set_option maxHeartbeats 4000000 in
set_option maxRecDepth 100000 in
theorem l_loop {l : Launch} {D : va_G} {ay : Nat → ClassId} {ad : Nat → Nat} {p : Program} {e : Env} {s : State} {m : MethodId} {b L : Nat} {xs : Nat → Int32} {below : List Frame} {meth : Method} {c : Code} {Q : State → Prop} {rt : Option FieldType} (X : CX D ay p s m #[.ref b] meth c cL_law 10 RL rt wsL_law) (hX : va_X b L xs s s.heap) (hb : b < s.heap.size) (hL : L ≤ 260) (hI : axOK ad) (hA : ∀ q, AX ad q → s.heap.size ≤ q) {cells slots : Nat} (hc : cells ≤ 600130) (hs : slots ≤ 7301080)
    (Kend : ∀ (τ : LM) (H : Heap) (ls : Array Slot), RM1 τ.1 → LX D ay ad s τ H → lv_has ls 10 (lvL b ad 40) → W p l e room_1 s m #[.ref b] below meth c H [] cells slots Q (F0 m 149 ls [])) :
    ∀ (n k : Nat) (σ μ : Mem) (lam : MemL) (H : Heap) (ls : Array Slot), k + n = 40 → RM σ → zv σ 6 = lz μ → Bd k (lz μ) → (k = 0 → fsl (lz μ) 16 0 ≠ none) → (1 ≤ k → RM1 σ) → LX D ay ad s (σ, (μ, lam)) H → lv_has ls 10 (lvL b ad k) → W p l e room_1 s m #[.ref b] below meth c H [] cells slots Q (F0 m 52 ls []) := by
  intro n
  induction n with
  | zero =>
    intro k σ μ lam H ls hk R hz hB h0 h1 hH hl
    have hk' : k = 40 := by omega
    subst hk'
    refine lv_iload X.x X.b dL_law_52 (lv_at hl 6 rfl) ?_
    refine lv_bipush (v := 40) X.x X.b dL_law_54 (by decide) ?_
    refine lv_icmp_ge (tgt := 149) X.x X.b dL_law_56 (by decide) (fun _ => Kend _ H ls (h1 (by omega)) hH hl) (fun q => (q (show (40 : Int32) ≤ nI 40 by decide)).elim)
  | succ n ih =>
    intro k σ μ lam H ls hk R hz hB h0 h1 hH hl
    refine lv_iload X.x X.b dL_law_52 (lv_at hl 6 rfl) ?_
    refine lv_bipush (v := 40) X.x X.b dL_law_54 (by decide) ?_
    refine lv_icmp_ge (tgt := 149) X.x X.b dL_law_56 (by decide) (fun q => ?_) (fun _ => ?_)
    · exact absurd ((nI_le_iff (a := 40) (by omega) (show k < 2 ^ 31 by omega)).mp q) (by omega)
    have e2 : (2 : Int32) * nI k = nI (2 * k) := pk_mul 2 k
    refine lv_aload_n X.x X.b dL_law_59 rfl (lv_at hl 0 rfl) ?_
    refine lv_iconst (v := 2) X.x X.b dL_law_60 (by decide) ?_
    refine lv_iload X.x X.b dL_law_61 (lv_at hl 6 rfl) ?_
    refine lv_imul X.x X.b dL_law_63 ?_
    rw [e2]
    refine lx_cell X hX hb hL (show 2 * k < 1000 by omega) hH (va_cwS 2 X.ts gL_law_L_cell rfl rfl rfl (by decide +kernel) ⟨Nat.le_of_ble_eq_true rfl, Nat.le_of_ble_eq_true rfl⟩) hl.1 dL_law_64 hc hs (fun x0 H hH => ?_)
    refine lv_ldc X.x X.b X.ow (X.ts (.constant RL 102 2147483647) (by decide +kernel)) dL_law_67 ?_
    refine lv_iand X.x X.b dL_law_69 ?_
    generalize x0 &&& (2147483647 : Int32) = x
    refine lv_istore (lv' := [(7, _), (0, _), (1, _), (2, _), (3, _), (4, _), (5, _), (6, _)]) X.x X.b dL_law_70 hl (by decide) rfl (fun ls hl => ?_)
    refine lv_aload_n X.x X.b dL_law_72 rfl (lv_at hl 1 rfl) ?_
    refine lv_iconst (v := 2) X.x X.b dL_law_73 (by decide) ?_
    refine lv_iload X.x X.b dL_law_74 (lv_at hl 7 rfl) ?_
    refine lv_imul X.x X.b dL_law_76 ?_
    refine lv_iconst (v := 1) X.x X.b dL_law_77 (by decide) ?_
    refine lv_iadd X.x X.b dL_law_78 ?_
    rw [e2, nI_1]
    refine lx_cell X hX hb hL (show 2 * k + 1 < 1000 by omega) hH (va_cwS 2 X.ts gL_law_L_cell rfl rfl rfl (by decide +kernel) ⟨Nat.le_of_ble_eq_true rfl, Nat.le_of_ble_eq_true rfl⟩) hl.1 dL_law_79 hc hs (fun y0 H hH => ?_)
    refine lv_ldc X.x X.b X.ow (X.ts (.constant RL 102 2147483647) (by decide +kernel)) dL_law_82 ?_
    refine lv_iand X.x X.b dL_law_84 ?_
    generalize y0 &&& (2147483647 : Int32) = y
    refine lv_istore (lv' := [(8, _), (7, _), (0, _), (1, _), (2, _), (3, _), (4, _), (5, _), (6, _)]) X.x X.b dL_law_85 hl (by decide) rfl (fun ls hl => ?_)
    -- the action, once it is chosen
    have K107 : ∀ (t : Nat) (H : Heap), t < 14 → (k = 0 → t < 5) → LX D ay ad s (σ, (μ, lam)) H → W p l e room_1 s m #[.ref b] below meth c H [] cells slots Q (F0 m 107 ls [.int (nI t)]) := by
      intro t H ht ht0 hH
      obtain ⟨σ', μ', lam', ea, R', hz', hB', r1, r2⟩ := l_act (lam := lam) R hz hB (by omega) ht x y
      have RR : RM1 σ' := by
        by_cases hk0 : k = 0
        · exact r2 (ht0 hk0) (h0 hk0)
        · exact r1 (h1 (by omega))
      refine lv_istore (lv' := [(9, _), (8, _), (7, _), (0, _), (1, _), (2, _), (3, _), (4, _), (5, _), (6, _)]) X.x X.b dL_law_107 hl (by decide) rfl (fun ls hl => ?_)
      refine lv_aload_n X.x X.b dL_law_109 rfl (lv_at hl 4 rfl) ?_
      refine lv_iload X.x X.b dL_law_110 (lv_at hl 0 rfl) ?_
      refine lv_iload X.x X.b dL_law_112 (lv_at hl 2 rfl) ?_
      refine lv_iload X.x X.b dL_law_114 (lv_at hl 1 rfl) ?_
      refine lv_aload_n X.x X.b dL_law_116 rfl (lv_at hl 5 rfl) ?_
      refine lv_aload_n X.x X.b dL_law_117 rfl (lv_at hl 6 rfl) ?_
      refine lv_aload X.x X.b dL_law_118 (lv_at hl 7 rfl) ?_
      refine lv_aload X.x X.b dL_law_120 (lv_at hl 8 rfl) ?_
      refine lx_callS (As := [.ref (ad 0), .int (nI t), .int x, .int y, .ref (ad 108), .ref (ad 109), .ref (ad 110), .ref (ad 111)]) (rest := []) X hA hH (c_L_act hI ea) (va_cwS 8 X.ts gL_law_L_act rfl rfl rfl (by decide +kernel) ⟨Nat.le_of_ble_eq_true rfl, Nat.le_of_ble_eq_true rfl⟩) rfl hl.1 rfl (Nat.le_of_ble_eq_true rfl) dL_law_122 hc hs (fun r u H hp hH => ?_)
      have ep : (r, u) = ((1 : Int32), (σ', (μ', lam'))) := hp.1
      obtain ⟨rfl, rfl⟩ := Prod.mk.inj ep
      refine lv_if_eq (tgt := 141) X.x X.b dL_law_125 (by decide) (fun q => absurd q (by decide)) (fun _ => ?_)
      obtain ⟨lam2, et⟩ := l_told R'.1 hz' lam'
      refine lv_aload_n X.x X.b dL_law_128 rfl (lv_at hl 4 rfl) ?_
      refine lv_aload_n X.x X.b dL_law_129 rfl (lv_at hl 5 rfl) ?_
      refine lv_aload_n X.x X.b dL_law_130 rfl (lv_at hl 6 rfl) ?_
      refine lv_aload X.x X.b dL_law_131 (lv_at hl 7 rfl) ?_
      refine lv_aload X.x X.b dL_law_133 (lv_at hl 8 rfl) ?_
      refine lx_callS (As := [.ref (ad 0), .ref (ad 108), .ref (ad 109), .ref (ad 110), .ref (ad 111)]) (rest := []) X hA hH (c_L_told hI et) (va_cwS 5 X.ts gL_law_L_told rfl rfl rfl (by decide +kernel) ⟨Nat.le_of_ble_eq_true rfl, Nat.le_of_ble_eq_true rfl⟩) rfl hl.1 rfl (Nat.le_of_ble_eq_true rfl) dL_law_135 hc hs (fun r u H hp hH => ?_)
      have ep : (r, u) = ((1 : Int32), (σ', (μ', lam2))) := hp.1
      obtain ⟨rfl, rfl⟩ := Prod.mk.inj ep
      refine lv_if_ne (tgt := 143) X.x X.b dL_law_138 (by decide) (fun _ => ?_) (fun q => absurd q (by decide))
      refine lv_iinc (v := nI (k + 1)) (lv' := [(6, _), (9, _), (8, _), (7, _), (0, _), (1, _), (2, _), (3, _), (4, _), (5, _)]) X.x X.b dL_law_143 hl (k := 9) rfl (by rw [show Int32.ofInt 1 = (1 : Int32) from rfl, nI_1]) (by decide) rfl (fun ls hl => ?_)
      refine lv_goto (tgt := 52) X.x X.b dL_law_146 (by decide) ?_
      exact ih (k + 1) σ' μ' lam2 H ls (by omega) R' hz' hB' (fun q => by omega) (fun _ => RR) hH (lv_sub hl [4, 5, 6, 7, 8, 9, 0] rfl)
    refine lv_iload X.x X.b dL_law_87 (lv_at hl 8 rfl) ?_
    refine lv_iconst (v := 4) X.x X.b dL_law_89 (by decide) ?_
    refine lv_icmp_ge (tgt := 97) X.x X.b dL_law_90 (by decide) (fun q => ?_) (fun _ => ?_)
    · have hk4 : 4 ≤ k := (nI_le_iff (a := 4) (by omega) (show k < 2 ^ 31 by omega)).mp q
      refine lv_iload X.x X.b dL_law_97 (lv_at hl 1 rfl) ?_
      refine lv_bipush (v := 13) X.x X.b dL_law_99 (by decide) ?_
      refine lv_ishr X.x X.b dL_law_101 ?_
      refine lv_bipush (v := 14) X.x X.b dL_law_102 (by decide) ?_
      obtain ⟨t, ht, et⟩ := l_at (x >>> ((13 : Int32) &&& 31)) (n := 14) (by omega) (by omega)
      have et : F_L_at (x >>> ((13 : Int32) &&& 31)) (14 : Int32) = some (nI t) := et
      refine lx_callS (As := [.int (x >>> ((13 : Int32) &&& 31)), .int 14]) (rest := []) X hA hH (c_L_at hI et) (va_cwS 2 X.ts gL_law_L_at rfl rfl rfl (by decide +kernel) ⟨Nat.le_of_ble_eq_true rfl, Nat.le_of_ble_eq_true rfl⟩) rfl hl.1 rfl (Nat.le_of_ble_eq_true rfl) dL_law_104 hc hs (fun r u H hp hH => ?_)
      rw [hp.1]
      rw [hp.2] at hH
      exact K107 t H ht (fun q => by omega) hH
    · refine lv_iconst (v := 0) X.x X.b dL_law_93 (by decide) ?_
      refine lv_goto (tgt := 107) X.x X.b dL_law_94 (by decide) ?_
      exact K107 0 H (by omega) (fun _ => by omega) hH
