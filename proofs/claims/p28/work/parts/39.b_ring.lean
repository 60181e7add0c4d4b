/-! the reference's rows -/
def shM (σ : Mem) (k : Nat) : Mem := fun x i => if x = 2 ∧ i < k then σ 2 (i + 84) else σ x i
def wrM (σ : Mem) (s k : Nat) : Mem := fun x i => if x = 2 ∧ 84 * s ≤ i ∧ i < 84 * s + k then σ 1 (i - 84 * s) else σ x i
def udM (σ : Mem) (s k : Nat) : Mem := fun x i => if x = 1 ∧ i < k then σ 2 (84 * s + i) else σ x i
theorem ix84 {s k : Nat} : ((84 : Int32) * nI s) + nI k = nI (84 * s + k) := by
  rw [← nI_add, ← pk_mul]; rfl
theorem shM_0 (σ : Mem) : shM σ 0 = σ := by funext x i; exact if_neg (fun q => by omega)
theorem wrM_0 (σ : Mem) (s : Nat) : wrM σ s 0 = σ := by funext x i; exact if_neg (fun q => by omega)
theorem udM_0 (σ : Mem) (s : Nat) : udM σ s 0 = σ := by funext x i; exact if_neg (fun q => by omega)
theorem lat_ix : ∀ o, o < 6 → ∀ s, s < 7 → 1 ≤ s → (((nI o + nI s) - (1 : Int32)) - ((nI o + nI s) - (1 : Int32)) / (6 : Int32) * (6 : Int32)) = nI ((o + s - 1) % 6) := by decide +kernel
theorem old_ix : ∀ o, o < 6 → ((nI o + (1 : Int32)) - (nI o + (1 : Int32)) / (6 : Int32) * (6 : Int32)) = nI ((o + 1) % 6) := by decide +kernel
theorem s_latest {σ : Mem} {o s : Nat} (ho : o < 6) (hs : s ≤ 6) (h1 : 1 ≤ s) (r1 : σ 0 2 = nI o) (r2 : σ 0 3 = nI s) : F_X3_latestSaved σ = some (12 + 6 * ((o + s - 1) % 6)) := by
  unfold F_X3_latestSaved
  have hm : (o + s - 1) % 6 < 6 := Nat.mod_lt _ (by decide)
  rw [r1, r2, lat_ix o ho s (by omega) h1, if_neg (nI_pos (by omega)), if_neg (fun q : (6 : Int32) ≤ nI ((o + s - 1) % 6) => absurd ((nI_le_iff (a := 6) (by omega) (by omega)).mp q) (by omega)), if_pos (inb_nI hm (by decide)), nI_clamp (by omega)]
