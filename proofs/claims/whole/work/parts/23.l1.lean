/-! small words -/
theorem sa_gt0 {x : Int32} (h : ¬ x ≤ 0) : ¬ x = 0 := fun z => h (by rw [z]; decide)
theorem sa_inv_n (a : Nat) {n : Nat} (h : a < n ∧ n < 2147483648) : nI a = -1 ∨ (nI a = nI (nI a).toNatClampNeg ∧ (nI a).toNatClampNeg < n) := by
  right
  rw [nI_clamp (by omega)]
  exact ⟨rfl, h.1⟩
theorem sa_inv_k {x : Int32} {n : Nat} (h : x = -1 ∨ (x = nI x.toNatClampNeg ∧ x.toNatClampNeg < n)) : x = -1 ∨ (x = nI x.toNatClampNeg ∧ x.toNatClampNeg < n + 1) := h.imp id (fun z => ⟨z.1, by omega⟩)
theorem sp_255 : (Int16.ofInt 255).toInt32 = nI 255 := by decide
theorem sp_320 : (Int16.ofInt 320).toInt32 = nI 320 := by decide
theorem sp_330 : (Int16.ofInt 330).toInt32 = nI 330 := by decide
theorem sp_384 : (Int16.ofInt 384).toInt32 = nI 384 := by decide
theorem sp_700 : (Int16.ofInt 700).toInt32 = nI 700 := by decide
theorem sp_950 : (Int16.ofInt 950).toInt32 = nI 950 := by decide
theorem sp_999 : (Int16.ofInt 999).toInt32 = nI 999 := by decide
theorem sp_1023 : (Int16.ofInt 1023).toInt32 = nI 1023 := by decide
theorem sp_1080 : (Int16.ofInt 1080).toInt32 = nI 1080 := by decide
theorem sp_1400 : (Int16.ofInt 1400).toInt32 = nI 1400 := by decide
theorem sp_3904 : (Int16.ofInt 3904).toInt32 = nI 3904 := by decide
theorem sp_3905 : (Int16.ofInt 3905).toInt32 = nI 3905 := by decide
theorem sp_12345 : (Int16.ofInt 12345).toInt32 = nI 12345 := by decide
theorem sp_32767 : (Int16.ofInt 32767).toInt32 = nI 32767 := by decide
theorem sw_ne {x : Int32} {lo hi : Int} (z1 : ¬ x.toInt < lo) (z2 : ¬ hi < x.toInt) (h : ∀ v : Int, lo ≤ v → v ≤ hi → ¬ x = Int32.ofInt v) : False := h x.toInt (by omega) (by omega) (Int32.ofInt_toInt x).symm
def itE {ρ σ : Type} (f : Nat → σ → Option ρ × σ) : Nat → σ → Option ρ × σ
  | 0, s => (none, s)
  | k + 1, s => match (itE f k s).1 with
    | some r => (some r, (itE f k s).2)
    | none => f k (itE f k s).2
theorem itE_step {ρ σ : Type} {f : Nat → σ → Option ρ × σ} {k : Nat} {s : σ} (h : (itE f k s).1 = none) : itE f (k + 1) s = f k (itE f k s).2 := by
  rw [itE, h]
theorem itE_stay {ρ σ : Type} {f : Nat → σ → Option ρ × σ} {k n : Nat} {s : σ} {r : ρ} (hk : k ≤ n) (h : (itE f k s).1 = some r) : (itE f n s).1 = some r := by
  induction n with
  | zero =>
    have : k = 0 := by omega
    rw [← this]; exact h
  | succ n ih =>
    by_cases e : k = n + 1
    · rw [← e]; exact h
    · have := ih (by omega)
      rw [itE, this]
