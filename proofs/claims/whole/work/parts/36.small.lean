/-! ===== small methods, both sides ===== -/
section C36
variable {X : Nat × (Nat → Int32)} {d : Nat} {M : rM} {S : SK} {W : WD} {s : Nat}
theorem ix4 {c : Nat} (hc : c < 6) {k : Int} (h0 : 0 ≤ k) (hk : k < 7) : wr (wr (4 * (c : Int)) + k) = ((4 * c + k.toNat : Nat) : Int) := by
  rw [wri (x := 4 * (c : Int)) (by omega) (by omega), wri (by omega) (by omega)]
  omega
theorem gdx {i n : Int} {t : Option rO} (h0 : 0 ≤ i) (h1 : i < n) : gd (0 ≤ i ∧ i < n) t = t := gdp ⟨h0, h1⟩
theorem c_bel (hs : s = 34 ∨ s = 57) (hF : WF S) (hW : CW (s + 1) 0 (nC S) W M) {c : Nat} (hc : c < nC S) : fn X (d + 1) 98 [rv s, iv (c : Int)] M = oI (W (3 + c) : Int) M := by
  have h6 := hF.1
  have := hW.cell hc h6 (q := 0) (by omega)
  rw [q_98_s _ _ hs, ix4 (by omega) (by omega) (by omega), gdx (by omega) (by omega), Int.toNat_natCast]
  simp only [Nat.zero_add, Nat.mul_zero, Nat.add_zero] at this
  rw [← this]
  rfl
theorem c_war (hs : s = 34 ∨ s = 57) (hF : WF S) (hW : CW (s + 1) 0 (nC S) W M) {c : Nat} (hc : c < nC S) : fn X (d + 1) 100 [rv s, iv (c : Int)] M = oI (W (9 + c) : Int) M := by
  have h6 := hF.1
  have := hW.cell hc h6 (q := 1) (by omega)
  rw [q_100_s _ _ hs, ix4 (by omega) (by omega) (by omega), gdx (by omega) (by omega), Int.toNat_natCast]
  simp only [Nat.zero_add, Nat.mul_one] at this
  rw [← this]
  rfl
theorem c_crd (hs : s = 34 ∨ s = 57) (hF : WF S) (hW : CW (s + 1) 0 (nC S) W M) {c : Nat} (hc : c < nC S) : fn X (d + 1) 101 [rv s, iv (c : Int)] M = oI (W (15 + c) : Int) M := by
  have h6 := hF.1
  have := hW.cell hc h6 (q := 2) (by omega)
  rw [q_101_s _ _ hs, ix4 (by omega) (by omega) (by omega), gdx (by omega) (by omega), Int.toNat_natCast]
  simp only [Nat.zero_add] at this
  rw [← this]
  rfl
theorem c_fat (hs : s = 34 ∨ s = 57) (hF : WF S) (hW : CW (s + 1) 0 (nC S) W M) {c : Nat} (hc : c < nC S) : fn X (d + 1) 102 [rv s, iv (c : Int)] M = oI (W (21 + c) : Int) M := by
  have h6 := hF.1
  have := hW.cell hc h6 (q := 3) (by omega)
  rw [q_102_s _ _ hs, ix4 (by omega) (by omega) (by omega), gdx (by omega) (by omega), Int.toNat_natCast]
  simp only [Nat.zero_add] at this
  rw [← this]
  rfl
theorem c_get4 (hS : CS S M) (hF : WF S) {c : Nat} (hc : c < nC S) {j : Nat} (hj : j < 5) : fn X (d + 1) 118 [rv 4, iv (c : Int), iv (j : Int)] M = oI (cre S c j : Int) M := by
  have h6 := hF.1
  have e : wr (wr ((c : Int) * 5) + (j : Int)) = ((5 * c + j : Nat) : Int) := by
    rw [wri (x := (c : Int) * 5) (by omega) (by omega), wri (by omega) (by omega)]
    omega
  rw [q_118_4, e, gdx (by omega) (by omega), Int.toNat_natCast, hS.2.2.2.2.1 c j hc hj]
theorem c_get6 (hS : CS S M) (hF : WF S) {c : Nat} (hc : c < nT S) {j : Nat} (hj : j < 6) : fn X (d + 1) 118 [rv 6, iv (c : Int), iv (j : Int)] M = oI (tri S c j : Int) M := by
  have h6 := hF.2.1
  have e : wr (wr ((c : Int) * 6) + (j : Int)) = ((6 * c + j : Nat) : Int) := by
    rw [wri (x := (c : Int) * 6) (by omega) (by omega), wri (by omega) (by omega)]
    omega
  rw [q_118_6, e, gdx (by omega) (by omega), Int.toNat_natCast, hS.2.2.2.2.2.1 c j hc hj]
theorem c_get8 (hS : CS S M) (hF : WF S) {c : Nat} (hc : c < nH S) {j : Nat} (hj : j < 2) : fn X (d + 1) 118 [rv 8, iv (c : Int), iv (j : Int)] M = oI (hun S c j : Int) M := by
  have h6 := hF.2.2.1
  have e : wr (wr ((c : Int) * 2) + (j : Int)) = ((2 * c + j : Nat) : Int) := by
    rw [wri (x := (c : Int) * 2) (by omega) (by omega), wri (by omega) (by omega)]
    omega
  rw [q_118_8, e, gdx (by omega) (by omega), Int.toNat_natCast, hS.2.2.2.2.2.2.1 c j hc hj]
theorem c_get10 (hS : CS S M) (hF : WF S) {c : Nat} (hc : c < nL S) : fn X (d + 1) 118 [rv 10, iv (c : Int), iv 0] M = oI (tal S c : Int) M := by
  have h6 := hF.2.2.2.1
  have e : wr (wr ((c : Int) * 1) + 0) = ((c : Nat) : Int) := by
    rw [wri (x := (c : Int) * 1) (by omega) (by omega), wri (by omega) (by omega)]
    omega
  rw [q_118_10, e, gdx (by omega) (by omega), Int.toNat_natCast, hS.2.2.2.2.2.2.2.1 c hc]
/-- who is of a fate -/
def fates (S : SK) (W : WD) (f : Nat) : Nat := setN (fun c => W (21 + c) == f) (nC S)
theorem c_bits (hs : s = 34 ∨ s = 57) (hS : CS S M) (hF : WF S) (hW : CW (s + 1) 0 (nC S) W M) (f : Nat) : fn X (d + 2) 105 [rv s, iv (f : Int)] M = oI (fates S W f : Int) M := by
  have h6 := hF.1
  rw [q_105_s _ _ hs]
  refine loop_up (P := fun n c => kb X (d + 1) 105 n 4 [some (rv s), some (iv (f : Int)), some (iv ((setN (fun c => W (21 + c) == f) c : Nat) : Int)), some (iv (c : Int))] [] M) (nC S) ?_ ?_ (nC S) 0 FU (by omega) (FU_lt (by omega))
  · intro n c hc
    left
    have hb : setN (fun c => W (21 + c) == f) c < 2 ^ 31 := Nat.lt_trans (setN_lt _ c) (Nat.pow_lt_pow_right (by omega) (by omega))
    rw [q_105_s_at4 _ _ _ _ hs, q_112_4, cI_I, hS.1, if_pos (by omega), c_fat hs hF hW hc, cI_I, wr_succ (by omega), set_or hb (by omega)]
    simp only [setN]
    by_cases h : W (21 + c) = f
    · rw [if_pos (by omega), if_pos (by simp [h])]
    · rw [if_neg (by omega), if_neg (by simp [h])]
  · intro n
    rw [q_105_s_at4 _ _ _ _ hs, q_112_4, cI_I, hS.1, if_neg (by omega)]
    rfl
/-- the help of all who are caught -/
def helpN (S : SK) (p : Nat → Bool) : Nat → Nat
  | 0 => 0
  | c + 1 => if p c then helpN S p c + cre S c 4 else helpN S p c
theorem helpN_le (hF : WF S) (p : Nat → Bool) : ∀ n, n ≤ nC S → helpN S p n ≤ 9 * n
  | 0, _ => by unfold helpN; omega
  | n + 1, h => by
    have ih := helpN_le hF p n (by omega)
    have := (hF.2.2.2.2.1 n (by omega)).2.2.2.2
    unfold helpN
    split <;> omega
def helpW (S : SK) (W : WD) : Nat := helpN S (fun c => W (21 + c) == 1) (nC S)
theorem c_help (hs : s = 34 ∨ s = 57) (hS : CS S M) (hF : WF S) (hW : CW (s + 1) 0 (nC S) W M) : fn X (d + 2) 106 [rv s] M = oI (helpW S W : Int) M := by
  have h6 := hF.1
  rw [q_106_s _ hs]
  refine loop_up (P := fun n c => kb X (d + 1) 106 n 4 [some (rv s), some (iv ((helpN S (fun c => W (21 + c) == 1) c : Nat) : Int)), some (iv (c : Int))] [] M) (nC S) ?_ ?_ (nC S) 0 FU (by omega) (FU_lt (by omega))
  · intro n c hc
    left
    have hb := helpN_le hF (fun c => W (21 + c) == 1) c (by omega)
    have hb2 := (hF.2.2.2.2.1 c hc).2.2.2.2
    rw [q_106_s_at4 _ _ _ hs, q_112_4, cI_I, hS.1, if_pos (by omega), c_fat hs hF hW hc, cI_I, wr_succ (by omega)]
    have hg := c_get4 (X := X) (d := d) hS hF hc (j := 4) (by omega)
    simp only [helpN]
    by_cases h : W (21 + c) = 1
    · rw [if_pos (by omega), if_pos (by simp [h])]
      erw [hg]
      rw [cI_I, wri (by omega) (by omega)]
      rfl
    · rw [if_neg (by omega), if_neg (by simp [h])]
  · intro n
    rw [q_106_s_at4 _ _ _ hs, q_112_4, cI_I, hS.1, if_neg (by omega)]
    rfl
end C36
