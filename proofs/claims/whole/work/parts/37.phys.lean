/-! ===== tricks, both sides ===== -/
theorem bit_test {s c : Nat} (hs : s < 2147483648) (hc : c < 32) : iand (ishr (s : Int) (c : Int)) 1 = if s.testBit c then 1 else 0 := by
  have h1 : s / 2 ^ c < 2147483648 := Nat.lt_of_le_of_lt (Nat.div_le_self _ _) hs
  rw [ishr_nat hc hs]
  have := iand_nat (a := s / 2 ^ c) (b := 1) h1 (by omega)
  rw [Nat.and_one_is_mod] at this
  rw [show (1 : Int) = ((1 : Nat) : Int) from rfl, this, Nat.testBit_eq_decide_div_mod_eq]
  by_cases h : s / 2 ^ c % 2 = 1
  · simp [h]
  · have : s / 2 ^ c % 2 = 0 := by omega
    simp [this]
theorem xor_and_0 {a b : Nat} : a ^^^ (a &&& b) = 0 ↔ a &&& b = a := by
  constructor
  · intro h
    apply Nat.eq_of_testBit_eq
    intro i
    have := congrArg (fun z => z.testBit i) h
    simp only [Nat.testBit_xor, Nat.testBit_and, Nat.zero_testBit] at this
    rw [Nat.testBit_and]
    cases ha : a.testBit i <;> cases hb : b.testBit i <;> simp_all
  · intro h
    rw [h, Nat.xor_self]
/-- whether a trick works -/
def wk (S : SK) (t b : Nat) : Bool := (tri S t 0 &&& b) == tri S t 0 && (tri S t 1 &&& b) == 0
def b01 (b : Bool) : Int := if b then 1 else 0
/-- beliefs behind a trick -/
def bb (S : SK) (t b : Nat) : Nat := (b ||| tri S t 2) ^^^ ((b ||| tri S t 2) &&& tri S t 3)
/-- cord behind a trick -/
def cb (S : SK) (t c h : Nat) : Nat := if tri S t 4 = 0 then c else min 60 (c + tri S t 4 + h)
theorem bb_le {S : SK} (hF : WF S) {t b : Nat} (ht : t < nT S) (hb : b ≤ 63) : bb S t b ≤ 63 := by
  have h2 := (hF.2.2.2.2.2.1 t ht).2.2.1
  unfold bb
  have h1 : b ||| tri S t 2 < 2 ^ 6 := Nat.or_lt_two_pow (by omega) (by omega)
  have h3 : (b ||| tri S t 2) &&& tri S t 3 < 2 ^ 6 := Nat.lt_of_le_of_lt Nat.and_le_left h1
  have := Nat.xor_lt_two_pow h1 h3
  omega
theorem cb_le {S : SK} {t c h : Nat} (hc : c ≤ 60) : cb S t c h ≤ 60 := by
  unfold cb
  split <;> omega
section C37
variable {X : Nat × (Nat → Int32)} {d : Nat} {M : rM} {S : SK} {W : WD} {s : Nat}
theorem c_works (hS : CS S M) (hF : WF S) {t b : Nat} (ht : t < nT S) (hb : b ≤ 63) : fn X (d + 2) 70 [rv 3, iv (t : Int), iv (b : Int)] M = oI (b01 (wk S t b)) M := by
  obtain ⟨h0, h1, -⟩ := hF.2.2.2.2.2.1 t ht
  have g0 := c_get6 (X := X) (d := d) hS hF ht (j := 0) (by omega)
  have g1 := c_get6 (X := X) (d := d) hS hF ht (j := 1) (by omega)
  rw [q_70_3]
  erw [g0]
  rw [cI_I, iand_not (by omega) (by omega)]
  unfold wk b01
  by_cases h : tri S t 0 &&& b = tri S t 0
  · rw [if_pos (by rw [xor_and_0.2 h]; rfl)]
    erw [g1]
    rw [cI_I, iand_nat (by omega) (by omega)]
    by_cases h2 : tri S t 1 &&& b = 0
    · rw [if_pos (by rw [h2]; rfl)]
      simp [h, h2]
    · rw [if_neg (by omega)]
      simp [h2]
  · rw [if_neg (fun z => h (xor_and_0.1 (by omega)))]
    simp [h]
theorem c_bb (hS : CS S M) (hF : WF S) {t b : Nat} (ht : t < nT S) (hb : b ≤ 63) : fn X (d + 2) 72 [rv 3, iv (t : Int), iv (b : Int)] M = oI (bb S t b : Int) M := by
  obtain ⟨-, -, h2, h3, -⟩ := hF.2.2.2.2.2.1 t ht
  have g2 := c_get6 (X := X) (d := d) hS hF ht (j := 2) (by omega)
  have g3 := c_get6 (X := X) (d := d) hS hF ht (j := 3) (by omega)
  have h1 : b ||| tri S t 2 < 2 ^ 6 := Nat.or_lt_two_pow (by omega) (by omega)
  rw [q_72_3]
  erw [g2]
  rw [cI_I]
  erw [g3]
  rw [cI_I, ior_nat (by omega) (by omega), iand_not (by omega) (by omega)]
  rfl
theorem c_cb (hS : CS S M) (hF : WF S) {t c h : Nat} (ht : t < nT S) (hc : c ≤ 60) (hh : h ≤ 1000) : fn X (d + 2) 73 [rv 3, iv (t : Int), iv (c : Int), iv (h : Int)] M = oI (cb S t c h : Int) M := by
  obtain ⟨-, -, -, -, h4, -⟩ := hF.2.2.2.2.2.1 t ht
  have g4 := c_get6 (X := X) (d := d) hS hF ht (j := 4) (by omega)
  rw [q_73_3]
  erw [g4]
  rw [cI_I]
  unfold cb
  by_cases h0 : tri S t 4 = 0
  · rw [if_pos (by omega), if_pos h0]
  · rw [if_neg (by omega), if_neg h0, wri (x := (c : Int) + _) (by omega) (by omega), wri (by omega) (by omega)]
    congr 1
    omega
theorem m_works (hS : MS S M) (hF : WF S) {t b : Nat} (ht : t < nT S) (hb : b ≤ 63) : fn X (d + 1) 255 [rv 59, iv (t : Int), iv (b : Int)] M = oI (b01 (wk S t b)) M := by
  obtain ⟨h0, h1, -⟩ := hF.2.2.2.2.2.1 t ht
  obtain ⟨e0, e1, -⟩ := hS.2.2.2.2.2.1 t ht
  have h8 := hF.2.1
  rw [q_255_59]
  simp only [Int.toNat_natCast, e0, e1]
  rw [gdx (by omega) (by omega), gdx (by omega) (by omega), gdx (by omega) (by omega), iand_nat (by omega) (by omega), iand_nat (by omega) (by omega), Nat.and_comm b, Nat.and_comm b]
  unfold wk b01
  by_cases h : tri S t 0 &&& b = tri S t 0
  · rw [if_pos (by rw [h])]
    by_cases h2 : tri S t 1 &&& b = 0
    · rw [if_pos (by rw [h2]; rfl)]
      simp [h, h2]
    · rw [if_neg (by omega)]
      simp [h2]
  · rw [if_neg (by omega)]
    simp [h]
theorem m_bb (hS : MS S M) (hF : WF S) {t b : Nat} (ht : t < nT S) (hb : b ≤ 63) : fn X (d + 1) 256 [rv 59, iv (t : Int), iv (b : Int)] M = oI (bb S t b : Int) M := by
  obtain ⟨-, -, h2, h3, -⟩ := hF.2.2.2.2.2.1 t ht
  obtain ⟨-, -, e2, e3, -⟩ := hS.2.2.2.2.2.1 t ht
  have h8 := hF.2.1
  have h1 : b ||| tri S t 2 < 2 ^ 6 := Nat.or_lt_two_pow (by omega) (by omega)
  rw [q_256_59]
  simp only [Int.toNat_natCast, e2, e3]
  rw [gdx (by omega) (by omega), gdx (by omega) (by omega), ior_nat (by omega) (by omega), iand_not (by omega) (by omega)]
  rfl
theorem m_lesser (a b : Int) : fn X (d + 1) 211 [iv a, iv b] M = oI (min a b) M := by
  rw [q_211]
  split
  · congr 1
    omega
  · congr 1
    omega
theorem m_cb (hS : MS S M) (hF : WF S) {t c h : Nat} (ht : t < nT S) (hc : c ≤ 60) (hh : h ≤ 1000) : fn X (d + 2) 257 [rv 59, iv (t : Int), iv (c : Int), iv (h : Int)] M = oI (cb S t c h : Int) M := by
  obtain ⟨-, -, -, -, h4, -⟩ := hF.2.2.2.2.2.1 t ht
  obtain ⟨-, -, -, -, e4, -⟩ := hS.2.2.2.2.2.1 t ht
  have h8 := hF.2.1
  rw [q_257_59]
  simp only [Int.toNat_natCast, e4, m_lesser, cI_I]
  rw [gdx (by omega) (by omega), gdx (by omega) (by omega)]
  unfold cb
  by_cases h0 : tri S t 4 = 0
  · rw [if_pos (by omega), if_pos h0]
  · rw [if_neg (by omega), if_neg h0, wri (x := (c : Int) + _) (by omega) (by omega), wri (by omega) (by omega)]
    congr 1
    omega
theorem ior_0 {v : Nat} (h : v < 2147483648) : ior (v : Int) 0 = (v : Int) := by
  have := ior_nat (a := v) (b := 0) h (by omega)
  rw [Nat.or_zero] at this
  exact this
theorem m_those (hS : MS S M) (hF : WF S) {off : Nat} (ho : off ≤ 27) (hW : MW 91 off (nC S) W M) (f : Nat) : fn X (d + 1) 252 [rv 59, iv (off : Int), iv (f : Int)] M = oI (fates S W f : Int) M := by
  have h6 := hF.1
  rw [q_252_59]
  refine loop_up (P := fun n c => kb X d 252 n 5 [some (rv 59), some (iv (off : Int)), some (iv (f : Int)), some (iv ((setN (fun c => W (21 + c) == f) c : Nat) : Int)), some (iv (c : Int))] [] M) (nC S) ?_ ?_ (nC S) 0 FU (by omega) (FU_lt (by omega))
  · intro n c hc
    left
    have hb : setN (fun c => W (21 + c) == f) c < 2 ^ 31 := Nat.lt_trans (setN_lt _ c) (Nat.pow_lt_pow_right (by omega) (by omega))
    have e : wr (wr ((off : Int) + 21) + (c : Int)) = ((off + (3 + 6 * 3 + c) : Nat) : Int) := by
      rw [wri (x := (off : Int) + 21) (by omega) (by omega), wri (by omega) (by omega)]
      omega
    have hcl := hW.cell (q := 3) hc h6 (by omega)
    rw [show W (3 + 6 * 3 + c) = W (21 + c) from by congr 1] at hcl
    rw [q_252_59_at5, hS.1, if_pos (by omega), e, gdx (by omega) (by omega), Int.toNat_natCast, hcl, wr_succ (by omega), set_or hb (by omega), ior_0 hb]
    simp only [setN]
    by_cases h : W (21 + c) = f
    · rw [if_pos (by omega), if_pos (by simp [h])]
    · rw [if_neg (by omega), if_neg (by simp [h])]
  · intro n
    rw [q_252_59_at5, hS.1, if_neg (by omega)]
    rfl
theorem m_helpOf (hS : MS S M) (hF : WF S) {v : Nat} (hv : v < 2147483648) : fn X (d + 1) 253 [rv 59, iv (v : Int)] M = oI (helpN S (fun c => v.testBit c) (nC S) : Int) M := by
  have h6 := hF.1
  rw [q_253_59]
  refine loop_up (P := fun n c => kb X d 253 n 4 [some (rv 59), some (iv (v : Int)), some (iv ((helpN S (fun c => v.testBit c) c : Nat) : Int)), some (iv (c : Int))] [] M) (nC S) ?_ ?_ (nC S) 0 FU (by omega) (FU_lt (by omega))
  · intro n c hc
    left
    have hb := helpN_le hF (fun c => v.testBit c) c (by omega)
    have hb2 := (hF.2.2.2.2.1 c hc).2.2.2.2
    rw [q_253_59_at4, hS.1, if_pos (by omega), bit_test hv (by omega), gdx (by omega) (by omega), Int.toNat_natCast, (hS.2.2.2.2.1 c hc).2.2, wr_succ (by omega)]
    simp only [helpN]
    by_cases h : v.testBit c = true
    · rw [if_pos (by rw [if_pos h]), if_pos h, wri (by omega) (by omega)]
      rfl
    · rw [if_neg (by rw [if_neg h]; omega), if_neg h, wri (by omega) (by omega)]
      rfl
  · intro n
    rw [q_253_59_at4, hS.1, if_neg (by omega)]
theorem helpN_congr {p q : Nat → Bool} : ∀ {n : Nat}, (∀ c, c < n → p c = q c) → helpN S p n = helpN S q n
  | 0, _ => rfl
  | n + 1, h => by
    unfold helpN
    rw [h n (by omega), helpN_congr (fun c hc => h c (by omega))]
theorem fates_lt (hF : WF S) (f : Nat) : fates S W f < 64 := Nat.lt_of_lt_of_le (setN_lt _ _) (Nat.pow_le_pow_right (n := 2) (by omega) hF.1)
theorem help_fates : helpN S (fun c => (fates S W 1).testBit c) (nC S) = helpW S W := by
  unfold helpW
  apply helpN_congr
  intro c hc
  unfold fates
  rw [setN_bit]
  simp [hc]
theorem m_help (hS : MS S M) (hF : WF S) : fn X (d + 1) 253 [rv 59, iv (fates S W 1 : Int)] M = oI (helpW S W : Int) M := by
  rw [m_helpOf hS hF (Nat.lt_trans (fates_lt hF 1) (by omega)), help_fates]
theorem helpW_le (hF : WF S) : helpW S W ≤ 54 := by
  have := helpN_le hF (fun c => W (21 + c) == 1) (nC S) (Nat.le_refl _)
  have h6 := hF.1
  unfold helpW
  omega
/-! the model's checks -/
theorem m_right1 (h : M.2.1 59 0 = 0) (q : Int) : fn X (d + 1) 209 [rv 59, iv 1, iv q] M = oI 1 M := by
  rw [q_209_59, if_pos h, if_neg (by omega), if_pos h]
theorem m_right0 (h : M.2.1 59 0 = 0) {q : Int} (hq : q ≠ 0) : fn X (d + 1) 209 [rv 59, iv 0, iv q] M = oI 0 (puI M 59 0 q) := by
  rw [q_209_59, if_pos h, if_pos rfl, if_neg hq]
theorem m_cre (hS : MS S M) (h : M.2.1 59 0 = 0) (a : Int) : fn X (d + 2) 263 [rv 59, iv a] M = if 0 ≤ a ∧ a < (nC S : Int) then oI 1 M else oI 0 (puI M 59 0 1) := by
  rw [q_263_59, hS.1, m_right1 h, m_right0 h (by omega), cI_I, cI_I, gdp (Or.inl rfl), gdp (Or.inr rfl)]
  by_cases h1 : a < 0
  · rw [if_pos h1, if_neg (by omega)]
  · rw [if_neg h1]
    by_cases h2 : a < (nC S : Int)
    · rw [if_pos h2, if_pos (by omega)]
    · rw [if_neg h2, if_neg (by omega)]
theorem m_tri (hS : MS S M) (h : M.2.1 59 0 = 0) (a : Int) : fn X (d + 2) 264 [rv 59, iv a] M = if 0 ≤ a ∧ a < (nT S : Int) then oI 1 M else oI 0 (puI M 59 0 1) := by
  rw [q_264_59, hS.2.1, m_right1 h, m_right0 h (by omega), cI_I, cI_I, gdp (Or.inl rfl), gdp (Or.inr rfl)]
  by_cases h1 : a < 0
  · rw [if_pos h1, if_neg (by omega)]
  · rw [if_neg h1]
    by_cases h2 : a < (nT S : Int)
    · rw [if_pos h2, if_pos (by omega)]
    · rw [if_neg h2, if_neg (by omega)]
theorem m_within (a lo hi : Int) : fn X (d + 1) 210 [iv a, iv lo, iv hi] M = oI (if lo ≤ a ∧ a ≤ hi then 1 else 0) M := by
  rw [q_210]
  by_cases h1 : a < lo
  · rw [if_pos h1, if_neg (by omega)]
  · rw [if_neg h1]
    by_cases h2 : hi < a
    · rw [if_pos h2, if_neg (by omega)]
    · rw [if_neg h2, if_pos (by omega)]
theorem m_what (h : M.2.1 59 0 = 0) (a k : Int) : fn X (d + 2) 265 [rv 59, iv a, iv k] M = if 0 ≤ a ∧ a ≤ k then oI 1 M else oI 0 (puI M 59 0 1) := by
  rw [q_265_59, m_within, cI_I]
  by_cases h1 : 0 ≤ a ∧ a ≤ k
  · rw [if_pos h1, if_pos h1, m_right1 h, cI_I, gdp (Or.inr rfl)]
  · rw [if_neg h1, if_neg h1, m_right0 h (by omega), cI_I, gdp (Or.inl rfl)]
/-! the class's checks -/
theorem c_chkC (hS : CS S M) (a : Int) : fn X (d + 2) 198 [rv 0, iv a] M = if 0 ≤ a ∧ a < (nC S : Int) then oV M else oX 0 (thr M) := by
  rw [q_198_0, q_116_4, hS.1]
  by_cases h1 : a < 0
  · rw [if_pos h1, if_neg (by omega), cI_I, if_pos rfl]
  · rw [if_neg h1]
    by_cases h2 : a < (nC S : Int)
    · rw [if_pos h2, if_pos (by omega), cI_I, if_neg (by omega)]
    · rw [if_neg h2, if_neg (by omega), cI_I, if_pos rfl]
theorem c_chkT (hS : CS S M) (a : Int) : fn X (d + 2) 199 [rv 0, iv a] M = if 0 ≤ a ∧ a < (nT S : Int) then oV M else oX 0 (thr M) := by
  rw [q_199_0, q_116_6, hS.2.1]
  by_cases h1 : a < 0
  · rw [if_pos h1, if_neg (by omega), cI_I, if_pos rfl]
  · rw [if_neg h1]
    by_cases h2 : a < (nT S : Int)
    · rw [if_pos h2, if_pos (by omega), cI_I, if_neg (by omega)]
    · rw [if_neg h2, if_neg (by omega), cI_I, if_pos rfl]
theorem c_chkH (hS : CS S M) (a : Int) : fn X (d + 2) 200 [rv 0, iv a] M = if 0 ≤ a ∧ a < (nH S : Int) then oV M else oX 0 (thr M) := by
  rw [q_200_0, q_116_8, hS.2.2.1]
  by_cases h1 : a < 0
  · rw [if_pos h1, if_neg (by omega), cI_I, if_pos rfl]
  · rw [if_neg h1]
    by_cases h2 : a < (nH S : Int)
    · rw [if_pos h2, if_pos (by omega), cI_I, if_neg (by omega)]
    · rw [if_neg h2, if_neg (by omega), cI_I, if_pos rfl]
theorem c_chkL (hS : CS S M) (a : Int) : fn X (d + 2) 201 [rv 0, iv a] M = if 0 ≤ a ∧ a < (nL S : Int) then oV M else oX 0 (thr M) := by
  rw [q_201_0, q_116_10, hS.2.2.2.1]
  by_cases h1 : a < 0
  · rw [if_pos h1, if_neg (by omega), cI_I, if_pos rfl]
  · rw [if_neg h1]
    by_cases h2 : a < (nL S : Int)
    · rw [if_pos h2, if_pos (by omega), cI_I, if_neg (by omega)]
    · rw [if_neg h2, if_neg (by omega), cI_I, if_pos rfl]
end C37
