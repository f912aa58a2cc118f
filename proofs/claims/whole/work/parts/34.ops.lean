/-! ===== numbers: what the reckoner's operations are on small ones ===== -/
theorem wri {x : Int} (h1 : -2147483648 ≤ x) (h2 : x < 2147483648) : wr x = x := wr_id ⟨h1, h2⟩
theorem gdp {p : Prop} [Decidable p] {t : Option rO} (h : p) : gd p t = t := if_pos h
theorem cI_I (x : Int) (M : rM) (k : Int → rM → Option rO) : cI (oI x M) k = k x M := rfl
theorem cI_X (q : Nat) (M : rM) (k : Int → rM → Option rO) : cI (oX q M) k = oX q M := rfl
theorem cJ_J (x : Int64) (M : rM) (k : Int64 → rM → Option rO) : cJ (oJ x M) k = k x M := rfl
theorem cV_V (M : rM) (k : rM → Option rO) : cV (oV M) k = k M := rfl
theorem cV_X (q : Nat) (M : rM) (k : rM → Option rO) : cV (oX q M) k = oX q M := rfl
theorem cIh_I (x : Int) (M : rM) (k : Int → rM → Option rO) (h : Nat → rM → Option rO) : cIh (oI x M) k h = k x M := rfl
theorem cIh_X (q : Nat) (M : rM) (k : Int → rM → Option rO) (h : Nat → rM → Option rO) : cIh (oX q M) k h = h q M := rfl
theorem ofn (a : Nat) : Int32.ofInt (a : Int) = Int32.ofNat a := Int32.ofInt_eq_ofNat
theorem bvn (a : Nat) : (Int32.ofInt (a : Int)).toBitVec = BitVec.ofNat 32 a := by rw [ofn]; rfl
theorem bvi {v : BitVec 32} (h : v.toNat < 2147483648) : v.toInt = (v.toNat : Int) := BitVec.toInt_eq_toNat_of_lt (by omega)
theorem tni {x : Int32} {n : Nat} (h : x.toBitVec.toNat = n) (hn : n < 2147483648) : x.toInt = (n : Int) := by
  show x.toBitVec.toInt = _
  rw [bvi (by omega), h]
theorem bvt {a : Nat} (h : a < 2147483648) : (BitVec.ofNat 32 a).toNat = a := by
  rw [BitVec.toNat_ofNat]
  omega
theorem iand_nat {a b : Nat} (ha : a < 2147483648) (hb : b < 2147483648) : iand (a : Int) (b : Int) = ((a &&& b : Nat) : Int) := by
  rw [iand_df]
  refine tni ?_ (Nat.lt_of_le_of_lt Nat.and_le_left ha)
  rw [Int32.toBitVec_and, bvn, bvn, BitVec.toNat_and, bvt ha, bvt hb]
theorem ior_nat {a b : Nat} (ha : a < 2147483648) (hb : b < 2147483648) : ior (a : Int) (b : Int) = ((a ||| b : Nat) : Int) := by
  rw [ior_df]
  refine tni ?_ (Nat.or_lt_two_pow (n := 31) ha hb)
  rw [Int32.toBitVec_or, bvn, bvn, BitVec.toNat_or, bvt ha, bvt hb]
theorem ixor_nat {a b : Nat} (ha : a < 2147483648) (hb : b < 2147483648) : ixor (a : Int) (b : Int) = ((a ^^^ b : Nat) : Int) := by
  rw [ixor_df]
  refine tni ?_ (Nat.xor_lt_two_pow (n := 31) ha hb)
  rw [Int32.toBitVec_xor, bvn, bvn, BitVec.toNat_xor, bvt ha, bvt hb]
/-- a without b's bits -/
theorem iand_not {a b : Nat} (ha : a < 2147483648) (hb : b < 2147483648) : iand (a : Int) (ixor (b : Int) (-1)) = ((a ^^^ (a &&& b) : Nat) : Int) := by
  rw [iand_df, ixor_df, Int32.ofInt_toInt]
  have h1 : (a &&& b) < 2147483648 := Nat.lt_of_le_of_lt Nat.and_le_left ha
  refine tni ?_ (Nat.xor_lt_two_pow (n := 31) ha h1)
  rw [Int32.toBitVec_and, Int32.toBitVec_xor, bvn, bvn]
  have e1 : (Int32.ofInt (-1)).toBitVec = BitVec.allOnes 32 := by decide
  rw [e1]
  apply Nat.eq_of_testBit_eq
  intro i
  rw [BitVec.testBit_toNat, BitVec.getLsbD_and, BitVec.getLsbD_xor, BitVec.getLsbD_allOnes, Nat.testBit_xor, Nat.testBit_and, ← BitVec.testBit_toNat, ← BitVec.testBit_toNat, bvt ha, bvt hb]
  by_cases hi : i < 32
  · simp [hi]
    cases a.testBit i <;> cases b.testBit i <;> rfl
  · have : a.testBit i = false := Nat.testBit_lt_two_pow (Nat.lt_of_lt_of_le ha (Nat.pow_le_pow_right (n := 2) (by omega) (show 31 ≤ i by omega)))
    simp [this]
theorem shc : ∀ k : Nat, k < 32 → ((Int32.ofInt (k : Int) &&& 31).toBitVec.smod 32) = BitVec.ofNat 32 k := by decide +kernel
theorem ishl_nat {a k : Nat} (hk : k < 32) (h : a * 2 ^ k < 2147483648) : ishl (a : Int) (k : Int) = ((a * 2 ^ k : Nat) : Int) := by
  rw [ishl_df]
  have ha : a < 2147483648 := Nat.lt_of_le_of_lt (Nat.le_mul_of_pos_right a (Nat.pow_pos (by omega))) h
  refine tni ?_ h
  rw [Int32.toBitVec_shiftLeft, shc k hk, bvn, BitVec.shiftLeft_eq', BitVec.toNat_shiftLeft, bvt ha, bvt (by omega), Nat.shiftLeft_eq]
  omega
theorem ishr_nat {a k : Nat} (hk : k < 32) (ha : a < 2147483648) : ishr (a : Int) (k : Int) = ((a / 2 ^ k : Nat) : Int) := by
  rw [ishr_df]
  refine tni ?_ (Nat.lt_of_le_of_lt (Nat.div_le_self _ _) ha)
  rw [Int32.toBitVec_shiftRight, shc k hk, bvn]
  rw [BitVec.sshiftRight_eq', bvt (show k < 2147483648 by omega), BitVec.sshiftRight_eq_of_msb_false (by rw [BitVec.msb_eq_decide, bvt ha]; simp; omega), BitVec.toNat_ushiftRight, bvt ha, Nat.shiftRight_eq_div_pow]
theorem of_div {a b : Nat} (ha : a < 2147483648) (hb : b < 2147483648) : Int32.ofInt (a : Int) / Int32.ofInt (b : Int) = Int32.ofInt ((a / b : Nat) : Int) := by
  have h1 : a / b < 2147483648 := Nat.lt_of_le_of_lt (Nat.div_le_self _ _) ha
  have e : (a : Int).tdiv (b : Int) = ((a / b : Nat) : Int) := by
    rw [Int.tdiv_eq_ediv_of_nonneg (by omega)]
    rfl
  generalize a / b = q at h1 e ⊢
  apply Int32.toInt_inj.1
  rw [Int32.toInt_div, to_of (x := (a : Int)) (by unfold rgi; omega), to_of (x := (b : Int)) (by unfold rgi; omega), to_of (x := (q : Int)) (by unfold rgi; omega), e]
  exact Int.bmod_eq_of_le (by omega) (by omega)
theorem idv_nat {a b : Nat} (ha : a < 2147483648) (hb : b < 2147483648) : idv (a : Int) (b : Int) = ((a / b : Nat) : Int) := by
  have h1 : a / b < 2147483648 := Nat.lt_of_le_of_lt (Nat.div_le_self _ _) ha
  rw [idv_df, of_div ha hb]
  generalize a / b = q at h1 ⊢
  exact to_of (by unfold rgi; omega)
theorem irm_nat {a b : Nat} (ha : a < 2147483648) (hb : b < 2147483648) : irm (a : Int) (b : Int) = ((a % b : Nat) : Int) := by
  have e : (a : Int) - ((a / b : Nat) : Int) * (b : Int) = ((a % b : Nat) : Int) := by
    have := Nat.div_add_mod a b
    have h2 : ((b * (a / b) + a % b : Nat) : Int) = (a : Int) := by rw [this]
    rw [Int.natCast_add, Int.natCast_mul] at h2
    rw [Int.mul_comm]
    omega
  have h1 : a % b < 2147483648 := Nat.lt_of_le_of_lt (Nat.mod_le _ _) ha
  rw [irm_df, of_div ha hb, ← Int32.ofInt_mul, ← Int32.ofInt_sub, e, to_of (by unfold rgi; omega)]
theorem jcmp_eq {x y : Int64} : jcmp x y = 0 ↔ x = y := by
  rw [jcmp_df]
  unfold lg_cmp
  constructor
  · intro h
    split at h
    · exact absurd h (by decide)
    · split at h
      · assumption
      · exact absurd h (by decide)
  · rintro rfl
    rw [if_neg (by simp), if_pos rfl]
    rfl
theorem rg_wr2 (x : Int) : -2147483648 ≤ wr x ∧ wr x < 2147483648 := rg_wr x
/-! bits of longs -/
def tb (v : Int64) (i : Nat) : Bool := v.toBitVec.getLsbD i
theorem jsc : ∀ k : Nat, k < 64 → (((Int32.ofInt (k : Int)).toInt64 &&& 63).toBitVec.smod 64) = BitVec.ofNat 64 k := by decide +kernel
theorem bv64 {a : Nat} (h : a < 64) : (BitVec.ofNat 64 a).toNat = a := by
  rw [BitVec.toNat_ofNat]
  omega
theorem tb_or (x y : Int64) (i : Nat) : tb (x ||| y) i = (tb x i || tb y i) := by
  unfold tb
  rw [Int64.toBitVec_or, BitVec.getLsbD_or]
theorem tb_and (x y : Int64) (i : Nat) : tb (x &&& y) i = (tb x i && tb y i) := by
  unfold tb
  rw [Int64.toBitVec_and, BitVec.getLsbD_and]
theorem tb_0 (i : Nat) : tb (Int64.ofNat 0) i = false := by
  unfold tb
  show (0#64).getLsbD i = false
  exact BitVec.getLsbD_zero
theorem tb_bit {b i : Nat} (hb : b < 64) (hi : i < 64) : tb (jshl (Int64.ofNat 1) (b : Int)) i = decide (i = b) := by
  unfold tb
  rw [jshl_df, Int64.toBitVec_shiftLeft, jsc b hb, BitVec.shiftLeft_eq', bv64 hb, BitVec.getLsbD_shiftLeft]
  have : (Int64.ofNat 1).toBitVec = 1#64 := rfl
  rw [this, BitVec.getLsbD_one]
  by_cases h : i = b
  · subst h
    simp [hi]
  · simp [h, hi]
    omega
theorem tb_ne {x y : Int64} (h : ∀ i, i < 64 → tb x i = tb y i) : x = y := by
  apply Int64.toBitVec.inj
  apply BitVec.eq_of_getLsbD_eq
  intro i hi
  exact h i hi
theorem tb_test {v : Int64} {b : Nat} (hb : b < 64) : jcmp (jshr v (b : Int) &&& Int64.ofNat 1) (Int64.ofNat 0) = 0 ↔ tb v b = false := by
  rw [jcmp_eq]
  have key : ∀ i, i < 64 → tb (jshr v (b : Int) &&& Int64.ofNat 1) i = (decide (i = 0) && tb v b) := by
    intro i hi
    rw [tb_and]
    unfold tb
    rw [jshr_df, Int64.toBitVec_shiftRight, jsc b hb, BitVec.sshiftRight_eq', bv64 hb]
    have : (Int64.ofNat 1).toBitVec = 1#64 := rfl
    rw [this, BitVec.getLsbD_one]
    by_cases h : i = 0
    · subst h
      rw [BitVec.getLsbD_sshiftRight, Nat.add_zero, if_pos hb]
      simp
    · simp [h]
  constructor
  · intro h
    have := key 0 (by omega)
    rw [h, tb_0] at this
    simpa using this.symm
  · intro h
    apply tb_ne
    intro i hi
    rw [key i hi, h, tb_0]
    simp
