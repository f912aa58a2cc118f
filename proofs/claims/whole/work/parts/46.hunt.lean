/-! ===== payers, few, offer; fooled ===== -/
/-- loops in loops: a turn takes up to K steps -/
theorem loop_k {σ : Type} (K : Nat) (Inv : Nat → σ → Prop) (P : Nat → Nat → σ → Option rO) (Q : Option rO → Prop) (N : Nat) (hs : ∀ n c s, c < N → Inv c s → (∃ m s', P (n + K) c s = P (n + m) (c + 1) s' ∧ Inv (c + 1) s') ∨ Q (P (n + K) c s)) (he : ∀ n s, Inv N s → Q (P (n + K) N s)) : ∀ (k c n : Nat) (s : σ), c + k = N → (k + 1) * K ≤ n → Inv c s → Q (P n c s)
  | 0, c, n, s, h, hn, hi => by
    obtain ⟨m, rfl⟩ : ∃ m, n = m + K := ⟨n - K, by omega⟩
    have : c = N := by omega
    subst this
    exact he m s hi
  | k + 1, c, n, s, h, hn, hi => by
    have e : (k + 1 + 1) * K = (k + 1) * K + K := Nat.succ_mul _ _
    obtain ⟨m, rfl⟩ : ∃ m, n = m + K := ⟨n - K, by omega⟩
    rcases hs m c s (by omega) hi with ⟨r, s', h1, h2⟩ | h1
    · rw [h1]
      exact loop_k K Inv P Q N hs he k (c + 1) (m + r) s' (by omega) (by omega) h2
    · exact h1
theorem loop_ex {P : Nat → Nat → Option rO} {R : Nat → Option rO} (N : Nat) (hs : ∀ n c, c < N → P (n + 1) c = P n (c + 1)) (he : ∀ n, P (n + 1) N = R n) : ∀ (k c n : Nat), c + k = N → P (n + k + 1) c = R n
  | 0, c, n, h => by
    have : c = N := by omega
    subst this
    exact he n
  | k + 1, c, n, h => by
    rw [show n + (k + 1) + 1 = (n + k + 1) + 1 by omega, hs _ _ (by omega)]
    exact loop_ex N hs he k (c + 1) n (by omega)
/-- the greatest strength in a set -/
def gs (S : SK) (v : Nat) : Nat → Nat
  | 0 => 0
  | c + 1 => if v.testBit c then max (gs S v c) (cre S c 0) else gs S v c
/-- who might pay so much for all of a set -/
def payS (S : SK) (v p : Nat) : Nat := setN (fun h => decide (p ≤ hun S h 1) && decide (gs S v (nC S) ≤ hun S h 0)) (nH S)
theorem gs_le {S : SK} (hF : WF S) (v : Nat) : ∀ n, n ≤ nC S → gs S v n ≤ 60
  | 0, _ => by unfold gs; omega
  | n + 1, h => by
    have := gs_le hF v n (by omega)
    have := (hF.2.2.2.2.1 n (by omega)).1
    unfold gs
    split <;> omega
theorem payS_lt {S : SK} (hF : WF S) (v p : Nat) : payS S v p < 64 := Nat.lt_of_lt_of_le (setN_lt _ _) (Nat.pow_le_pow_right (n := 2) (by omega) hF.2.2.1)
/-- 'a & ~((1 << n) - 1) == 0' -/
theorem set_ok {a : Int} (ha : rgi a) {n : Nat} (hn : n ≤ 8) : iand a (ixor (wr (ishl 1 (n : Int) - 1)) (-1)) = 0 ↔ 0 ≤ a ∧ a < ((2 ^ n : Nat) : Int) := by
  have hp : 2 ^ n ≤ 2 ^ 8 := Nat.pow_le_pow_right (by omega) hn
  have hp1 : 1 ≤ 2 ^ n := Nat.one_le_two_pow
  have e1 : ishl 1 (n : Int) = ((2 ^ n : Nat) : Int) := by
    have := ishl_nat (a := 1) (k := n) (by omega) (by omega)
    rw [Nat.one_mul] at this
    exact this
  have e2 : wr (ishl 1 (n : Int) - 1) = ((2 ^ n - 1 : Nat) : Int) := by
    rw [e1, wri (by omega) (by omega)]
    omega
  rw [e2]
  constructor
  · intro h
    rw [iand_df, ixor_df, Int32.ofInt_toInt] at h
    have hz : Int32.ofInt a &&& (Int32.ofInt ((2 ^ n - 1 : Nat) : Int) ^^^ Int32.ofInt (-1)) = 0 := Int32.toInt_inj.1 (by rw [h]; rfl)
    have hb := congrArg Int32.toBitVec hz
    rw [Int32.toBitVec_and, Int32.toBitVec_xor, bvn] at hb
    have e3 : (Int32.ofInt (-1)).toBitVec = BitVec.allOnes 32 := by decide
    rw [e3] at hb
    have hlt : (Int32.ofInt a).toBitVec.toNat < 2 ^ n := by
      apply Nat.lt_pow_two_of_testBit
      intro i hi
      by_cases hi2 : i < 32
      · have := congrArg (fun z => z.getLsbD i) hb
        simp only [BitVec.getLsbD_and, BitVec.getLsbD_xor, BitVec.getLsbD_allOnes, hi2, decide_true] at this
        have h0 : (0 : Int32).toBitVec.getLsbD i = false := by
          show (0#32).getLsbD i = false
          exact BitVec.getLsbD_zero
        have h1 : (BitVec.ofNat 32 (2 ^ n - 1)).getLsbD i = false := by
          rw [← BitVec.testBit_toNat, bvt (by omega), Nat.testBit_two_pow_sub_one]
          simp
          omega
        rw [h0, h1] at this
        rw [BitVec.testBit_toNat]
        simpa using this
      · rw [BitVec.testBit_toNat]
        exact BitVec.getLsbD_of_ge _ _ (by omega)
    have e4 : (Int32.ofInt a).toInt = ((Int32.ofInt a).toBitVec.toNat : Int) := tni rfl (by omega)
    rw [to_of ha] at e4
    omega
  · rintro ⟨h1, h2⟩
    obtain ⟨m, hm, rfl⟩ := nat_of ⟨h1, h2⟩
    rw [iand_not (by omega) (by omega), Nat.and_two_pow_sub_one_eq_mod, Nat.mod_eq_of_lt hm, Nat.xor_self]
    rfl
section C46
variable {X : Nat × (Nat → Int32)} {d : Nat} {M M1 M' : rM} {A A' : AS} {S : SK} {W : WD}
theorem c_chkS (hS : CS S M) (hF : WF S) {a : Int} (ha : rgi a) : fn X (d + 2) 206 [rv 0, iv a] M = if 0 ≤ a ∧ a < ((2 ^ nC S : Nat) : Int) then oV M else oX 1 (thr M) := by
  have h6 := hF.1
  rw [q_206_0, q_117_4, hS.1, cI_I]
  by_cases h : 0 ≤ a ∧ a < ((2 ^ nC S : Nat) : Int)
  · rw [if_pos ((set_ok ha (by omega)).2 h), if_pos h]
  · rw [if_neg (fun z => h ((set_ok ha (by omega)).1 z)), if_neg h]
theorem m_isSet (hS : MS S M) (hF : WF S) (a : Int) : fn X (d + 1) 292 [rv 59, iv a] M = oI (b01 (decide (0 ≤ a ∧ a < ((2 ^ nC S : Nat) : Int)))) M := by
  have h6 := hF.1
  have hp : 2 ^ nC S ≤ 2 ^ 6 := Nat.pow_le_pow_right (by omega) h6
  have e1 : ishl 1 (nC S : Int) = ((2 ^ nC S : Nat) : Int) := by
    have := ishl_nat (a := 1) (k := nC S) (by omega) (by omega)
    rw [Nat.one_mul] at this
    exact this
  rw [q_292_59, hS.1, e1]
  by_cases h1 : a < 0
  · rw [if_pos h1, show decide (0 ≤ a ∧ a < ((2 ^ nC S : Nat) : Int)) = false from decide_eq_false (fun z => by omega)]
    rfl
  · rw [if_neg h1]
    by_cases h2 : a < ((2 ^ nC S : Nat) : Int)
    · rw [if_pos h2, show decide (0 ≤ a ∧ a < ((2 ^ nC S : Nat) : Int)) = true from decide_eq_true ⟨by omega, h2⟩]
      rfl
    · rw [if_neg h2, show decide (0 ≤ a ∧ a < ((2 ^ nC S : Nat) : Int)) = false from decide_eq_false (fun z => h2 z.2)]
      rfl
theorem c_gs (hS : CS S M) (hF : WF S) {v : Nat} (hv : v < 2147483648) : fn X (d + 2) 76 [rv 3, iv (v : Int)] M = oI (gs S v (nC S) : Int) M := by
  have h6 := hF.1
  rw [q_76_3]
  refine loop_up (P := fun n c => kb X (d + 1) 76 n 4 [some (rv 3), some (iv (v : Int)), some (iv ((gs S v c : Nat) : Int)), some (iv (c : Int))] [] M) (nC S) ?_ ?_ (nC S) 0 FU (by omega) (FU_lt (by omega))
  · intro n c hc
    left
    have g0 := c_get4 (X := X) (d := d) hS hF hc (j := 0) (by omega)
    rw [q_76_3_at4, q_112_4, cI_I, hS.1, if_pos (by omega), bit_test hv (by omega), wr_succ (by omega)]
    simp only [gs]
    by_cases h : v.testBit c = true
    · rw [if_neg (by rw [if_pos h]; omega), if_pos h]
      erw [g0]
      rw [cI_I, show max (gs S v c : Int) (cre S c 0 : Int) = ((max (gs S v c) (cre S c 0) : Nat) : Int) by omega]
    · rw [if_pos (by rw [if_neg h]), if_neg h]
  · intro n
    rw [q_76_3_at4, q_112_4, cI_I, hS.1, if_neg (by omega)]
theorem c_pay (hS : CS S M) (hF : WF S) {v p : Nat} (hv : v < 2147483648) : fn X (d + 3) 77 [rv 3, iv (v : Int), iv (p : Int)] M = oI (payS S v p : Int) M := by
  have h6 := hF.2.2.1
  rw [q_77_3, c_gs hS hF hv, cI_I]
  refine loop_up (P := fun n h => kb X (d + 2) 77 n 12 [some (rv 3), none, some (iv (p : Int)), some (iv (gs S v (nC S) : Int)), some (iv ((setN (fun h => decide (p ≤ hun S h 1) && decide (gs S v (nC S) ≤ hun S h 0)) h : Nat) : Int)), some (iv (h : Int))] [] M) (nH S) ?_ ?_ (nH S) 0 FU (by omega) (FU_lt (by omega))
  · intro n h hh
    left
    have hx : setN (fun h => decide (p ≤ hun S h 1) && decide (gs S v (nC S) ≤ hun S h 0)) h < 2 ^ 31 := Nat.lt_trans (setN_lt _ h) (Nat.pow_lt_pow_right (by omega) (by omega))
    have g0 := c_get8 (X := X) (d := d + 1) hS hF hh (j := 0) (by omega)
    have g1 := c_get8 (X := X) (d := d + 1) hS hF hh (j := 1) (by omega)
    rw [q_77_3_at12, q_112_8, cI_I, hS.2.2.1, if_pos (by omega), wr_succ (by omega), set_or hx (by omega)]
    erw [g0]
    rw [cI_I]
    simp only [setN]
    by_cases h1 : gs S v (nC S) ≤ hun S h 0
    · rw [if_neg (by omega)]
      erw [g1]
      rw [cI_I]
      by_cases h2 : p ≤ hun S h 1
      · rw [if_neg (by omega), if_pos (by simp [h1, h2])]
      · rw [if_pos (by omega), if_neg (by simp [h2])]
    · rw [if_pos (by omega), if_neg (by simp [h1])]
  · intro n
    rw [q_77_3_at12, q_112_8, cI_I, hS.2.2.1, if_neg (by omega)]
    rfl
theorem m_pay (hS : MS S M) (hF : WF S) {v p : Nat} (hv : v < 2147483648) : fn X (d + 1) 293 [rv 59, iv (v : Int), iv (p : Int)] M = oI (payS S v p : Int) M := by
  have h6 := hF.1
  have h7 := hF.2.2.1
  rw [q_293_59]
  have key := loop_k (σ := Unit) (nC S + 2) (fun _ _ => True) (fun n h _ => kb X d 293 n 5 [some (rv 59), some (iv (v : Int)), some (iv (p : Int)), some (iv ((setN (fun h => decide (p ≤ hun S h 1) && decide (gs S v (nC S) ≤ hun S h 0)) h : Nat) : Int)), some (iv (h : Int)), none, none] [] M) (fun r => r = oI (payS S v p : Int) M) (nH S) ?_ ?_ (nH S) 0 FU () (by omega) (by
    have h1 : (nH S + 1) * (nC S + 2) ≤ 7 * 8 := Nat.mul_le_mul (by omega) (by omega)
    have := FU_ge
    omega) trivial
  · exact key
  · intro n h _ hh _
    left
    refine ⟨0, (), ?_, trivial⟩
    have hx : setN (fun h => decide (p ≤ hun S h 1) && decide (gs S v (nC S) ≤ hun S h 0)) h < 2 ^ 31 := Nat.lt_trans (setN_lt _ h) (Nat.pow_lt_pow_right (by omega) (by omega))
    obtain ⟨e0, e1⟩ := hS.2.2.2.2.2.2.1 h hh
    have inner := loop_ex (P := fun m c => kb X d 293 m 35 [some (rv 59), some (iv (v : Int)), some (iv (p : Int)), some (iv ((setN (fun h => decide (p ≤ hun S h 1) && decide (gs S v (nC S) ≤ hun S h 0)) h : Nat) : Int)), some (iv (h : Int)), some (iv (b01 (decide (p ≤ hun S h 1) && decide (gs S v c ≤ hun S h 0)))), some (iv (c : Int))] [] M) (R := fun m => kb X d 293 m 5 [some (rv 59), some (iv (v : Int)), some (iv (p : Int)), some (iv ((setN (fun h => decide (p ≤ hun S h 1) && decide (gs S v (nC S) ≤ hun S h 0)) (h + 1) : Nat) : Int)), some (iv ((h + 1 : Nat) : Int)), none, none] [] M) (nC S) ?_ ?_ (nC S) 0 n (by omega)
    · rw [show n + (nC S + 2) = (n + nC S + 1) + 1 by omega, q_293_59_at5, hS.2.2.1, if_pos (by omega), gdx (by omega) (by omega), Int.toNat_natCast, e1]
      refine Eq.trans ?_ inner
      by_cases h2 : p ≤ hun S h 1
      · rw [if_neg (by omega)]
        simp [h2, gs, b01]
      · rw [if_pos (by omega)]
        simp [h2, b01]
    · intro m c hc
      have e60 := (hS.2.2.2.2.1 c hc).1
      rw [q_293_59_at35, hS.1, if_pos (by omega), wr_succ (by omega), bit_test hv (by omega), gdx (by omega) (by omega), gdx (by omega) (by omega), Int.toNat_natCast, Int.toNat_natCast, e0, e60]
      have eg : gs S v (c + 1) = if v.testBit c = true then max (gs S v c) (cre S c 0) else gs S v c := rfl
      by_cases h1 : (decide (p ≤ hun S h 1) && decide (gs S v c ≤ hun S h 0)) = true
      · rw [if_neg (by rw [b01_0, h1]; simp)]
        rw [Bool.and_eq_true, decide_eq_true_eq, decide_eq_true_eq] at h1
        by_cases h3 : v.testBit c = true
        · rw [if_neg (by rw [if_pos h3]; omega)]
          rw [if_pos h3] at eg
          by_cases h4 : hun S h 0 < cre S c 0
          · rw [if_pos (by omega), show decide (gs S v (c + 1) ≤ hun S h 0) = false from decide_eq_false (by omega), Bool.and_false]
            rfl
          · rw [if_neg (by omega), show decide (gs S v (c + 1) ≤ hun S h 0) = true from decide_eq_true (by omega), show decide (p ≤ hun S h 1) = true from decide_eq_true h1.1]
            rfl
        · rw [if_neg h3] at eg
          rw [if_pos (by rw [if_neg h3]), show decide (gs S v (c + 1) ≤ hun S h 0) = true from decide_eq_true (by omega), show decide (p ≤ hun S h 1) = true from decide_eq_true h1.1]
          rfl
      · rw [if_pos (by rw [b01_0]; simpa using h1)]
        have : (decide (p ≤ hun S h 1) && decide (gs S v (c + 1) ≤ hun S h 0)) = false := by
          rw [Bool.and_eq_true, decide_eq_true_eq, decide_eq_true_eq] at h1
          rw [Bool.and_eq_false_iff, decide_eq_false_iff_not, decide_eq_false_iff_not]
          by_cases h2 : p ≤ hun S h 1
          · right
            have : ¬ gs S v c ≤ hun S h 0 := fun z => h1 ⟨h2, z⟩
            rw [eg]
            split <;> omega
          · exact Or.inl h2
        rw [this]
        rfl
    · intro m
      rw [q_293_59_at35, hS.1, if_neg (by omega), wr_succ (by omega), set_or hx (by omega), ior_0 hx]
      simp only [setN]
      by_cases h1 : (decide (p ≤ hun S h 1) && decide (gs S v (nC S) ≤ hun S h 0)) = true
      · rw [if_neg (by rw [b01_0, h1]; simp), if_pos h1]
      · rw [if_pos (by rw [b01_0]; simpa using h1), if_neg h1]
  · intro n _ _
    show kb X d 293 (n + (nC S + 2)) 5 _ [] M = _
    rw [show n + (nC S + 2) = (n + nC S + 1) + 1 by omega, q_293_59_at5, hS.2.2.1, if_neg (by omega)]
    rfl
/-! payers -/
theorem c_payers (hA : OKA A) (h : CH A M) {a : Int} (ha : rgi a) (b : Int) : wOut A (ans ((0 ≤ a ∧ a < ((2 ^ nC (aS A) : Nat) : Int)) ∧ 0 ≤ b ∧ b ≤ 999) (payS (aS A) a.toNat b.toNat)).1 (payS (aS A) a.toNat b.toNat : Int) M (fn X (d + 5) 338 [rv 0, iv a, iv b, rv 111] M) := by
  obtain ⟨hF, -⟩ := hA
  have hS := h.1
  have h6 := hF.1
  have hp : 2 ^ nC (aS A) ≤ 2 ^ 6 := Nat.pow_le_pow_right (by omega) h6
  rw [q_338_0_111, q_171_0, c_chkS hS hF ha]
  unfold ans
  by_cases hc : 0 ≤ a ∧ a < ((2 ^ nC (aS A) : Nat) : Int)
  · obtain ⟨v, hv, rfl⟩ := nat_of hc
    rw [if_pos hc, cV_V, Int.toNat_natCast]
    by_cases hr : 0 ≤ b ∧ b ≤ 999
    · obtain ⟨p, hp', rfl⟩ := nat_le (n := 999) hr
      rw [if_pos ⟨hc, hr⟩, if_neg (by omega), if_neg (by omega), c_pay hS hF (by omega), cI_I, Int.toNat_natCast]
      exact w_ok (M1 := M) rfl h kC.rf rfl
    · rw [if_neg (fun z => hr z.2)]
      by_cases h1 : b < 0
      · rw [if_pos h1]
        exact w_x (q := 1) (k := 1) (M1 := thr M) rfl rfl (by omega) h kC.rf rfl
      · rw [if_neg h1, if_pos (by omega)]
        exact w_x (q := 1) (k := 1) (M1 := thr M) rfl rfl (by omega) h kC.rf rfl
  · rw [if_neg hc, if_neg (fun z => hc z.1), cV_X]
    exact w_x (q := 1) (k := 1) (M1 := thr M) rfl rfl (by omega) h kC.rf rfl
theorem b01_1 (b : Bool) (h : b = true) : b01 b = 1 := by rw [h]; rfl
theorem b01_f (b : Bool) (h : b = false) : b01 b = 0 := by rw [h]; rfl
theorem m_payers (hA : OKA A) (h : MH A M) (a b : Int) : mOut A (ans ((0 ≤ a ∧ a < ((2 ^ nC (aS A) : Nat) : Int)) ∧ 0 ≤ b ∧ b ≤ 999) (payS (aS A) a.toNat b.toNat)).1 (ans ((0 ≤ a ∧ a < ((2 ^ nC (aS A) : Nat) : Int)) ∧ 0 ≤ b ∧ b ≤ 999) (payS (aS A) a.toNat b.toNat)).2 M (fn X (d + 3) 294 [rv 59, iv a, iv b] M) := by
  obtain ⟨hF, -⟩ := hA
  have h6 := hF.1
  have hp : 2 ^ nC (aS A) ≤ 2 ^ 6 := Nat.pow_le_pow_right (by omega) h6
  obtain ⟨h0, z0, k0⟩ := m_0 h
  rw [q_294_59]
  generalize puI M 59 0 0 = M1 at *
  have hS := h0.1
  rw [m_isSet hS hF, cI_I]
  unfold ans
  by_cases hc : 0 ≤ a ∧ a < ((2 ^ nC (aS A) : Nat) : Int)
  · obtain ⟨v, hv, rfl⟩ := nat_of hc
    rw [b01_1 _ (decide_eq_true hc), if_neg n10, m_within, cI_I, Int.toNat_natCast]
    by_cases hr : 0 ≤ b ∧ b ≤ 999
    · obtain ⟨p, hp', rfl⟩ := nat_le (n := 999) hr
      rw [if_pos hr, if_neg n10, m_right1 z0, cI_I, if_neg n10, m_pay hS hF (by omega), cI_I, if_pos ⟨hc, hr⟩]
      exact ⟨M1, rfl, z0, h0, k0⟩
    · rw [if_neg hr, if_pos rfl, m_right0 z0 (by omega), cI_I, if_pos rfl, if_neg (fun z => hr z.2)]
      exact ⟨_, rfl, puI_eq _ _ _ _, h0.p0 1, k0.pu (by omega) _ _⟩
  · rw [b01_f _ (decide_eq_false hc), if_pos rfl, m_right0 z0 (by omega), cI_I, if_pos rfl, if_neg (fun z => hc z.1)]
    exact ⟨_, rfl, puI_eq _ _ _ _, h0.p0 1, k0.pu (by omega) _ _⟩
end C46
