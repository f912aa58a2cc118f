/-! ===== tellers, borrowed, alone, like ===== -/
def ptsN (S : SK) (v : Nat) : Nat → Nat
  | 0 => 0
  | t + 1 => if v.testBit t then ptsN S v t ||| tal S t else ptsN S v t
def pts (S : SK) (v : Nat) : Nat := ptsN S v (nL S)
theorem ptsN_lt {S : SK} (hF : WF S) (v : Nat) : ∀ n, n ≤ nL S → ptsN S v n < 1024
  | 0, _ => by unfold ptsN; omega
  | n + 1, h => by
    have h1 := ptsN_lt hF v n (by omega)
    have h2 := hF.2.2.2.2.2.2.2.1 n (by omega)
    unfold ptsN
    split
    · exact Nat.or_lt_two_pow (n := 10) h1 (by omega)
    · exact h1
def allL (S : SK) : Nat := 2 ^ nL S - 1
theorem allL_lt {S : SK} (hF : WF S) : allL S < 256 := by
  have : 2 ^ nL S ≤ 2 ^ 8 := Nat.pow_le_pow_right (by omega) hF.2.2.2.1
  have : 1 ≤ 2 ^ nL S := Nat.one_le_two_pow
  unfold allL
  omega
theorem e_all {S : SK} (hF : WF S) : wr (ishl 1 (nL S : Int) - 1) = (allL S : Int) := by
  have h8 := hF.2.2.2.1
  have hp : 2 ^ nL S ≤ 2 ^ 8 := Nat.pow_le_pow_right (by omega) h8
  have hp1 : 1 ≤ 2 ^ nL S := Nat.one_le_two_pow
  have e1 : ishl 1 (nL S : Int) = ((2 ^ nL S : Nat) : Int) := by
    have := ishl_nat (a := 1) (k := nL S) (by omega) (by omega)
    rw [Nat.one_mul] at this
    exact this
  rw [e1, wri (by omega) (by omega)]
  unfold allL
  omega
theorem pcN_mono {a b : Nat} : ∀ n, (∀ i, i < n → a.testBit i = true → b.testBit i = true) → pcN a n ≤ pcN b n
  | 0, _ => Nat.le_refl _
  | n + 1, h => by
    have ih := pcN_mono n (fun i hi => h i (by omega))
    have := h n (by omega)
    unfold pcN
    cases ha : a.testBit n with
    | false => simp; split <;> omega
    | true =>
      rw [ha] at this
      simp [this rfl]
      exact ih
theorem pc_all {S : SK} {b : Nat} (h : b ≤ allL S) : pc b ≤ pc (allL S) := by
  unfold pc
  apply pcN_mono
  intro i _ hb
  unfold allL at h ⊢
  rw [Nat.testBit_two_pow_sub_one]
  apply decide_eq_true
  apply Nat.lt_of_not_le
  intro hi
  have hp1 : 1 ≤ 2 ^ nL S := Nat.one_le_two_pow
  rw [Nat.testBit_lt_two_pow (Nat.lt_of_lt_of_le (by omega : b < 2 ^ nL S) (Nat.pow_le_pow_right (by omega) hi))] at hb
  cases hb
/-- the fewest tales that have all parts -/
def tel (S : SK) : Nat → Option Nat
  | 0 => none
  | n + 1 => if pts S n = pts S (allL S) ∧ (∀ b, tel S n = some b → pc n < pc b) then some n else tel S n
theorem tel_lt {S : SK} : ∀ {n b : Nat}, tel S n = some b → b < n
  | 0, b, h => by cases h
  | n + 1, b, h => by
    unfold tel at h
    split at h
    · cases h
      omega
    · have := tel_lt h
      omega
def telV (S : SK) : Nat := (tel S (allL S + 1)).getD 0
theorem tel_end {S : SK} : ∃ b, tel S (allL S + 1) = some b := by
  unfold tel
  split
  · exact ⟨_, rfl⟩
  · rename_i h
    cases hb : tel S (allL S) with
    | none => exact absurd ⟨rfl, fun b z => by rw [hb] at z; cases z⟩ h
    | some b => exact ⟨b, rfl⟩
/-- who lends most -/
def lenM (S : SK) (t : Nat) (p : Option Nat) : Nat := match p with
  | none => 0
  | some b => pc (tal S t &&& tal S b)
def len (S : SK) (t : Nat) : Nat → Option Nat
  | 0 => none
  | k + 1 => if lenM S t (len S t k) < pc (tal S t &&& tal S k) then some k else len S t k
theorem len_lt {S : SK} {t : Nat} : ∀ {n b : Nat}, len S t n = some b → b < n
  | 0, b, h => by cases h
  | n + 1, b, h => by
    unfold len at h
    split at h
    · cases h
      omega
    · have := len_lt h
      omega
def inS (S : SK) (a : Nat) : Nat → Nat
  | 0 => 0
  | b + 1 => inS S a b + if a < b ∧ tal S a = tal S b then 1 else 0
theorem inS_lo {S : SK} {a : Nat} : ∀ {b : Nat}, b ≤ a + 1 → inS S a b = 0
  | 0, _ => rfl
  | b + 1, h => by
    unfold inS
    rw [inS_lo (by omega), if_neg (by omega)]
theorem inS_le {S : SK} {a : Nat} : ∀ b, inS S a b ≤ b
  | 0 => Nat.le_refl _
  | b + 1 => by
    have := inS_le (S := S) (a := a) b
    unfold inS
    split <;> omega
def liS (S : SK) : Nat → Nat
  | 0 => 0
  | a + 1 => liS S a + inS S a (nL S)
theorem liS_le {S : SK} : ∀ n, liS S n ≤ n * nL S
  | 0 => by unfold liS; omega
  | n + 1 => by
    have := liS_le (S := S) n
    have := inS_le (S := S) (a := n) (nL S)
    unfold liS
    rw [Nat.succ_mul]
    omega
section C48
variable {X : Nat × (Nat → Int32)} {d : Nat} {M M1 M' : rM} {A A' : AS} {S : SK} {W : WD}
theorem c_pts (hS : CS S M) (hF : WF S) {v : Nat} (hv : v < 2147483648) : fn X (d + 2) 85 [rv 3, iv (v : Int)] M = oI (pts S v : Int) M := by
  have h8 := hF.2.2.2.1
  rw [q_85_3]
  refine loop_up (P := fun n t => kb X (d + 1) 85 n 4 [some (rv 3), some (iv (v : Int)), some (iv ((ptsN S v t : Nat) : Int)), some (iv (t : Int))] [] M) (nL S) ?_ ?_ (nL S) 0 FU (by omega) (FU_lt (by omega))
  · intro n t ht
    left
    have hx := ptsN_lt hF v t (by omega)
    have ht2 := hF.2.2.2.2.2.2.2.1 t ht
    rw [q_85_3_at4, q_112_10, cI_I, hS.2.2.2.1, if_pos (by omega), bit_test hv (by omega), wr_succ (by omega), c_get10 hS hF ht, cI_I]
    simp only [ptsN]
    by_cases h : v.testBit t = true
    · rw [if_neg (by rw [if_pos h]; omega), if_pos h, ior_nat (by omega) (by omega)]
    · rw [if_pos (by rw [if_neg h]), if_neg h]
  · intro n
    rw [q_85_3_at4, q_112_10, cI_I, hS.2.2.2.1, if_neg (by omega)]
    rfl
theorem m_pts (hS : MS S M) (hF : WF S) {v : Nat} (hv : v < 2147483648) : fn X (d + 1) 296 [rv 59, iv (v : Int)] M = oI (pts S v : Int) M := by
  have h8 := hF.2.2.2.1
  rw [q_296_59]
  refine loop_up (P := fun n t => kb X d 296 n 4 [some (rv 59), some (iv (v : Int)), some (iv ((ptsN S v t : Nat) : Int)), some (iv (t : Int))] [] M) (nL S) ?_ ?_ (nL S) 0 FU (by omega) (FU_lt (by omega))
  · intro n t ht
    left
    have hx := ptsN_lt hF v t (by omega)
    have ht2 := hF.2.2.2.2.2.2.2.1 t ht
    rw [q_296_59_at4, hS.2.2.2.1, if_pos (by omega), bit_test hv (by omega), wr_succ (by omega), gdx (by omega) (by omega), Int.toNat_natCast, hS.2.2.2.2.2.2.2.1 t ht]
    simp only [ptsN]
    by_cases h : v.testBit t = true
    · rw [if_pos (by rw [if_pos h]), if_pos h, ior_nat (by omega) (by omega)]
    · rw [if_neg (by rw [if_neg h]; omega), if_neg h, ior_0 (by omega)]
  · intro n
    rw [q_296_59_at4, hS.2.2.2.1, if_neg (by omega)]
    rfl
/-! alone -/
def aloV (S : SK) (t : Nat) : Nat := tal S t ^^^ (tal S t &&& pts S (allL S ^^^ (allL S &&& 2 ^ t)))
theorem e_bit {t : Nat} (ht : t < 31) : ishl 1 (t : Int) = ((2 ^ t : Nat) : Int) := by
  have h1 : 2 ^ t < 2147483648 := Nat.pow_lt_pow_right (a := 2) (by omega) (show t < 31 from ht)
  have := ishl_nat (a := 1) (k := t) (by omega) (by omega)
  rw [Nat.one_mul] at this
  exact this
theorem c_aloneS (hS : CS S M) (hF : WF S) {t : Nat} (ht : t < nL S) : fn X (d + 3) 88 [rv 3, iv (t : Int)] M = oI (aloV S t : Int) M := by
  have h8 := hF.2.2.2.1
  have ha := allL_lt hF
  have h1 : 2 ^ t < 2147483648 := Nat.pow_lt_pow_right (a := 2) (by omega) (show t < 31 by omega)
  have ht2 := hF.2.2.2.2.2.2.2.1 t ht
  have hu : allL S ^^^ (allL S &&& 2 ^ t) < 2 ^ 8 := Nat.xor_lt_two_pow (by omega) (Nat.lt_of_le_of_lt Nat.and_le_left (by omega))
  have hp := ptsN_lt hF (allL S ^^^ (allL S &&& 2 ^ t)) (nL S) (Nat.le_refl _)
  rw [q_88_3, c_get10 hS hF ht, cI_I, q_117_10, hS.2.2.2.1, cI_I, e_all hF, e_bit (by omega), iand_not (by omega) (by omega), c_pts hS hF (by omega), cI_I]
  have hp : pts S (allL S ^^^ (allL S &&& 2 ^ t)) < 1024 := hp
  rw [iand_not (by omega) (by omega)]
  rfl
theorem c_alone (hA : OKA A) (h : CH A M) (a : Int) : wOut A (ans (0 ≤ a ∧ a < (nL (aS A) : Int)) (aloV (aS A) a.toNat)).1 (aloV (aS A) a.toNat : Int) M (fn X (d + 5) 351 [rv 0, iv a, rv 111] M) := by
  obtain ⟨hF, -⟩ := hA
  have hS := h.1
  rw [q_351_0_111, q_187_0, c_chkL hS]
  unfold ans
  by_cases hc : 0 ≤ a ∧ a < (nL (aS A) : Int)
  · obtain ⟨t, ht, rfl⟩ := nat_of hc
    simp only [if_pos hc]
    rw [cV_V, Int.toNat_natCast, c_aloneS hS hF ht, cI_I]
    exact w_ok (M1 := M) rfl h kC.rf rfl
  · rw [if_neg hc, if_neg hc, cV_X]
    exact w_x (q := 0) (k := 1) (M1 := thr M) rfl rfl (by omega) h kC.rf rfl
theorem m_alone (hA : OKA A) (h : MH A M) (a : Int) : mOut A (ans (0 ≤ a ∧ a < (nL (aS A) : Int)) (aloV (aS A) a.toNat)).1 (ans (0 ≤ a ∧ a < (nL (aS A) : Int)) (aloV (aS A) a.toNat)).2 M (fn X (d + 3) 319 [rv 59, iv a] M) := by
  obtain ⟨hF, -⟩ := hA
  have h8 := hF.2.2.2.1
  obtain ⟨h0, z0, k0⟩ := m_0 h
  obtain ⟨n, hn⟩ : ∃ n, FU = n + 2 := ⟨FU - 2, by have := FU_ge; omega⟩
  rw [q_319_59, h.1.2.2.2.1, hn]
  generalize puI M 59 0 0 = M1 at *
  have hS := h0.1
  unfold ans
  by_cases hc : 0 ≤ a ∧ a < (nL (aS A) : Int)
  · obtain ⟨t, ht, rfl⟩ := nat_of hc
    have ha := allL_lt hF
    have h1 : 2 ^ t < 2147483648 := Nat.pow_lt_pow_right (a := 2) (by omega) (show t < 31 by omega)
    have ht2 := hF.2.2.2.2.2.2.2.1 t ht
    have hu : allL (aS A) ^^^ (allL (aS A) &&& 2 ^ t) < 2 ^ 8 := Nat.xor_lt_two_pow (by omega) (Nat.lt_of_le_of_lt Nat.and_le_left (by omega))
    have hp : pts (aS A) (allL (aS A) ^^^ (allL (aS A) &&& 2 ^ t)) < 1024 := ptsN_lt hF _ (nL (aS A)) (Nat.le_refl _)
    rw [if_neg (show ¬ (t : Int) < 0 by omega), if_pos hc.2, q_319_59_at23, m_right1 z0, cI_I, if_neg n10, hS.2.2.2.1, e_all hF, e_bit (by omega), gdx (by omega) (by omega), iand_not (by omega) (by omega), m_pts hS hF (by omega), cI_I, Int.toNat_natCast, hS.2.2.2.2.2.2.2.1 t ht, iand_not (by omega) (by omega), if_pos hc]
    exact ⟨M1, rfl, z0, h0, k0⟩
  · have e : ∀ b1 b2 : Option rO, (if a < 0 then b1 else if a < (nL (aS A) : Int) then b2 else b1) = b1 := by
      intro b1 b2
      by_cases h1 : a < 0
      · rw [if_pos h1]
      · rw [if_neg h1, if_neg (fun z => hc ⟨by omega, z⟩)]
    rw [e, q_319_59_at22, q_319_59_at23, m_right0 z0 (by omega), cI_I, if_pos rfl, if_neg hc]
    exact ⟨_, rfl, puI_eq _ _ _ _, h0.p0 1, k0.pu (by omega) _ _⟩
/-! tellers -/
theorem c_tellers (hA : OKA A) (h : CH A M) : fn X (d + 4) 173 [rv 0] M = oI (telV (aS A) : Int) M := by
  obtain ⟨hF, -⟩ := hA
  have hS := h.1
  have ha := allL_lt hF
  rw [q_173_0, q_84_3, q_117_10, hS.2.2.2.1, cI_I, e_all hF, c_pts hS hF (by omega), cI_I]
  have key := loop_up (P := fun n v => kb X (d + 2) 84 n 20 [some (rv 3), some (iv (pts (aS A) (allL (aS A)) : Int)), some (iv (((tel (aS A) v).getD 0 : Nat) : Int)), some (iv (match tel (aS A) v with | none => 9 | some b => (pc b : Int))), some (iv (v : Int))] [] M) (R := oI (telV (aS A) : Int) M) (allL (aS A) + 1) ?_ ?_ (allL (aS A) + 1) 0 FU (by omega) (FU_lt (by omega))
  · have key : kb X (d + 2) 84 FU 20 [some (rv 3), some (iv (pts (aS A) (allL (aS A)) : Int)), some (iv 0), some (iv 9), some (iv 0)] [] M = _ := key
    rw [key, cI_I]
  · intro n v hv
    left
    have bc := c_bc (X := X) (d := d + 1) (M := M) (v := v) (by omega)
    have h10 := pcN_le v 10
    have hp10 : pc v ≤ 8 := by
      have := pc_all (S := aS A) (b := v) (by omega)
      have : pc (allL (aS A)) ≤ 8 := by
        have : ∀ z, z < 256 → pc z ≤ 8 := by decide +kernel
        exact this _ ha
      omega
    rw [q_84_3_at20, q_117_10, hS.2.2.2.1, cI_I, e_all hF, if_neg (by omega), bc, cI_I, c_pts hS hF (by omega), cI_I, bc, cI_I, wr_succ (by omega)]
    cases hl : tel (aS A) v with
    | none =>
      rw [if_pos (show (pc v : Int) < 9 by omega)]
      by_cases e : pts (aS A) v = pts (aS A) (allL (aS A))
      · have : tel (aS A) (v + 1) = some v := by
          unfold tel
          rw [if_pos ⟨e, fun b z => by rw [hl] at z; cases z⟩]
        rw [if_pos (by omega), this]
        rfl
      · have : tel (aS A) (v + 1) = none := by
          conv => lhs; unfold tel
          rw [if_neg (fun z => e z.1), hl]
        rw [if_neg (by omega), this]
    | some b =>
      by_cases e2 : pc v < pc b
      · rw [if_pos (show (pc v : Int) < (pc b : Int) by omega)]
        by_cases e : pts (aS A) v = pts (aS A) (allL (aS A))
        · have : tel (aS A) (v + 1) = some v := by
            unfold tel
            rw [if_pos ⟨e, fun b' z => by rw [hl] at z; cases z; exact e2⟩]
          rw [if_pos (by omega), this]
          rfl
        · have : tel (aS A) (v + 1) = some b := by
            conv => lhs; unfold tel
            rw [if_neg (fun z => e z.1), hl]
          rw [if_neg (by omega), this]
      · have : tel (aS A) (v + 1) = some b := by
          conv => lhs; unfold tel
          rw [if_neg (fun z => e2 (z.2 b hl)), hl]
        rw [if_neg (show ¬ (pc v : Int) < (pc b : Int) by omega), this]
  · intro n
    rw [q_84_3_at20, q_117_10, hS.2.2.2.1, cI_I, e_all hF, if_pos (by omega)]
    rfl
theorem m_tellers (hA : OKA A) (h : MH A M) : ∃ M', fn X (d + 2) 297 [rv 59] M = oI (telV (aS A) : Int) M' ∧ MH A M' ∧ kM M M' := by
  obtain ⟨hF, -⟩ := hA
  have ha := allL_lt hF
  obtain ⟨h0, z0, k0⟩ := m_0 h
  rw [q_297_59, h.1.2.2.2.1, e_all hF]
  generalize puI M 59 0 0 = M1 at *
  have hS := h0.1
  refine ⟨M1, ?_, h0, k0⟩
  refine loop_up (P := fun n v => kb X (d + 1) 297 n 18 [some (rv 59), some (iv (allL (aS A) : Int)), some (iv (((tel (aS A) v).getD (allL (aS A)) : Nat) : Int)), some (iv (v : Int))] [] M1) (R := oI (telV (aS A) : Int) M1) (allL (aS A) + 1) ?_ ?_ (allL (aS A) + 1) 0 FU (by omega) (FU_lt (by omega))
  · intro n v hv
    left
    have bv := m_bits (X := X) (d := d) (M := M1) (v := v) (by omega)
    have ba := m_bits (X := X) (d := d) (M := M1) (v := allL (aS A)) (by omega)
    have hpa := pc_all (S := aS A) (b := v) (by omega)
    rw [q_297_59_at18, if_neg (by omega), m_pts hS hF (by omega), cI_I, m_pts hS hF (by omega), cI_I, bv, cI_I, wr_succ (by omega)]
    by_cases e : pts (aS A) v = pts (aS A) (allL (aS A))
    · rw [if_pos (by omega)]
      cases hl : tel (aS A) v with
      | none =>
        have : tel (aS A) (v + 1) = some v := by
          unfold tel
          rw [if_pos ⟨e, fun b z => by rw [hl] at z; cases z⟩]
        rw [this]
        show cI (fn X (d + 1) 213 [iv (allL (aS A) : Int)] M1) _ = _
        rw [ba, cI_I]
        by_cases e1 : pc v < pc (allL (aS A))
        · rw [if_pos (by omega)]
          rfl
        · rw [if_neg (by omega), bv, cI_I]
          show cI (fn X (d + 1) 213 [iv (allL (aS A) : Int)] M1) _ = _
          rw [ba, cI_I, if_pos (by omega)]
          by_cases e2 : v < allL (aS A)
          · rw [if_pos (show (v : Int) < ((none.getD (allL (aS A)) : Nat) : Int) by show (v : Int) < (allL (aS A) : Int); omega)]
            rfl
          · rw [if_neg (show ¬ (v : Int) < ((none.getD (allL (aS A)) : Nat) : Int) by show ¬ (v : Int) < (allL (aS A) : Int); omega)]
            have : v = allL (aS A) := by omega
            rw [← this]
            rfl
      | some b =>
        have hb := tel_lt hl
        have bb := m_bits (X := X) (d := d) (M := M1) (v := b) (by omega)
        show cI (fn X (d + 1) 213 [iv (b : Int)] M1) _ = _
        rw [bb, cI_I]
        by_cases e2 : pc v < pc b
        · have : tel (aS A) (v + 1) = some v := by
            unfold tel
            rw [if_pos ⟨e, fun b' z => by rw [hl] at z; cases z; exact e2⟩]
          rw [if_pos (by omega), this]
          rfl
        · have : tel (aS A) (v + 1) = some b := by
            conv => lhs; unfold tel
            rw [if_neg (fun z => e2 (z.2 b hl)), hl]
          rw [if_neg (by omega), this, bv, cI_I]
          show cI (fn X (d + 1) 213 [iv (b : Int)] M1) _ = _
          rw [bb, cI_I]
          by_cases e3 : pc v = pc b
          · rw [if_pos (by omega), if_neg (show ¬ (v : Int) < (((some b).getD (allL (aS A)) : Nat) : Int) by show ¬ (v : Int) < (b : Int); omega)]
          · rw [if_neg (by omega)]
    · have : tel (aS A) (v + 1) = tel (aS A) v := by
        conv => lhs; unfold tel
        rw [if_neg (fun z => e z.1)]
      rw [if_neg (by omega), this]
  · intro n
    rw [q_297_59_at18, if_pos (by omega)]
    obtain ⟨b, hb⟩ := tel_end (S := aS A)
    unfold telV
    rw [hb]
    rfl
end C48
