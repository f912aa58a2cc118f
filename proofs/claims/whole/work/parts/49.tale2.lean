/-! ===== borrowed, like, offer, fooled ===== -/
/-- the fullest purse of a set -/
def rich (S : SK) (v : Nat) : Nat → Option Nat
  | 0 => none
  | h + 1 => if v.testBit h = true ∧ (∀ b, rich S v h = some b → hun S b 1 < hun S h 1) then some h else rich S v h
theorem rich_lt {S : SK} {v : Nat} : ∀ {n b : Nat}, rich S v n = some b → b < n
  | 0, b, h => by cases h
  | n + 1, b, h => by
    unfold rich at h
    split at h
    · cases h
      omega
    · have := rich_lt h
      omega
def offV (S : SK) (v : Nat) (w : Int) : Int := match rich S (payS S v 0) (nH S) with
  | none => -1
  | some b => if w = 1 then (b : Int) else (hun S b 1 : Int)
def fooN (S : SK) (W : WD) (t : Nat) : Nat := setN (fun c => decide (W (21 + c) = 0) && wk S t (W (3 + c))) (nC S)
theorem loop_ex2 {P : Nat → Nat → Option rO} {R : Nat → Option rO} (c0 N : Nat) (hs : ∀ n c, c0 ≤ c → c < N → P (n + 1) c = P n (c + 1)) (he : ∀ n, P (n + 1) N = R n) : ∀ (k c n : Nat), c0 ≤ c → c + k = N → P (n + k + 1) c = R n
  | 0, c, n, _, h => by
    have : c = N := by omega
    subst this
    exact he n
  | k + 1, c, n, h0, h => by
    rw [show n + (k + 1) + 1 = (n + k + 1) + 1 by omega, hs _ _ h0 (by omega)]
    exact loop_ex2 c0 N hs he k (c + 1) n (by omega) (by omega)
section C49
variable {X : Nat × (Nat → Int32)} {d : Nat} {M M1 M' : rM} {A A' : AS} {S : SK} {W : WD}
theorem c_shared (hS : CS S M) (hF : WF S) {t k : Nat} (ht : t < nL S) (hk : k < nL S) : fn X (d + 2) 86 [rv 3, iv (t : Int), iv (k : Int)] M = oI (pc (tal S t &&& tal S k) : Int) M := by
  have h1 := hF.2.2.2.2.2.2.2.1 t ht
  have h2 := hF.2.2.2.2.2.2.2.1 k hk
  have : tal S t &&& tal S k ≤ tal S t := Nat.and_le_left
  rw [q_86_3, c_get10 hS hF ht, cI_I, c_get10 hS hF hk, cI_I, iand_nat (by omega) (by omega), c_bc (by omega), cI_I]
theorem c_lender (hS : CS S M) (hF : WF S) {t : Nat} (ht : t < nL S) : fn X (d + 3) 87 [rv 3, iv (t : Int)] M = oI (pyI (len S t t)) M := by
  have h8 := hF.2.2.2.1
  rw [q_87_3]
  refine loop_up (P := fun n k => kb X (d + 2) 87 n 7 [some (rv 3), some (iv (t : Int)), some (iv (pyI (len S t k))), some (iv (lenM S t (len S t k) : Int)), some (iv (k : Int)), none] [] M) t ?_ ?_ t 0 FU (by omega) (FU_lt (by omega))
  · intro n k hk
    left
    rw [q_87_3_at7, if_pos (by omega), c_shared hS hF ht (by omega), cI_I, wr_succ (by omega)]
    simp only [len]
    by_cases h : lenM S t (len S t k) < pc (tal S t &&& tal S k)
    · rw [if_pos (by omega), if_pos h]
      rfl
    · rw [if_neg (by omega), if_neg h]
  · intro n
    rw [q_87_3_at7, if_neg (by omega)]
def borV (S : SK) (t : Nat) (w : Int) : Int := if w = 1 then pyI (len S t t) else (lenM S t (len S t t) : Int)
theorem c_what {a k : Int} : fn X (d + 1) 203 [rv 0, iv a, iv k] M = if 0 ≤ a ∧ a ≤ k then oV M else oX 0 (thr M) := by
  rw [q_203_0]
  by_cases h1 : a < 0
  · rw [if_pos h1, if_neg (by omega)]
  · rw [if_neg h1]
    by_cases h2 : k < a
    · rw [if_pos h2, if_neg (by omega)]
    · rw [if_neg h2, if_pos (by omega)]
theorem c_borrowed (hA : OKA A) (h : CH A M) (a b : Int) : wOut A (ans ((0 ≤ a ∧ a < (nL (aS A) : Int)) ∧ 0 ≤ b ∧ b ≤ 1) (borV (aS A) a.toNat b)).1 (borV (aS A) a.toNat b) M (fn X (d + 5) 340 [rv 0, iv a, iv b, rv 111] M) := by
  obtain ⟨hF, -⟩ := hA
  have hS := h.1
  rw [q_340_0_111, q_174_0, c_chkL hS]
  unfold ans
  by_cases hc : 0 ≤ a ∧ a < (nL (aS A) : Int)
  · obtain ⟨t, ht, rfl⟩ := nat_of hc
    rw [if_pos hc, cV_V, Int.toNat_natCast, c_what]
    by_cases hr : 0 ≤ b ∧ b ≤ 1
    · rw [if_pos ⟨hc, hr⟩, if_pos hr, cV_V, c_lender hS hF ht, cI_I]
      refine w_ok (M1 := M) ?_ h kC.rf rfl
      unfold borV
      by_cases hb : b = 1
      · rw [if_pos hb, if_pos hb]
      · rw [if_neg hb, if_neg hb]
        cases hl : len (aS A) t t with
        | none =>
          rw [if_pos (show pyI none = -1 from rfl)]
          rfl
        | some k =>
          have hk := len_lt hl
          have hpy : pyI (some k) = (k : Int) := rfl
          rw [hpy, if_neg (by omega), c_shared hS hF ht (by omega), cI_I]
          rfl
    · rw [if_neg (fun z => hr z.2), if_neg hr, cV_X]
      exact w_x (q := 0) (k := 1) (M1 := thr M) rfl rfl (by omega) h kC.rf rfl
  · rw [if_neg hc, if_neg (fun z => hc z.1), cV_X]
    exact w_x (q := 0) (k := 1) (M1 := thr M) rfl rfl (by omega) h kC.rf rfl
theorem m_borrowed (hA : OKA A) (h : MH A M) (a b : Int) : mOut A (ans ((0 ≤ a ∧ a < (nL (aS A) : Int)) ∧ 0 ≤ b ∧ b ≤ 1) (borV (aS A) a.toNat b)).1 (ans ((0 ≤ a ∧ a < (nL (aS A) : Int)) ∧ 0 ≤ b ∧ b ≤ 1) (borV (aS A) a.toNat b)).2 M (fn X (d + 3) 298 [rv 59, iv a, iv b] M) := by
  obtain ⟨hF, -⟩ := hA
  have h8 := hF.2.2.2.1
  obtain ⟨h0, z0, k0⟩ := m_0 h
  have hn0 : ∃ n, FU = n + 1 := ⟨FU - 1, by have := FU_ge; omega⟩
  rw [q_298_59, h.1.2.2.2.1]
  generalize puI M 59 0 0 = M1 at *
  have hS := h0.1
  have bad : mOut A 1 0 M (kb X (d + 2) 298 FU 31 [some (rv 59), some (iv a), some (iv b), none, none, none, none] [rv 59] M1) := by
    obtain ⟨n, hn⟩ := hn0
    rw [hn, q_298_59_at31, m_right0 z0 (by omega), cI_I, if_pos rfl]
    exact ⟨_, rfl, puI_eq _ _ _ _, h0.p0 1, k0.pu (by omega) _ _⟩
  unfold ans
  by_cases hc : 0 ≤ a ∧ a < (nL (aS A) : Int)
  · obtain ⟨t, ht, rfl⟩ := nat_of hc
    rw [if_neg (show ¬ (t : Int) < 0 by omega), if_pos hc.2, m_within, cI_I, Int.toNat_natCast]
    by_cases hr : 0 ≤ b ∧ b ≤ 1
    · rw [if_pos hr, if_neg n10, m_right1 z0, cI_I, if_neg n10, if_pos ⟨hc, hr⟩]
      refine ⟨M1, ?_, z0, h0, k0⟩
      refine loop_up (P := fun n k => kb X (d + 2) 298 n 49 [some (rv 59), some (iv (t : Int)), some (iv b), some (iv (pyI (len (aS A) t k))), some (iv (lenM (aS A) t (len (aS A) t k) : Int)), some (iv (k : Int)), none] [] M1) t ?_ ?_ t 0 FU (by omega) (FU_lt (by omega))
      · intro n k hk
        left
        have h1 := hF.2.2.2.2.2.2.2.1 t ht
        have h2 := hF.2.2.2.2.2.2.2.1 k (by omega)
        have : tal (aS A) t &&& tal (aS A) k ≤ tal (aS A) t := Nat.and_le_left
        rw [q_298_59_at49, if_pos (by omega), gdx (by omega) (by omega), gdx (by omega) (by omega), Int.toNat_natCast, Int.toNat_natCast, hS.2.2.2.2.2.2.2.1 t ht, hS.2.2.2.2.2.2.2.1 k (by omega), iand_nat (by omega) (by omega), Nat.and_comm, m_bits (by omega), cI_I, wr_succ (by omega)]
        simp only [len]
        by_cases h : lenM (aS A) t (len (aS A) t k) < pc (tal (aS A) t &&& tal (aS A) k)
        · rw [if_pos (by omega), if_pos h]
          rfl
        · rw [if_neg (by omega), if_neg h]
      · intro n
        rw [q_298_59_at49, if_neg (by omega)]
        unfold borV
        by_cases hb : b = 1
        · rw [if_neg (by omega), if_pos hb]
        · rw [if_pos (by omega), if_neg hb]
    · rw [if_neg hr, if_pos rfl, if_neg (fun z => hr z.2)]
      exact bad
  · have e : ∀ b1 b2 : Option rO, (if a < 0 then b1 else if a < (nL (aS A) : Int) then b2 else b1) = b1 := by
      intro b1 b2
      by_cases h1 : a < 0
      · rw [if_pos h1]
      · rw [if_neg h1, if_neg (fun z => hc ⟨by omega, z⟩)]
    rw [e, if_neg (fun z => hc z.1)]
    exact bad
/-! like -/
theorem c_like (hA : OKA A) (h : CH A M) : fn X (d + 4) 188 [rv 0] M = oI (liS (aS A) (nL (aS A)) : Int) M := by
  obtain ⟨hF, -⟩ := hA
  have hS := h.1
  have h8 := hF.2.2.2.1
  rw [q_188_0, q_89_3]
  have key := loop_k (σ := Unit) (nL (aS A) + 2) (fun _ _ => True) (fun n a _ => kb X (d + 2) 89 n 4 [some (rv 3), some (iv (liS (aS A) a : Int)), some (iv (a : Int)), none] [] M) (fun r => r = oI (liS (aS A) (nL (aS A)) : Int) M) (nL (aS A)) ?_ ?_ (nL (aS A)) 0 FU () (by omega) (by
    have h1 : (nL (aS A) + 1) * (nL (aS A) + 2) ≤ 9 * 10 := Nat.mul_le_mul (by omega) (by omega)
    have := FU_ge
    omega) trivial
  · have key : kb X (d + 2) 89 FU 4 [some (rv 3), some (iv 0), some (iv 0), none] [] M = _ := key
    rw [key, cI_I]
  · intro n a _ ha _
    left
    refine ⟨a + 1, (), ?_, trivial⟩
    have hla : liS (aS A) a ≤ 64 := by
      have := liS_le (S := aS A) a
      have : a * nL (aS A) ≤ 8 * 8 := Nat.mul_le_mul (by omega) (by omega)
      omega
    have inner := loop_ex2 (P := fun m b => kb X (d + 2) 89 m 19 [some (rv 3), some (iv ((liS (aS A) a + inS (aS A) a b : Nat) : Int)), some (iv (a : Int)), some (iv (b : Int))] [] M) (R := fun m => kb X (d + 2) 89 m 4 [some (rv 3), some (iv (liS (aS A) (a + 1) : Int)), some (iv ((a + 1 : Nat) : Int)), none] [] M) (a + 1) (nL (aS A)) ?_ ?_ (nL (aS A) - (a + 1)) (a + 1) (n + (a + 1)) (Nat.le_refl _) (by omega)
    · show kb X (d + 2) 89 (n + (nL (aS A) + 2)) 4 _ [] M = _
      rw [show n + (nL (aS A) + 2) = (n + (a + 1) + (nL (aS A) - (a + 1)) + 1) + 1 by omega, q_89_3_at4, q_112_10, cI_I, hS.2.2.2.1, if_pos (by omega), wr_succ (by omega)]
      refine Eq.trans ?_ inner
      simp only [inS_lo (Nat.le_refl (a + 1)), Nat.add_zero]
    · intro m b hab hb
      have hin := inS_le (S := aS A) (a := a) b
      rw [q_89_3_at19, q_112_10, cI_I, hS.2.2.2.1, if_pos (by omega), c_get10 hS hF ha, cI_I, c_get10 hS hF hb, cI_I, wr_succ (c := b) (by omega)]
      have hi : inS (aS A) a (b + 1) = inS (aS A) a b + if a < b ∧ tal (aS A) a = tal (aS A) b then 1 else 0 := rfl
      by_cases e : tal (aS A) a = tal (aS A) b
      · rw [if_pos ⟨by omega, e⟩] at hi
        rw [if_pos (by omega), hi, wr_succ (c := liS (aS A) a + inS (aS A) a b) (by omega)]
        rfl
      · rw [if_neg (fun z => e z.2)] at hi
        rw [if_neg (by omega), hi]
        rfl
    · intro m
      rw [q_89_3_at19, q_112_10, cI_I, hS.2.2.2.1, if_neg (by omega), wr_succ (by omega)]
      rfl
  · intro n _ _
    show kb X (d + 2) 89 (n + (nL (aS A) + 2)) 4 _ [] M = _
    rw [show n + (nL (aS A) + 2) = (n + nL (aS A) + 1) + 1 by omega, q_89_3_at4, q_112_10, cI_I, hS.2.2.2.1, if_neg (by omega)]
theorem m_like (hA : OKA A) (h : MH A M) : ∃ M', fn X (d + 1) 320 [rv 59] M = oI (liS (aS A) (nL (aS A)) : Int) M' ∧ MH A M' ∧ kM M M' := by
  obtain ⟨hF, -⟩ := hA
  have h8 := hF.2.2.2.1
  obtain ⟨h0, z0, k0⟩ := m_0 h
  rw [q_320_59]
  generalize puI M 59 0 0 = M1 at *
  have hS := h0.1
  refine ⟨M1, ?_, h0, k0⟩
  have key := loop_k (σ := Unit) (nL (aS A) + 2) (fun _ _ => True) (fun n a _ => kb X d 320 n 9 [some (rv 59), some (iv (liS (aS A) a : Int)), some (iv (a : Int)), none] [] M1) (fun r => r = oI (liS (aS A) (nL (aS A)) : Int) M1) (nL (aS A)) ?_ ?_ (nL (aS A)) 0 FU () (by omega) (by
    have h1 : (nL (aS A) + 1) * (nL (aS A) + 2) ≤ 9 * 10 := Nat.mul_le_mul (by omega) (by omega)
    have := FU_ge
    omega) trivial
  · exact key
  · intro n a _ ha _
    left
    refine ⟨a + 1, (), ?_, trivial⟩
    have hla : liS (aS A) a ≤ 64 := by
      have := liS_le (S := aS A) a
      have : a * nL (aS A) ≤ 8 * 8 := Nat.mul_le_mul (by omega) (by omega)
      omega
    have inner := loop_ex2 (P := fun m b => kb X d 320 m 21 [some (rv 59), some (iv ((liS (aS A) a + inS (aS A) a b : Nat) : Int)), some (iv (a : Int)), some (iv (b : Int))] [] M1) (R := fun m => kb X d 320 m 9 [some (rv 59), some (iv (liS (aS A) (a + 1) : Int)), some (iv ((a + 1 : Nat) : Int)), none] [] M1) (a + 1) (nL (aS A)) ?_ ?_ (nL (aS A) - (a + 1)) (a + 1) (n + (a + 1)) (Nat.le_refl _) (by omega)
    · show kb X d 320 (n + (nL (aS A) + 2)) 9 _ [] M1 = _
      rw [show n + (nL (aS A) + 2) = (n + (a + 1) + (nL (aS A) - (a + 1)) + 1) + 1 by omega, q_320_59_at9, hS.2.2.2.1, if_pos (by omega), wr_succ (by omega)]
      refine Eq.trans ?_ inner
      simp only [inS_lo (Nat.le_refl (a + 1)), Nat.add_zero]
    · intro m b hab hb
      have hin := inS_le (S := aS A) (a := a) b
      rw [q_320_59_at21, hS.2.2.2.1, if_pos (by omega), gdx (by omega) (by omega), gdx (by omega) (by omega), Int.toNat_natCast, Int.toNat_natCast, hS.2.2.2.2.2.2.2.1 a ha, hS.2.2.2.2.2.2.2.1 b hb, wr_succ (c := b) (by omega)]
      have hi : inS (aS A) a (b + 1) = inS (aS A) a b + if a < b ∧ tal (aS A) a = tal (aS A) b then 1 else 0 := rfl
      by_cases e : tal (aS A) a = tal (aS A) b
      · rw [if_pos ⟨by omega, e⟩] at hi
        rw [if_pos (by omega), hi, wr_succ (c := liS (aS A) a + inS (aS A) a b) (by omega)]
        rfl
      · rw [if_neg (fun z => e z.2)] at hi
        rw [if_neg (by omega), hi, wri (by omega) (by omega)]
        simp only [Int.add_zero]
        rfl
    · intro m
      rw [q_320_59_at21, hS.2.2.2.1, if_neg (by omega), wr_succ (by omega)]
      rfl
  · intro n _ _
    show kb X d 320 (n + (nL (aS A) + 2)) 9 _ [] M1 = _
    rw [show n + (nL (aS A) + 2) = (n + nL (aS A) + 1) + 1 by omega, q_320_59_at9, hS.2.2.2.1, if_neg (by omega)]
/-! offer -/
theorem c_rich (hS : CS S M) (hF : WF S) {v : Nat} (hv : v < 2147483648) : fn X (d + 4) 79 [rv 3, iv (v : Int)] M = oI (pyI (rich S (payS S v 0) (nH S))) M := by
  have h7 := hF.2.2.1
  have hp := payS_lt hF v 0
  have p0 := c_pay (X := X) (d := d) hS hF (v := v) (p := 0) hv
  rw [q_79_3]
  erw [p0]
  rw [cI_I]
  refine loop_up (P := fun n h => kb X (d + 3) 79 n 12 [some (rv 3), none, some (iv (payS S v 0 : Int)), some (iv (pyI (rich S (payS S v 0) h))), some (iv (h : Int))] [] M) (nH S) ?_ ?_ (nH S) 0 FU (by omega) (FU_lt (by omega))
  · intro n h hh
    left
    have g1 := c_get8 (X := X) (d := d + 2) hS hF hh (j := 1) (by omega)
    rw [q_79_3_at12, q_112_8, cI_I, hS.2.2.1, if_pos (by omega), bit_test (by omega) (by omega), wr_succ (by omega)]
    simp only [rich]
    by_cases a1 : (payS S v 0).testBit h = true
    · rw [if_neg (by rw [if_pos a1]; omega)]
      cases hl : rich S (payS S v 0) h with
      | none =>
        rw [if_pos (show pyI none = -1 from rfl), if_pos ⟨a1, fun b z => by cases z⟩]
        rfl
      | some b =>
        have hb := rich_lt hl
        have gb := c_get8 (X := X) (d := d + 2) hS hF (show b < nH S by omega) (j := 1) (by omega)
        have hpy : pyI (some b) = (b : Int) := rfl
        rw [hpy, if_neg (by omega)]
        erw [g1]
        rw [cI_I]
        erw [gb]
        rw [cI_I]
        by_cases a2 : hun S b 1 < hun S h 1
        · rw [if_pos (by omega), if_pos ⟨a1, fun b' z => by cases z; exact a2⟩]
          rfl
        · rw [if_neg (by omega), if_neg (fun z => a2 (z.2 b rfl))]
          rfl
    · rw [if_pos (by rw [if_neg a1]), if_neg (fun z => a1 z.1)]
  · intro n
    rw [q_79_3_at12, q_112_8, cI_I, hS.2.2.1, if_neg (by omega)]
theorem c_offer (hA : OKA A) (h : CH A M) {a : Int} (ha : rgi a) (b : Int) : wOut A (if ¬ (0 ≤ b ∧ b ≤ 1) then 1 else if ¬ (0 ≤ a ∧ a < ((2 ^ nC (aS A) : Nat) : Int)) then 2 else 0) (offV (aS A) a.toNat b) M (fn X (d + 6) 350 [rv 0, iv a, iv b, rv 111] M) := by
  obtain ⟨hF, -⟩ := hA
  have hS := h.1
  have hp : 2 ^ nC (aS A) ≤ 2 ^ 6 := Nat.pow_le_pow_right (by omega) hF.1
  rw [q_350_0_111, q_186_0, c_what]
  by_cases hr : 0 ≤ b ∧ b ≤ 1
  · rw [if_pos hr, cV_V, c_chkS hS hF ha, if_neg (fun z => z hr)]
    by_cases hc : 0 ≤ a ∧ a < ((2 ^ nC (aS A) : Nat) : Int)
    · obtain ⟨v, hv, rfl⟩ := nat_of hc
      rw [if_pos hc, cV_V, if_neg (fun z => z hc), c_rich hS hF (by omega), cI_I, Int.toNat_natCast]
      refine w_ok (M1 := M) ?_ h kC.rf rfl
      unfold offV
      cases hl : rich (aS A) (payS (aS A) v 0) (nH (aS A)) with
      | none =>
        rw [if_pos (show pyI none = -1 from rfl)]
        rfl
      | some k =>
        have hk := rich_lt hl
        have gk := c_get8 (X := X) (d := d + 3) hS hF hk (j := 1) (by omega)
        have hpy : pyI (some k) = (k : Int) := rfl
        rw [hpy, if_neg (by omega)]
        by_cases hb : b = 1
        · rw [if_pos hb]
          simp only [if_pos hb]
        · rw [if_neg hb]
          erw [gk]
          simp only [if_neg hb, cI_I]
    · rw [if_neg hc, if_pos hc, cV_X]
      exact w_x (q := 1) (k := 2) (M1 := thr M) rfl rfl (by omega) h kC.rf rfl
  · rw [if_neg hr, if_pos hr, cV_X]
    exact w_x (q := 0) (k := 1) (M1 := thr M) rfl rfl (by omega) h kC.rf rfl
theorem m_offer (hA : OKA A) (h : MH A M) (a b : Int) : mOut A (if ¬ (0 ≤ b ∧ b ≤ 1) then 1 else if ¬ (0 ≤ a ∧ a < ((2 ^ nC (aS A) : Nat) : Int)) then 2 else 0) (if ¬ (0 ≤ b ∧ b ≤ 1) then 0 else if ¬ (0 ≤ a ∧ a < ((2 ^ nC (aS A) : Nat) : Int)) then 0 else offV (aS A) a.toNat b) M (fn X (d + 3) 318 [rv 59, iv a, iv b] M) := by
  obtain ⟨hF, -⟩ := hA
  have h7 := hF.2.2.1
  have hp : 2 ^ nC (aS A) ≤ 2 ^ 6 := Nat.pow_le_pow_right (by omega) hF.1
  obtain ⟨h0, z0, k0⟩ := m_0 h
  rw [q_318_59]
  generalize puI M 59 0 0 = M1 at *
  have hS := h0.1
  rw [m_what z0]
  by_cases hr : 0 ≤ b ∧ b ≤ 1
  · simp only [if_pos hr, if_neg (fun z : ¬ (0 ≤ b ∧ b ≤ 1) => z hr)]
    rw [cI_I, if_neg n10, m_isSet hS hF, cI_I]
    by_cases hc : 0 ≤ a ∧ a < ((2 ^ nC (aS A) : Nat) : Int)
    · obtain ⟨v, hv, rfl⟩ := nat_of hc
      simp only [if_neg (fun z : ¬ (0 ≤ (v : Int) ∧ (v : Int) < ((2 ^ nC (aS A) : Nat) : Int)) => z hc)]
      have hpl := payS_lt hF v 0
      have p0 := m_pay (X := X) (d := d + 1) hS hF (v := v) (p := 0) (by omega)
      rw [b01_1 _ (decide_eq_true hc), m_right1 z0, cI_I, if_neg n10]
      erw [p0]
      rw [cI_I, Int.toNat_natCast]
      refine ⟨M1, ?_, z0, h0, k0⟩
      refine loop_up (P := fun n h => kb X (d + 2) 318 n 42 [some (rv 59), none, some (iv b), some (iv (payS (aS A) v 0 : Int)), some (iv (pyI (rich (aS A) (payS (aS A) v 0) h))), some (iv (h : Int))] [] M1) (nH (aS A)) ?_ ?_ (nH (aS A)) 0 FU (by omega) (FU_lt (by omega))
      · intro n h hh
        left
        have g1 := (hS.2.2.2.2.2.2.1 h hh).2
        rw [q_318_59_at42, hS.2.2.1, if_pos (by omega), bit_test (by omega) (by omega), wr_succ (by omega)]
        simp only [rich]
        by_cases a1 : (payS (aS A) v 0).testBit h = true
        · rw [if_pos (by rw [if_pos a1])]
          cases hl : rich (aS A) (payS (aS A) v 0) h with
          | none =>
            rw [if_pos (show pyI none = -1 from rfl), if_pos ⟨a1, fun b z => by cases z⟩]
            rfl
          | some k =>
            have hk := rich_lt hl
            have gk := (hS.2.2.2.2.2.2.1 k (by omega)).2
            have hpy : pyI (some k) = (k : Int) := rfl
            rw [hpy, if_neg (by omega), gdx (by omega) (by omega), gdx (by omega) (by omega), Int.toNat_natCast, Int.toNat_natCast, g1, gk]
            by_cases a2 : hun (aS A) k 1 < hun (aS A) h 1
            · rw [if_pos (by omega), if_pos ⟨a1, fun b' z => by cases z; exact a2⟩]
              rfl
            · rw [if_neg (by omega), if_neg (fun z => a2 (z.2 k rfl))]
              rfl
        · rw [if_neg (by rw [if_neg a1]; omega), if_neg (fun z => a1 z.1)]
      · intro n
        rw [q_318_59_at42, hS.2.2.1, if_neg (by omega)]
        unfold offV
        cases hl : rich (aS A) (payS (aS A) v 0) (nH (aS A)) with
        | none =>
          rw [if_pos (show pyI none = -1 from rfl)]
          rfl
        | some k =>
          have hk := rich_lt hl
          have gk := (hS.2.2.2.2.2.2.1 k (by omega)).2
          have hpy : pyI (some k) = (k : Int) := rfl
          rw [hpy, if_neg (by omega)]
          by_cases hb : b = 1
          · rw [if_pos hb]
            simp only [if_pos hb]
          · rw [if_neg hb, gdx (by omega) (by omega), Int.toNat_natCast, gk]
            simp only [if_neg hb]
    · simp only [if_pos hc]
      rw [b01_f _ (decide_eq_false hc), m_right0 z0 (by omega), cI_I, if_pos rfl]
      exact ⟨_, rfl, puI_eq _ _ _ _, h0.p0 2, k0.pu (by omega) _ _⟩
  · simp only [if_neg hr, if_pos hr]
    rw [cI_I, if_pos rfl]
    exact ⟨_, rfl, puI_eq _ _ _ _, h0.p0 1, k0.pu (by omega) _ _⟩
end C49
