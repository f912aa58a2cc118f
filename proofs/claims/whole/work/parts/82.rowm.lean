/-! ===== how, next: the model's side ===== -/
def PT (k _j : Nat) : Bool := k == 105 || k == 106 || k == 107
theorem eM_T : ∀ k j, eM k j = true → PT k j = false := by
  intro k j z
  unfold eM at z
  unfold PT
  simp only [Bool.or_eq_true, Bool.and_eq_true, beq_iff_eq, decide_eq_true_eq] at z
  simp only [Bool.or_eq_false_iff, beq_eq_false_iff_ne]
  omega
theorem kM_T {M M' : rM} (f : sf PT M M') : kM M M' := kM.sf f (fun k j hk => by
  unfold PT
  simp only [Bool.or_eq_false_iff, beq_eq_false_iff_ne]
  omega)
section C82
variable {X : Nat × (Nat → Int32)} {d n : Nat} {M M1 M2 M' : rM} {A A' : AS} {S : SK} {W V : WD} {K : List MK} {c b0 : Nat}
theorem m_power (hF : WF S) (hn : n ≤ 4) : fn X (d + 1) 301 [iv (nT S : Int), iv (n : Int)] M = oI ((nT S ^ n : Nat) : Int) M := by
  have h8 := hF.2.1
  rw [q_301]
  refine loop_up (P := fun m k => kb X d 301 m 4 [some (iv (nT S : Int)), some (iv (n : Int)), some (iv ((nT S ^ k : Nat) : Int)), some (iv (k : Int))] [] M) n ?_ ?_ n 0 FU (by omega) (FU_lt (by omega))
  · intro m k hk
    left
    have hp := pow8 (S := S) hF (m := k) (by omega)
    have e : wr ((nT S : Int) * ((nT S ^ k : Nat) : Int)) = ((nT S ^ (k + 1) : Nat) : Int) := by
      have := pow8 (S := S) hF (m := k + 1) (by omega)
      rw [← Int.natCast_mul, Nat.mul_comm, show nT S ^ k * nT S = nT S ^ (k + 1) from rfl]
      exact wri (by omega) (by omega)
    rw [q_301_at4, if_pos (by omega), e, wr_succ (by omega)]
  · intro m
    rw [q_301_at4, if_neg (by omega)]
/-- the figures of a row -/
theorem m_digits (hT : 0 < nT S) (h8 : nT S ≤ 8) (hn : n ≤ 4) {r : Nat} (hr : r < 10000) (hS2 : M.2.1 59 2 = (nT S : Int)) : ∀ (j g : Nat) (M1 : rM), j ≤ n → (∀ k, j ≤ k → k < n → M1.2.1 106 k = ((r / nT S ^ (n - 1 - k) % nT S : Nat) : Int)) → sf PT M M1 → ∃ M2, kb X d 302 (g + j) 8 [some (rv 59), some (iv (c : Int)), some (iv (n : Int)), none, some (iv ((r / nT S ^ (n - j) : Nat) : Int)), some (iv ((j : Int) - 1))] [] M1 = kb X d 302 g 8 [some (rv 59), some (iv (c : Int)), some (iv (n : Int)), none, some (iv ((r / nT S ^ n : Nat) : Int)), some (iv (-1))] [] M2 ∧ (∀ k, k < n → M2.2.1 106 k = ((r / nT S ^ (n - 1 - k) % nT S : Nat) : Int)) ∧ sf PT M M2 ∧ M2.2.2 = M1.2.2
  | 0, g, M1, hj, hd, hf => by
    refine ⟨M1, ?_, fun k hk => hd k (Nat.zero_le _) hk, hf, rfl⟩
    rw [Nat.sub_zero]
    rfl
  | j + 1, g, M1, hj, hd, hf => by
    have h59 : M1.2.1 59 2 = (nT S : Int) := ((hf.2 59 2 (by decide)).1).trans hS2
    have hq : r / nT S ^ (n - (j + 1)) < 10000 := Nat.lt_of_le_of_lt (Nat.div_le_self _ _) hr
    have ej : (((j + 1 : Nat) : Int) - 1) = (j : Int) := by omega
    have ew : wr ((j : Int) + (-1)) = (j : Int) - 1 := by
      rw [wri (by omega) (by omega)]
      omega
    have e1 : r / nT S ^ (n - (j + 1)) / nT S = r / nT S ^ (n - j) := by
      rw [Nat.div_div_eq_div_mul, show n - j = (n - (j + 1)) + 1 by omega, Nat.pow_succ]
    rw [show g + (j + 1) = (g + j) + 1 by omega, q_302_59_at8, ej, if_neg (by omega), h59, if_neg (by omega), gdx (by omega) (by omega), if_neg (by omega), Int.toNat_natCast, irm_nat (by omega) (by omega), idv_nat (by omega) (by omega), e1, ew]
    refine m_digits hT h8 hn hr hS2 j g _ (by omega) (fun k h1 h2 => ?_) (hf.pu (k := 106) (by simp [PT]) _)
    by_cases e : k = j
    · rw [e, puI_eq, show n - (j + 1) = n - 1 - j by omega]
    · rw [puI_nj e]
      exact hd k (by omega) h2
/-- a row that is gone through -/
def MR (S : SK) (b0 n r : Nat) (M : rM) : Prop := (∀ k, k < n → M.2.1 106 k = ((r / nT S ^ (n - 1 - k) % nT S : Nat) : Int)) ∧ ∀ k, k ≤ n → M.2.1 105 k = (en S b0 k (r / nT S ^ (n - k)) : Int)
theorem m_isMarked (hF : WF S) (hT : 0 < nT S) (hS : MS S M) {P : List WD} (hW : MWd 91 92 104 61 76 (nC S) W P K M) (hK : okK S K) (hb : W (3 + c) ≤ 63) (hc : c < nC S) (hn : 1 ≤ n ∧ n ≤ 4) {r : Nat} (hr : r < 10000) : ∃ M', fn X (d + 3) 302 [rv 59, iv (c : Int), iv (n : Int), iv (r : Int)] M = oI (b01 (vd S K c (W (3 + c)) n r)) M' ∧ MR S (W (3 + c)) n r M' ∧ sf PT M M' ∧ M'.2.2 = M.2.2 := by
  have h6 := hF.1
  have h8 := hF.2.1
  have hK8 := hK.1
  have ew : wr ((n : Int) - 1) = (n : Int) - 1 := wri (by omega) (by omega)
  have i3 : wr (3 + (c : Int)) = ((0 + (3 + c) : Nat) : Int) := by
    rw [wri (by omega) (by omega)]
    omega
  -- the marks
  have key : (∀ i, i < K.length → (K.getD i K00).1 = c → (K.getD i K00).2.1 ≤ n → (en S (W (3 + c)) (K.getD i K00).2.1 (r / nT S ^ (n - (K.getD i K00).2.1))).testBit (K.getD i K00).2.2.1 = ((K.getD i K00).2.2.2 == 1)) ↔ vd S K c (W (3 + c)) n r = true := by
    rw [vd_iff]
    constructor
    · intro h k k1 k2
      rw [okS_iff]
      intro i hi e1 e2
      have := h i hi e1 (by omega)
      rw [e2] at this
      exact this
    · intro h i hi e1 e2
      obtain ⟨a, b, e, f, g⟩ := hK.2 _ (getK_mem hi)
      exact okS_iff.1 (h _ b e2) i hi e1 rfl
  have marks : ∀ (g : Nat) (M1 : rM), MR S (W (3 + c)) n r M1 → sf PT M M1 → M1.2.2 = M.2.2 → 10 ≤ g → ∃ M', kb X (d + 2) 302 g 140 [some (rv 59), some (iv (c : Int)), some (iv (n : Int)), none, none, some (iv 0)] [] M1 = oI (b01 (vd S K c (W (3 + c)) n r)) M' ∧ MR S (W (3 + c)) n r M' ∧ sf PT M M' ∧ M'.2.2 = M.2.2 := by
    intro g M1 m1 m2 m3 hg
    have e104 : M1.2.1 104 = M.2.1 104 := by
      funext j
      exact (m2.2 104 j (by simp [PT])).1
    have e76 : M1.2.1 59 76 = (K.length : Int) := ((m2.2 59 76 (by decide)).1).trans hW.2.2.2.1
    refine loop_st (σ := Unit) (fun i _ => ∀ i', i' < i → (K.getD i' K00).1 = c → (K.getD i' K00).2.1 ≤ n → (en S (W (3 + c)) (K.getD i' K00).2.1 (r / nT S ^ (n - (K.getD i' K00).2.1))).testBit (K.getD i' K00).2.2.1 = ((K.getD i' K00).2.2.2 == 1)) (fun m i _ => kb X (d + 2) 302 m 140 [some (rv 59), some (iv (c : Int)), some (iv (n : Int)), none, none, some (iv (i : Int))] [] M1) (fun z => ∃ M', z = oI (b01 (vd S K c (W (3 + c)) n r)) M' ∧ MR S (W (3 + c)) n r M' ∧ sf PT M M' ∧ M'.2.2 = M.2.2) K.length ?_ ?_ K.length 0 g () (by omega) (by omega) (fun i' hi' => by omega)
    · intro m i _ hi hinv
      obtain ⟨a, b, e, f, g'⟩ := hK.2 _ (getK_mem hi)
      obtain ⟨k0, k1, k2, k3⟩ := hW.2.2.2.2 i hi
      have x0 : wr (4 * (i : Int)) = ((4 * i : Nat) : Int) := by
        rw [wri (by omega) (by omega)]
        omega
      have x1 : wr (((4 * i : Nat) : Int) + 1) = ((4 * i + 1 : Nat) : Int) := wr_succ (by omega)
      have x2 : wr (((4 * i : Nat) : Int) + 2) = ((4 * i + 2 : Nat) : Int) := by
        rw [wri (by omega) (by omega)]
        omega
      have x3 : wr (((4 * i : Nat) : Int) + 3) = ((4 * i + 3 : Nat) : Int) := by
        rw [wri (by omega) (by omega)]
        omega
      have go : ((K.getD i K00).1 = c → (K.getD i K00).2.1 ≤ n → (en S (W (3 + c)) (K.getD i K00).2.1 (r / nT S ^ (n - (K.getD i K00).2.1))).testBit (K.getD i K00).2.2.1 = ((K.getD i K00).2.2.2 == 1)) → ∀ i', i' < i + 1 → (K.getD i' K00).1 = c → (K.getD i' K00).2.1 ≤ n → (en S (W (3 + c)) (K.getD i' K00).2.1 (r / nT S ^ (n - (K.getD i' K00).2.1))).testBit (K.getD i' K00).2.2.1 = ((K.getD i' K00).2.2.2 == 1) := fun hx i' hi' => by
        by_cases ee : i' = i
        · subst ee
          exact hx
        · exact hinv i' (by omega)
      rw [q_302_59_at140, e76, if_pos (by omega), x0, gdx (by omega) (by omega), Int.toNat_natCast, e104, k0, x1, wr_succ (by omega)]
      by_cases c1 : (K.getD i K00).1 = c
      · rw [if_pos (by omega), gdx (by omega) (by omega), Int.toNat_natCast, k1]
        by_cases c2 : (K.getD i K00).2.1 ≤ n
        · have hbe := en_le hF hb hT (K.getD i K00).2.1 (r / nT S ^ (n - (K.getD i K00).2.1))
          rw [if_neg (by omega), gdx (by omega) (by omega), gdx (by omega) (by omega), x2, gdx (by omega) (by omega), x3, gdx (by omega) (by omega), Int.toNat_natCast, Int.toNat_natCast, Int.toNat_natCast, k2, k3, m1.2 _ c2, bit_test (by omega) (by omega)]
          by_cases c3 : (en S (W (3 + c)) (K.getD i K00).2.1 (r / nT S ^ (n - (K.getD i K00).2.1))).testBit (K.getD i K00).2.2.1 = ((K.getD i K00).2.2.2 == 1)
          · left
            refine ⟨(), ?_, go (fun _ _ => c3)⟩
            rw [if_pos]
            rw [c3]
            by_cases hx : (K.getD i K00).2.2.2 = 1
            · rw [hx]
              rfl
            · have hx0 : (K.getD i K00).2.2.2 = 0 := by omega
              rw [hx0]
              rfl
          · right
            have hv : vd S K c (W (3 + c)) n r = false := by
              cases hx : vd S K c (W (3 + c)) n r with
              | false => rfl
              | true => exact absurd (key.2 hx i hi c1 c2) c3
            rw [hv, if_neg]
            · exact ⟨M1, rfl, m1, m2, m3⟩
            · intro hx
              apply c3
              by_cases hx1 : (K.getD i K00).2.2.2 = 1
              · rw [hx1] at hx ⊢
                cases hy : (en S (W (3 + c)) (K.getD i K00).2.1 (r / nT S ^ (n - (K.getD i K00).2.1))).testBit (K.getD i K00).2.2.1 with
                | true => rfl
                | false =>
                  rw [hy] at hx
                  simp at hx
              · have hx0 : (K.getD i K00).2.2.2 = 0 := by omega
                rw [hx0] at hx ⊢
                cases hy : (en S (W (3 + c)) (K.getD i K00).2.1 (r / nT S ^ (n - (K.getD i K00).2.1))).testBit (K.getD i K00).2.2.1 with
                | false => rfl
                | true =>
                  rw [hy] at hx
                  simp at hx
        · left
          rw [if_pos (by omega)]
          exact ⟨(), rfl, go (fun _ q => absurd q c2)⟩
      · left
        rw [if_neg (by omega)]
        exact ⟨(), rfl, go (fun q => absurd q c1)⟩
    · intro m _ hinv
      rw [q_302_59_at140, e76, if_neg (by omega), key.1 hinv]
      exact ⟨M1, rfl, m1, m2, m3⟩
  obtain ⟨f1, hf1⟩ : ∃ q, FU = (q + 20) + n := ⟨FU - 20 - n, by have := FU_ge; omega⟩
  obtain ⟨M1, g1, g2, g3, g4⟩ := m_digits (X := X) (d := d + 2) (c := c) hT h8 hn.2 hr hS.2.1 n (f1 + 20) M (Nat.le_refl _) (fun k h1 h2 => by omega) sf.rf
  rw [Nat.sub_self, Nat.pow_zero, Nat.div_one] at g1
  have hS1 := hS.sf g3 eM_T
  have hW1 : M1.2.1 91 (0 + (3 + c)) = (W (3 + c) : Int) := ((g3.2 91 (0 + (3 + c)) (by simp [PT])).1).trans (hW.1.b0 hc h6)
  have e0 : r / nT S ^ n / 1 = r / nT S ^ n := Nat.div_one _
  rw [q_302_59, ew, hf1, g1, show f1 + 20 = (f1 + 19) + 1 by omega, q_302_59_at8, if_pos (by omega), i3, gdx (by omega) (by omega), Int.toNat_natCast, hW1]
  refine loop_st (σ := rM) (fun i M2 => (∀ k, k < n → M2.2.1 106 k = ((r / nT S ^ (n - 1 - k) % nT S : Nat) : Int)) ∧ (∀ k, k ≤ i → M2.2.1 105 k = (en S (W (3 + c)) k (r / nT S ^ (n - k)) : Int)) ∧ sf PT M M2 ∧ M2.2.2 = M.2.2) (fun m i M2 => kb X (d + 2) 302 (m + (f1 + 14)) 59 [some (rv 59), some (iv (c : Int)), some (iv (n : Int)), none, none, some (iv ((i + 1 : Nat) : Int))] [] M2) (fun z => ∃ M', z = oI (b01 (vd S K c (W (3 + c)) n r)) M' ∧ MR S (W (3 + c)) n r M' ∧ sf PT M M' ∧ M'.2.2 = M.2.2) n ?_ ?_ n 0 5 (puI M1 105 0 (W (3 + c) : Int)) (by omega) (by omega) ⟨fun k hk => by rw [puI_ne (by omega)]; exact g2 k hk, fun k hk => ?_, g3.pu (k := 105) (by simp [PT]) _, g4⟩ |> fun z => by
    rw [show 5 + (f1 + 14) = f1 + 19 by omega] at z
    exact z
  · rintro m i M2 hi ⟨i1, i2, i3', i4⟩
    left
    have hS2 := hS.sf i3' eM_T
    have ei : wr (((i + 1 : Nat) : Int) - 1) = (i : Int) := by
      rw [wri (by omega) (by omega)]
      omega
    have hbe := en_le hF hb hT i (r / nT S ^ (n - i))
    have hdg : r / nT S ^ (n - 1 - i) % nT S < nT S := Nat.mod_lt _ hT
    have e1 : r / nT S ^ (n - (i + 1)) / nT S = r / nT S ^ (n - i) := by
      rw [Nat.div_div_eq_div_mul, show n - i = (n - (i + 1)) + 1 by omega, Nat.pow_succ]
    have e2 : en S (W (3 + c)) (i + 1) (r / nT S ^ (n - (i + 1))) = bt S (r / nT S ^ (n - 1 - i) % nT S) (en S (W (3 + c)) i (r / nT S ^ (n - i))) := by
      show bt S (r / nT S ^ (n - (i + 1)) % nT S) (en S (W (3 + c)) i (r / nT S ^ (n - (i + 1)) / nT S)) = _
      rw [e1, show n - (i + 1) = n - 1 - i by omega]
    have fin : ∀ v : Int, v = (en S (W (3 + c)) (i + 1) (r / nT S ^ (n - (i + 1))) : Int) → ∃ s', kb X (d + 2) 302 (m + (f1 + 14)) 59 [some (rv 59), some (iv (c : Int)), some (iv (n : Int)), none, none, some (iv ((i + 1 + 1 : Nat) : Int))] [] (puI M2 105 (i + 1) v) = kb X (d + 2) 302 (m + (f1 + 14)) 59 [some (rv 59), some (iv (c : Int)), some (iv (n : Int)), none, none, some (iv ((i + 1 + 1 : Nat) : Int))] [] s' ∧ (∀ k, k < n → s'.2.1 106 k = ((r / nT S ^ (n - 1 - k) % nT S : Nat) : Int)) ∧ (∀ k, k ≤ i + 1 → s'.2.1 105 k = (en S (W (3 + c)) k (r / nT S ^ (n - k)) : Int)) ∧ sf PT M s' ∧ s'.2.2 = M.2.2 := by
      intro v hv
      refine ⟨_, rfl, fun k hk => by rw [puI_ne (by omega)]; exact i1 k hk, fun k hk => ?_, i3'.pu (k := 105) (by simp [PT]) _, i4⟩
      by_cases e : k = i + 1
      · rw [e, puI_eq, hv]
      · rw [puI_nj e]
        exact i2 k (by omega)
    rw [show m + 1 + (f1 + 14) = (m + (f1 + 14)) + 1 by omega, q_302_59_at59, if_neg (by omega), ei]
    simp only [gdx (i := (i : Int)) (n := 4) (by omega) (by omega), gdx (i := (i : Int)) (n := 5) (by omega) (by omega), gdx (i := ((i + 1 : Nat) : Int)) (n := 5) (by omega) (by omega), Int.toNat_natCast]
    rw [i1 i hi, i2 i (Nat.le_refl _), m_works hS2 hF hdg hbe, cI_I, wr_succ (by omega)]
    by_cases hw : wk S (r / nT S ^ (n - 1 - i) % nT S) (en S (W (3 + c)) i (r / nT S ^ (n - i))) = true
    · rw [if_neg (by rw [b01_0, hw]; simp), i1 i hi, i2 i (Nat.le_refl _), m_bb hS2 hF hdg hbe, cI_I]
      refine fin _ ?_
      rw [e2]
      unfold bt
      rw [if_pos hw]
    · rw [if_pos (by rw [b01_0]; simpa using hw), i2 i (Nat.le_refl _)]
      refine fin _ ?_
      rw [e2]
      unfold bt
      rw [if_neg hw]
  · rintro m M2 ⟨i1, i2, i3', i4⟩
    rw [show m + 1 + (f1 + 14) = (m + (f1 + 14)) + 1 by omega, q_302_59_at59, if_pos (by omega)]
    exact marks _ M2 ⟨i1, i2⟩ i3' i4 (by omega)
  · have : k = 0 := by omega
    subst this
    rw [puI_eq]
    rfl
theorem m_rowN (hT : 0 < nT S) (h8 : nT S ≤ 8) (hn : n ≤ 4) {r : Nat} (hd : ∀ k, k < n → M.2.1 106 k = ((r / nT S ^ (n - 1 - k) % nT S : Nat) : Int)) : fn X (d + 1) 303 [rv 59, iv (n : Int)] M = oI (nm S n r : Int) M := by
  rw [q_303_59]
  have main := loop_up (P := fun m k => kb X d 303 m 4 [some (rv 59), some (iv (n : Int)), some (iv (nm S k (r / nT S ^ (n - k)) : Int)), some (iv (k : Int))] [] M) (R := oI (nm S n r : Int) M) n ?_ ?_ n 0 FU (by omega) (FU_lt (by omega))
  · exact main
  · intro m k hk
    left
    have hl := nm_le hT h8 k (r / nT S ^ (n - k))
    have hp : 10 ^ k ≤ 10 ^ 4 := Nat.pow_le_pow_right (by omega) (by omega)
    have hp4 : (10 : Nat) ^ 4 = 10000 := by decide
    have hdg : r / nT S ^ (n - 1 - k) % nT S < nT S := Nat.mod_lt _ hT
    have e1 : r / nT S ^ (n - (k + 1)) / nT S = r / nT S ^ (n - k) := by
      rw [Nat.div_div_eq_div_mul, show n - k = (n - (k + 1)) + 1 by omega, Nat.pow_succ]
    have e2 : nm S (k + 1) (r / nT S ^ (n - (k + 1))) = 10 * nm S k (r / nT S ^ (n - k)) + r / nT S ^ (n - 1 - k) % nT S := by
      show 10 * nm S k (r / nT S ^ (n - (k + 1)) / nT S) + r / nT S ^ (n - (k + 1)) % nT S = _
      rw [e1, show n - (k + 1) = n - 1 - k by omega]
    rw [q_303_59_at4, if_pos (by omega), gdx (by omega) (by omega), Int.toNat_natCast, hd k hk, wr_succ (by omega), wri (x := 10 * _) (by omega) (by omega), wri (by omega) (by omega), e2]
    rfl
  · intro m
    rw [q_303_59_at4, if_neg (by omega), Nat.sub_self, Nat.pow_zero, Nat.div_one]
theorem m_tries4 (h : M.2.1 59 0 = 0) (t : Int) : fn X (d + 2) 304 [rv 59, iv t] M = if 1 ≤ t ∧ t ≤ 4 then oI 1 M else oI 0 (puI M 59 0 2) := by
  rw [q_304_59, m_within, cI_I]
  by_cases h1 : 1 ≤ t ∧ t ≤ 4
  · rw [if_pos h1, if_pos h1, m_right1 h, cI_I, gdp (Or.inr rfl)]
  · rw [if_neg h1, if_neg h1, m_right0 h (by omega), cI_I, gdp (Or.inl rfl)]
def fI (S : SK) (n : Nat) (o : Option Nat) : Int := match o with
  | none => -1
  | some q => (nm S n q : Int)
theorem fI_ne (hT : 0 < nT S) {q : Nat} : fI S n (some q) ≠ -1 := by
  show ((nm S n q : Nat) : Int) ≠ -1
  omega
theorem m_how (hA : OKA A) (h : MH A M) (a t w : Int) : mOut A (howK A a t w) (if howK A a t w = 0 then howV A a t w else 0) M (fn X (d + 5) 305 [rv 59, iv a, iv t, iv w] M) := by
  have hF := hA.1
  have h8 := hF.2.1
  obtain ⟨h0, z0, k0⟩ := m_0 h
  rw [q_305_59]
  generalize puI M 59 0 0 = M0 at *
  rw [m_cre h0.1 z0]
  by_cases h1 : 0 ≤ a ∧ a < (nC (aS A) : Int)
  · rw [if_pos h1, cI_I, if_neg n10, m_what z0]
    by_cases h2 : 0 ≤ w ∧ w ≤ 1
    · rw [if_pos h2, cI_I, if_neg n10, m_tries4 z0]
      by_cases h3 : 1 ≤ t ∧ t ≤ 4
      · rw [if_pos h3, cI_I, if_neg n10]
        simp only [(how_in (A := A) h1 h2).1 h3]
        rw [if_pos True.intro]
        obtain ⟨c, hc, rfl⟩ := nat_of h1
        obtain ⟨n, hn, rfl⟩ := nat_le (a := t) (n := 4) ⟨by omega, h3.2⟩
        have hb := (hA.2.2.1.1.2.2 c hc).1
        have hp8 := pow8 (S := aS A) hF hn
        unfold howV
        rw [Int.toNat_natCast, Int.toNat_natCast]
        refine loop_st (σ := rM) (fun r M2 => sf PT M0 M2) (fun m r M2 => kb X (d + 4) 305 m 41 [some (rv 59), some (iv (c : Int)), some (iv (n : Int)), some (iv w), some (iv (cntR (fun r => vd (aS A) (aK A) c (aW A (3 + c)) n r) r : Int)), some (iv (fI (aS A) n (fstT (fun r => vd (aS A) (aK A) c (aW A (3 + c)) n r) r))), some (iv (r : Int))] [] M2) (fun z => mOut A 0 (if w = 0 then (wn (aS A) (aK A) c n 0 (aW A (3 + c)) : Int) else frsV (aS A) (aK A) c (aW A (3 + c)) n) M z) (nT (aS A) ^ n) ?_ ?_ (nT (aS A) ^ n) 0 FU M0 (by omega) (FU_lt (by omega)) sf.rf
        · rintro m r M2 hr i2
          left
          have hm2 : MH A M2 := h0.sf i2 eM_T
          have hT : 0 < nT (aS A) := by
            apply Classical.byContradiction
            intro hx
            have : nT (aS A) = 0 := by omega
            rw [this, Nat.zero_pow (by omega)] at hr
            omega
          obtain ⟨M3, g1, g2, g3, -⟩ := m_isMarked (X := X) (d := d + 1) hF hT hm2.1 hm2.2.1 hA.2.2.2.2.1 hb hc ⟨by omega, hn⟩ (r := r) (by omega)
          have hcl := cntR_le (fun r => vd (aS A) (aK A) c (aW A (3 + c)) n r) r
          have ec : cntR (fun r => vd (aS A) (aK A) c (aW A (3 + c)) n r) (r + 1) = cntR (fun r => vd (aS A) (aK A) c (aW A (3 + c)) n r) r + (if vd (aS A) (aK A) c (aW A (3 + c)) n r = true then 1 else 0) := rfl
          have ef : fstT (fun r => vd (aS A) (aK A) c (aW A (3 + c)) n r) (r + 1) = (match fstT (fun r => vd (aS A) (aK A) c (aW A (3 + c)) n r) r with
            | some t => some t
            | none => if vd (aS A) (aK A) c (aW A (3 + c)) n r = true then some r else none) := rfl
          rw [q_305_59_at41, hm2.1.2.1, m_power hF hn, cI_I, if_pos (by omega), g1, cI_I, wr_succ (by omega), ec, ef]
          refine ⟨M3, ?_, i2.tr g3⟩
          cases hv : vd (aS A) (aK A) c (aW A (3 + c)) n r with
          | false =>
            rw [if_pos (show b01 false = 0 from rfl), if_neg (show ¬ false = true by simp), if_neg (show ¬ false = true by simp)]
            cases fstT (fun r => vd (aS A) (aK A) c (aW A (3 + c)) n r) r <;> rfl
          | true =>
            rw [if_neg (show ¬ b01 true = 0 by decide), if_pos (show true = true from rfl), wr_succ (by omega), if_pos (show true = true from rfl)]
            cases hq : fstT (fun r => vd (aS A) (aK A) c (aW A (3 + c)) n r) r with
            | none =>
              rw [if_pos (show fI (aS A) n none = -1 from rfl), m_rowN hT h8 hn g2.1, cI_I]
              rfl
            | some q =>
              rw [if_neg (fI_ne hT)]
        · rintro m M2 i2
          have hm2 : MH A M2 := h0.sf i2 eM_T
          rw [q_305_59_at41, hm2.1.2.1, m_power hF hn, cI_I, if_neg (show ¬ ((nT (aS A) ^ n : Nat) : Int) < ((nT (aS A) ^ n : Nat) : Int) by omega)]
          have z2 : M2.2.1 59 0 = ((0 : Nat) : Int) := ((i2.2 59 0 (by decide)).1).trans z0
          have fin : ∀ v : Int, mOut A 0 v M (oI v M2) := fun v => ⟨M2, rfl, z2, hm2, k0.tr (kM_T i2)⟩
          have e1 : (cntR (fun r => vd (aS A) (aK A) c (aW A (3 + c)) n r) (nT (aS A) ^ n)) = wn (aS A) (aK A) c n 0 (aW A (3 + c)) := by
            by_cases hT : 0 < nT (aS A)
            · exact cnt_all hT n
            · have h00 : nT (aS A) = 0 := by omega
              obtain ⟨k, rfl⟩ : ∃ k, n = k + 1 := ⟨n - 1, by omega⟩
              rw [h00, Nat.zero_pow (by omega)]
              unfold wn
              rw [h00]
              rfl
          have e2 : fI (aS A) n (fstT (fun r => vd (aS A) (aK A) c (aW A (3 + c)) n r) (nT (aS A) ^ n)) = frsV (aS A) (aK A) c (aW A (3 + c)) n := by
            unfold frsV
            by_cases hw0 : wn (aS A) (aK A) c n 0 (aW A (3 + c)) = 0
            · rw [if_pos hw0]
              by_cases hT : 0 < nT (aS A)
              · rw [fst_none hT n hw0]
                rfl
              · have h00 : nT (aS A) = 0 := by omega
                rw [h00, Nat.zero_pow (by omega)]
                rfl
            · rw [if_neg hw0]
              have hT : 0 < nT (aS A) := by
                apply Classical.byContradiction
                intro hx
                apply hw0
                have h00 : nT (aS A) = 0 := by omega
                obtain ⟨k, rfl⟩ : ∃ k, n = k + 1 := ⟨n - 1, by omega⟩
                unfold wn
                rw [h00]
                rfl
              rw [fst_gk hT n (by omega)]
              rfl
          by_cases hw0 : w = 0
          · rw [if_pos hw0, if_pos hw0, e1]
            exact fin _
          · rw [if_neg hw0, if_neg hw0, e2]
            exact fin _
      · rw [if_neg h3, cI_I, if_pos (show (0 : Int) = 0 from rfl)]
        simp only [(how_in (A := A) h1 h2).2 h3]
        exact ⟨_, rfl, puI_eq _ _ _ _, h0.p0 2, k0.pu (by omega) _ _⟩
    · rw [if_neg h2, cI_I, if_pos (show (0 : Int) = 0 from rfl)]
      simp only [how_out (A := A) (t := t) (fun z => h2 z.2 : ¬ ((0 ≤ a ∧ a < (nC (aS A) : Int)) ∧ 0 ≤ w ∧ w ≤ 1))]
      exact ⟨_, rfl, puI_eq _ _ _ _, h0.p0 1, k0.pu (by omega) _ _⟩
  · rw [if_neg h1, cI_I, if_pos (show (0 : Int) = 0 from rfl)]
    simp only [how_out (A := A) (t := t) (fun z => h1 z.1 : ¬ ((0 ≤ a ∧ a < (nC (aS A) : Int)) ∧ 0 ≤ w ∧ w ≤ 1))]
    exact ⟨_, rfl, puI_eq _ _ _ _, h0.p0 1, k0.pu (by omega) _ _⟩
end C82
