/-! ===== useless, firm ===== -/
def orR : List Nat → Nat
  | [] => 0
  | b :: r => orR r ||| b
def laR : List Nat → Nat
  | [] => 0
  | b :: r => laR r ||| (63 ^^^ (63 &&& b))
theorem orR_bit (i : Nat) : ∀ R : List Nat, (orR R).testBit i = R.any (fun b => b.testBit i)
  | [] => by simp [orR]
  | b :: r => by
    unfold orR
    rw [Nat.testBit_or, orR_bit i r, List.any_cons, Bool.or_comm]
theorem bit63 : ∀ i, (63 : Nat).testBit i = decide (i < 6) := by
  intro i
  have := Nat.testBit_two_pow_sub_one 6 i
  exact this
theorem not63 (b i : Nat) : (63 ^^^ (63 &&& b)).testBit i = (decide (i < 6) && !b.testBit i) := by
  rw [Nat.testBit_xor, Nat.testBit_and, bit63]
  cases decide (i < 6) <;> cases b.testBit i <;> rfl
theorem laR_bit (i : Nat) : ∀ R : List Nat, (laR R).testBit i = (decide (i < 6) && R.any (fun b => !b.testBit i))
  | [] => by simp [laR]
  | b :: r => by
    unfold laR
    rw [Nat.testBit_or, laR_bit i r, List.any_cons, not63]
    cases decide (i < 6) <;> cases b.testBit i <;> simp
theorem orR_le : ∀ R : List Nat, (∀ b ∈ R, b ≤ 63) → orR R < 64
  | [], _ => by unfold orR; omega
  | b :: r, h => by
    unfold orR
    have h1 := orR_le r (fun x hx => h x (List.mem_cons_of_mem _ hx))
    have h2 := h b (List.mem_cons_self ..)
    exact Nat.or_lt_two_pow (n := 6) h1 (by omega)
theorem laR_le : ∀ R : List Nat, laR R < 64
  | [] => by unfold laR; omega
  | b :: r => by
    unfold laR
    exact Nat.or_lt_two_pow (n := 6) (laR_le r) (Nat.xor_lt_two_pow (n := 6) (by omega) (Nat.lt_of_le_of_lt Nat.and_le_left (by omega)))
section C70
variable {X : Nat × (Nat → Int32)} {d n : Nat} {M M1 M2 M' : rM} {A A' : AS} {S : SK} {W V : WD} {cr wa h : Nat} {s : BS} {Q : List QE}
def ME (s : BS) (M : rM) : Prop := MQu s.1 M ∧ M.2.1 59 82 = (s.2.2.1 : Int) ∧ M.2.1 59 83 = (orR s.2.2.2 : Int) ∧ M.2.1 59 84 = (laR s.2.2.2 : Int)
theorem m_expT (hS : MS S M) (hF : WF S) (hR : WR S) (hW : MW 91 0 (nC S) W M) (hcr : cr < nC S) (hh : h ≤ 1000) (hI : BI s) {k : Nat} (hk : k < s.1.length) : ∀ (j t g : Nat) (M1 : rM), t + j = nT S → ME (stT S cr (W (9 + cr)) h k t s) M1 → sf PB M M1 →
    ∃ M2, kb X (d + 4) 314 (g + j + 1) 71 [some (rv 59), some (iv (cr : Int)), some (iv (h : Int)), some (iv (k : Int)), some (iv (pl (qa s.1 k) : Int)), some (iv (t : Int)), none, none] [] M1 = kb X (d + 4) 314 g 52 [some (rv 59), some (iv (cr : Int)), some (iv (h : Int)), some (iv ((k + 1 : Nat) : Int)), none, none, none, none] [] M2 ∧ ME (stT S cr (W (9 + cr)) h k (nT S) s) M2 ∧ sf PB M M2
  | 0, t, g, M1, ht, hq, hf => by
    have hS1 := hS.sf hf eM_B
    have hle := hI.1.le
    have : t = nT S := by omega
    subst this
    rw [show g + 0 + 1 = g + 1 from rfl, q_314_59_at71, hS1.2.1, if_neg (by omega), wr_succ (by omega)]
    exact ⟨M1, rfl, hq, hf⟩
  | j + 1, t, g, M1, ht, hq, hf => by
    have h6 := hF.1
    have h8 := hF.2.1
    have hS1 := hS.sf hf eM_B
    have hW1 := hW.sf hf eM_B
    have htl : t < nT S := by omega
    obtain ⟨q1, q2, q3⟩ := hI.1.1 k hk
    obtain ⟨ed, em⟩ := pl_dm (qa s.1 k) q1 q2
    have hI1 : BI (stT S cr (W (9 + cr)) h k t s) := stT_BI hF hI hk t (by omega)
    have hx := stT_ext (S := S) (cr := cr) (wa := W (9 + cr)) (h := h) (k := k) (s := s) t
    have hk1 : k < (stT S cr (W (9 + cr)) h k t s).1.length := Nat.lt_of_lt_of_le hk hx.1
    have hqa := hx.2 k hk
    have es : stT S cr (W (9 + cr)) h k (t + 1) s = st1 S cr (W (9 + cr)) h k t (stT S cr (W (9 + cr)) h k t s) := rfl
    have ih := m_expT hS hF hR hW hcr hh hI hk j (t + 1) g
    rw [es] at ih
    have i9 : wr (9 + (cr : Int)) = ((0 + (9 + cr) : Nat) : Int) := by
      rw [wri (by omega) (by omega)]
      omega
    rw [show g + (j + 1) + 1 = (g + j + 1) + 1 by omega, q_314_59_at71, hS1.2.1, if_pos (by omega), ed, em, m_works hS1 hF htl q1, cI_I, wr_succ (by omega)]
    generalize stT S cr (W (9 + cr)) h k t s = s1 at *
    unfold st1 at ih
    rw [hqa] at ih
    generalize he : qa s.1 k = e at *
    by_cases hw : wk S t e.1 = true
    · rw [if_pos hw] at ih
      have hb := bb_le hF htl q1
      have hcb := cb_le (S := S) (t := t) (h := h) q2
      obtain ⟨m0, m1, m2, m3⟩ := hq
      have w8 := hI1.2.1
      have o8 := orR_le _ hI1.2.2.1
      have l8 := laR_le s1.2.2.2
      have x8 : (63 ^^^ (63 &&& bb S t e.1)) < 64 := Nat.xor_lt_two_pow (n := 6) (by omega) (Nat.lt_of_le_of_lt Nat.and_le_left (by omega))
      have e63 : iand 63 (ixor (bb S t e.1 : Int) (-1)) = ((63 ^^^ (63 &&& bb S t e.1) : Nat) : Int) := iand_not (a := 63) (by omega) (by omega)
      rw [if_neg (by rw [b01_0, hw]; simp), m_bb hS1 hF htl q1, cI_I, m_cb hS1 hF htl q2 hh, cI_I, i9, gdx (by omega) (by omega), Int.toNat_natCast, hW1.b1 hcr h6, m1, m2, m3, set_or (by omega) (by omega), ior_nat (by omega) (by omega), e63, ior_nat (by omega) (by omega)]
      have f3 : sf PB M (puI (puI (puI M1 59 82 ((s1.2.2.1 ||| 2 ^ t : Nat) : Int)) 59 83 ((orR s1.2.2.2 ||| bb S t e.1 : Nat) : Int)) 59 84 ((laR s1.2.2.2 ||| (63 ^^^ (63 &&& bb S t e.1)) : Nat) : Int)) := ((hf.pu (by decide) _).pu (by decide) _).pu (by decide) _
      have hq3 : MQu s1.1 (puI (puI (puI M1 59 82 ((s1.2.2.1 ||| 2 ^ t : Nat) : Int)) 59 83 ((orR s1.2.2.2 ||| bb S t e.1 : Nat) : Int)) 59 84 ((laR s1.2.2.2 ||| (63 ^^^ (63 &&& bb S t e.1)) : Nat) : Int)) := m0.fr (by rw [puI_nj (by omega), puI_nj (by omega), puI_nj (by omega)]) (fun a z1 z2 _ _ => by rw [puI_k (by omega), puI_k (by omega), puI_k (by omega)])
      have c82 : (puI (puI (puI M1 59 82 ((s1.2.2.1 ||| 2 ^ t : Nat) : Int)) 59 83 ((orR s1.2.2.2 ||| bb S t e.1 : Nat) : Int)) 59 84 ((laR s1.2.2.2 ||| (63 ^^^ (63 &&& bb S t e.1)) : Nat) : Int)).2.1 59 82 = ((s1.2.2.1 ||| 2 ^ t : Nat) : Int) := by rw [puI_nj (by omega), puI_nj (by omega), puI_eq]
      have c83 : (puI (puI (puI M1 59 82 ((s1.2.2.1 ||| 2 ^ t : Nat) : Int)) 59 83 ((orR s1.2.2.2 ||| bb S t e.1 : Nat) : Int)) 59 84 ((laR s1.2.2.2 ||| (63 ^^^ (63 &&& bb S t e.1)) : Nat) : Int)).2.1 59 83 = ((orR s1.2.2.2 ||| bb S t e.1 : Nat) : Int) := by rw [puI_nj (by omega), puI_eq]
      have c84 : (puI (puI (puI M1 59 82 ((s1.2.2.1 ||| 2 ^ t : Nat) : Int)) 59 83 ((orR s1.2.2.2 ||| bb S t e.1 : Nat) : Int)) 59 84 ((laR s1.2.2.2 ||| (63 ^^^ (63 &&& bb S t e.1)) : Nat) : Int)).2.1 59 84 = ((laR s1.2.2.2 ||| (63 ^^^ (63 &&& bb S t e.1)) : Nat) : Int) := puI_eq _ _ _ _
      generalize puI (puI (puI M1 59 82 ((s1.2.2.1 ||| 2 ^ t : Nat) : Int)) 59 83 ((orR s1.2.2.2 ||| bb S t e.1 : Nat) : Int)) 59 84 ((laR s1.2.2.2 ||| (63 ^^^ (63 &&& bb S t e.1)) : Nat) : Int) = M3 at *
      obtain ⟨M4, k1, k2⟩ := m_bound (X := X) (d := d + 1) (hS.sf f3 eM_B) hF hR (c := cr) (wary := W (9 + cr)) (b := bb S t e.1) (cord := cb S t e.2.1 h) (h := h) hcr hb
      have f4 := f3.tr (k2.mo PB_P)
      have hq4 : MQu s1.1 M4 := hq3.fr ((k2.2 59 71 (by decide)).1) (fun a z1 z2 _ _ => by
        funext b
        exact (k2.2 a b (by simp [P9394]; omega)).1)
      have d82 := ((k2.2 59 82 (by decide)).1).trans c82
      have d83 := ((k2.2 59 83 (by decide)).1).trans c83
      have d84 := ((k2.2 59 84 (by decide)).1).trans c84
      rw [k1, cI_I]
      by_cases hd : bd S cr (W (9 + cr)) (bb S t e.1) (cb S t e.2.1 h) h = true
      · rw [if_pos hd] at ih
        rw [if_neg (by rw [b01_0, hd]; simp)]
        exact ih M4 (by omega) ⟨hq4, d82, d83, d84⟩ f4
      · rw [if_neg hd] at ih
        obtain ⟨M5, l1, l2, l3, l4⟩ : ∃ M', fn X (d + 4) 275 [rv 59, iv ((61 * bb S t e.1 + cb S t e.2.1 h : Nat) : Int), iv (pl e : Int), iv (t : Int)] M4 = oV M' ∧ MQu (vis s1.1 (bb S t e.1) (cb S t e.2.1 h) (e.2.2 ++ [t])) M' ∧ sf PB M4 M' ∧ ∀ j, 82 ≤ j → j ≤ 84 → M'.2.1 59 j = M4.2.1 59 j := by
          obtain ⟨M5, l1, l2, l3⟩ := m_comes (X := X) (d := d + 3) hI1.1 hq4 hb hcb hk1 (t := t) (by omega)
          rw [hqa] at l1 l2
          refine ⟨M5, l1, l2, l3, fun j z1 z2 => ?_⟩
          have hpk : pl e < 3904 := by
            unfold pl
            omega
          have hle1 := hI1.1.le
          rw [q_275_59, gdx (by omega) (by omega), Int.toNat_natCast, hq4.2.2 _ _ hb hcb] at l1
          cases hx : hasQ s1.1 (bb S t e.1) (cb S t e.2.1 h) with
          | true =>
            rw [hx, if_neg (by simp [b01])] at l1
            injection l1 with l1
            injection l1 with _ l1
            rw [← l1]
          | false =>
            have hlt := hI1.1.lt hb hcb hx
            rw [hx, if_pos (show b01 false = 0 from rfl), hq4.1, gdx (by omega) (by omega), gdx (by omega) (by omega), gdx (by omega) (by omega), gdx (by omega) (by omega), if_neg (by omega), gdx (by omega) (by omega), gdx (by omega) (by omega)] at l1
            injection l1 with l1
            injection l1 with _ l1
            rw [← l1, puI_nj (by omega), puI_ne (by omega), puI_ne (by omega), puI_ne (by omega), puI_ne (by omega), puI_ne (by omega)]
        rw [if_pos (by rw [b01_0]; simpa using hd), m_place _ _ hb hcb, cI_I, l1, cV_V]
        exact ih M5 (by omega) ⟨l2, (l4 82 (by omega) (by omega)).trans d82, (l4 83 (by omega) (by omega)).trans d83, (l4 84 (by omega) (by omega)).trans d84⟩ (f4.tr l3)
    · rw [if_neg hw] at ih
      rw [if_pos (by rw [b01_0]; simpa using hw)]
      exact ih M1 (by omega) hq hf
theorem m_explores (hA : OKA A) (h : MH A M) {c : Nat} (hc : c < nC (aS A)) : ∃ M', fn X (d + 5) 314 [rv 59, iv (c : Int)] M = oV M' ∧ ME (spA A c) M' ∧ sf PB M M' := by
  obtain ⟨hF, hR, hV, -⟩ := hA
  have h6 := hF.1
  obtain ⟨vb, -, vc, -⟩ := hV.1.2.2 c hc
  have hh := helpW_le (W := aW A) hF
  have h8 := hF.2.1
  obtain ⟨M1, a1, a2, a3⟩ := m_starts (X := X) (d := d + 2) hF hV.1 h.W hc
  have th := m_those (X := X) (d := d + 3) h.1 hF (off := 0) (by omega) h.W 1
  have th : fn X (d + 4) 252 [rv 59, iv 0, iv 1] M = _ := th
  have i3 : wr (3 + (c : Int)) = ((0 + (3 + c) : Nat) : Int) := by
    rw [wri (by omega) (by omega)]
    omega
  have e63 : iand 63 (ixor (aW A (3 + c) : Int) (-1)) = ((63 ^^^ (63 &&& aW A (3 + c)) : Nat) : Int) := iand_not (a := 63) (by omega) (by omega)
  have hW1 := h.W.sf a3 eM_B
  rw [q_314_59, th, cI_I, m_help h.1 hF, cI_I, a1, cV_V, i3, gdx (by omega) (by omega), gdx (by omega) (by omega), Int.toNat_natCast, hW1.b0 hc h6, e63]
  have f3 : sf PB M (puI (puI (puI M1 59 82 0) 59 83 (aW A (3 + c) : Int)) 59 84 ((63 ^^^ (63 &&& aW A (3 + c)) : Nat) : Int)) := ((a3.pu (by decide) _).pu (by decide) _).pu (by decide) _
  have hq3 : ME (stH (aS A) c (aW A (9 + c)) (helpW (aS A) (aW A)) (aW A (3 + c)) (aW A (15 + c)) 0) (puI (puI (puI M1 59 82 0) 59 83 (aW A (3 + c) : Int)) 59 84 ((63 ^^^ (63 &&& aW A (3 + c)) : Nat) : Int)) := by
    refine ⟨a2.fr (by rw [puI_nj (by omega), puI_nj (by omega), puI_nj (by omega)]) (fun a z1 z2 _ _ => by rw [puI_k (by omega), puI_k (by omega), puI_k (by omega)]), ?_, ?_, ?_⟩
    · rw [puI_nj (by omega), puI_nj (by omega), puI_eq]
      rfl
    · rw [puI_nj (by omega), puI_eq]
      unfold stH orR orR
      rw [Nat.zero_or]
    · rw [puI_eq]
      unfold stH laR laR
      rw [Nat.zero_or]
  generalize puI (puI (puI M1 59 82 0) 59 83 (aW A (3 + c) : Int)) 59 84 ((63 ^^^ (63 &&& aW A (3 + c)) : Nat) : Int) = M3 at *
  unfold spA
  refine loop_st (σ := rM) (fun k M2 => ME (stH (aS A) c (aW A (9 + c)) (helpW (aS A) (aW A)) (aW A (3 + c)) (aW A (15 + c)) k) M2 ∧ sf PB M M2) (fun m k M2 => kb X (d + 4) 314 (m * (nT (aS A) + 2) + (FU - 3905 * (nT (aS A) + 2))) 52 [some (rv 59), some (iv (c : Int)), some (iv (helpW (aS A) (aW A) : Int)), some (iv (k : Int)), none, none, none, none] [] M2) (fun z => ∃ M', z = oV M' ∧ ME (stF (aS A) c (aW A (9 + c)) (helpW (aS A) (aW A)) (aW A (3 + c)) (aW A (15 + c))) M' ∧ sf PB M M') 3904 ?_ ?_ 3904 0 3905 M3 (by omega) (by omega) ⟨hq3, f3⟩ |> fun z => by
    have e : 3905 * (nT (aS A) + 2) + (FU - 3905 * (nT (aS A) + 2)) = FU := by
      have := FU_ge
      have h2 : 3905 * (nT (aS A) + 2) ≤ 3905 * 10 := Nat.mul_le_mul_left _ (by omega)
      omega
    rw [e] at z
    exact z
  · rintro m k M2 hk ⟨i1, i2⟩
    have hB := stH_BI (S := aS A) (cr := c) (wa := aW A (9 + c)) (h := helpW (aS A) (aW A)) hF vb vc k
    have ef : (m + 1) * (nT (aS A) + 2) + (FU - 3905 * (nT (aS A) + 2)) = ((m * (nT (aS A) + 2) + (FU - 3905 * (nT (aS A) + 2))) + nT (aS A) + 1) + 1 := by
      rw [Nat.add_mul]
      omega
    rw [ef, q_314_59_at52, i1.1.1]
    by_cases hl : k < (stH (aS A) c (aW A (9 + c)) (helpW (aS A) (aW A)) (aW A (3 + c)) (aW A (15 + c)) k).1.length
    · left
      rw [if_pos (by omega), gdx (by omega) (by omega), Int.toNat_natCast, (i1.1.2.1 k hl).1]
      obtain ⟨M4, g1, g2, g3⟩ := m_expT (X := X) (d := d) (h := helpW (aS A) (aW A)) h.1 hF hR h.W hc (by omega) hB hl (nT (aS A)) 0 (m * (nT (aS A) + 2) + (FU - 3905 * (nT (aS A) + 2))) M2 (by omega) i1 i2
      rw [stH_s hl]
      exact ⟨M4, g1, g2, g3⟩
    · right
      rw [if_neg (by omega), stH_end (k := k) (by omega) (by omega)]
      exact ⟨M2, rfl, i1, i2⟩
  · rintro m M2 ⟨i1, i2⟩
    have hB := (stH_BI (S := aS A) (cr := c) (wa := aW A (9 + c)) (h := helpW (aS A) (aW A)) hF vb vc 3904).1.le
    have ef : (m + 1) * (nT (aS A) + 2) + (FU - 3905 * (nT (aS A) + 2)) = ((m * (nT (aS A) + 2) + (FU - 3905 * (nT (aS A) + 2))) + nT (aS A) + 1) + 1 := by
      rw [Nat.add_mul]
      omega
    rw [ef, q_314_59_at52, i1.1.1, if_neg (by omega), stF_df]
    exact ⟨M2, rfl, i1, i2⟩
/-! useless -/
noncomputable def usl (A : AS) : Nat → Nat
  | 0 => 0
  | c + 1 => if aW A (21 + c) = 0 then usl A c ||| (spA A c).2.2.1 else usl A c
theorem usl_lt (hA : OKA A) : ∀ c, c ≤ nC (aS A) → usl A c < 256
  | 0, _ => by unfold usl; omega
  | c + 1, hc => by
    have ih := usl_lt hA c (by omega)
    unfold usl
    split
    · exact Nat.or_lt_two_pow (n := 8) ih (spA_BI hA (by omega)).2.1
    · exact ih
def allT (S : SK) : Nat := 2 ^ nT S - 1
theorem allT_lt (hF : WF S) : allT S < 256 := by
  have h8 := hF.2.1
  have hp : 2 ^ nT S ≤ 2 ^ 8 := Nat.pow_le_pow_right (by omega) h8
  unfold allT
  omega
theorem e_allT (hF : WF S) : wr (ishl 1 (nT S : Int) - 1) = (allT S : Int) := by
  have h8 := hF.2.1
  have hp : 2 ^ nT S ≤ 2 ^ 8 := Nat.pow_le_pow_right (by omega) h8
  have hp1 : 1 ≤ 2 ^ nT S := Nat.one_le_two_pow
  have e1 : ishl 1 (nT S : Int) = ((2 ^ nT S : Nat) : Int) := by
    have := ishl_nat (a := 1) (k := nT S) (by omega) (by omega)
    rw [Nat.one_mul] at this
    exact this
  rw [e1, wri (by omega) (by omega)]
  unfold allT
  omega
def less (a u : Nat) : Nat := a ^^^ (a &&& u)
theorem less_bit (a u i : Nat) : (less a u).testBit i = (a.testBit i && !u.testBit i) := by
  unfold less
  rw [Nat.testBit_xor, Nat.testBit_and]
  cases a.testBit i <;> cases u.testBit i <;> rfl
theorem less_or (a u w : Nat) : less (less a u) w = less a (u ||| w) := by
  apply Nat.eq_of_testBit_eq
  intro i
  rw [less_bit, less_bit, less_bit, Nat.testBit_or]
  cases a.testBit i <;> cases u.testBit i <;> cases w.testBit i <;> rfl
theorem less_0 (a : Nat) : less a 0 = a := by
  apply Nat.eq_of_testBit_eq
  intro i
  rw [less_bit, Nat.zero_testBit]
  simp
theorem less_lt {a u : Nat} (h : a < 256) : less a u < 256 := Nat.xor_lt_two_pow (n := 8) h (Nat.lt_of_le_of_lt Nat.and_le_left h)
noncomputable def uslV (A : AS) : Int := (less (allT (aS A)) (usl A (nC (aS A))) : Int)
theorem c_useless (hA : OKA A) (h : CH A M) : ∃ M', fn X (d + 7) 183 [rv 0] M = oI (uslV A) M' ∧ CH A M' ∧ kC M M' ∧ M'.1 = M.1 := by
  have hF := hA.1
  have h6 := hF.1
  have ha := allT_lt hF
  rw [q_183_0]
  refine loop_st (σ := rM) (fun c M2 => sf PQ M M2) (fun m c M2 => kb X (d + 6) 183 m 4 [some (rv 0), some (iv (usl A c : Int)), some (iv (c : Int))] [] M2) (fun z => ∃ M', z = oI (uslV A) M' ∧ CH A M' ∧ kC M M' ∧ M'.1 = M.1) (nC (aS A)) ?_ ?_ (nC (aS A)) 0 FU M (by omega) (FU_lt (by omega)) sf.rf
  · rintro m c M2 hc i2
    left
    have h2 : CH A M2 := h.sf i2 eC_Q
    have hu := usl_lt hA c (by omega)
    rw [q_183_0_at4, q_112_4, cI_I, h2.1.1, if_pos (by omega), c_isFree h2.1 hF h2.W hc, cI_I, wr_succ (by omega)]
    simp only [usl]
    by_cases hf : aW A (21 + c) = 0
    · obtain ⟨M1, g1, g2, g3⟩ := c_spr (X := X) (d := d) hA h2 hc
      have hw := (spA_BI hA hc).2.1
      rw [if_neg (by rw [b01_0]; simp [hf]), if_pos hf, g1, cV_V, q_54_41, cI_I, g2.2.2.2.2.1, ior_nat (by omega) (by omega)]
      exact ⟨M1, rfl, i2.tr g3⟩
    · rw [if_pos (by rw [b01_0]; simp [hf]), if_neg hf]
      exact ⟨M2, rfl, i2⟩
  · rintro m M2 i2
    have h2 : CH A M2 := h.sf i2 eC_Q
    have hu := usl_lt hA (nC (aS A)) (Nat.le_refl _)
    rw [q_183_0_at4, q_112_4, cI_I, h2.1.1, if_neg (by omega), q_117_6, cI_I, h2.1.2.1, e_allT hF, iand_not (by omega) (by omega)]
    exact ⟨M2, rfl, h2, kC_Q i2, i2.1⟩
theorem m_useless (hA : OKA A) (h : MH A M) : ∃ M', fn X (d + 6) 315 [rv 59] M = oI (uslV A) M' ∧ MH A M' ∧ kM M M' := by
  have hF := hA.1
  have h6 := hF.1
  have ha := allT_lt hF
  obtain ⟨h0, z0, k0⟩ := m_0 h
  rw [q_315_59, h.1.2.1, e_allT hF]
  generalize puI M 59 0 0 = M0 at *
  refine loop_st (σ := rM) (fun c M2 => sf PB M0 M2) (fun m c M2 => kb X (d + 5) 315 m 16 [some (rv 59), some (iv (less (allT (aS A)) (usl A c) : Int)), some (iv (c : Int))] [] M2) (fun z => ∃ M', z = oI (uslV A) M' ∧ MH A M' ∧ kM M M') (nC (aS A)) ?_ ?_ (nC (aS A)) 0 FU M0 (by omega) (FU_lt (by omega)) sf.rf |> fun z => by
    have e : less (allT (aS A)) (usl A 0) = allT (aS A) := less_0 _
    rw [e] at z
    exact z
  · rintro m c M2 hc i2
    left
    have h2 : MH A M2 := h0.sf i2 eM_B
    have i21 : wr (21 + (c : Int)) = ((0 + (21 + c) : Nat) : Int) := by
      rw [wri (by omega) (by omega)]
      omega
    have hl := less_lt (u := usl A c) ha
    rw [q_315_59_at16, h2.1.1, if_pos (by omega), i21, gdx (by omega) (by omega), Int.toNat_natCast, h2.W.b3 hc h6, wr_succ (by omega)]
    simp only [usl]
    by_cases hf : aW A (21 + c) = 0
    · obtain ⟨M1, g1, g2, g3⟩ := m_explores (X := X) (d := d) hA h2 hc
      have hw := (spA_BI hA hc).2.1
      rw [if_pos (show (aW A (21 + c) : Int) = 0 by omega), if_pos hf, g1, cV_V, g2.2.1, iand_not (by omega) (by omega), ← less_or]
      exact ⟨M1, rfl, i2.tr g3⟩
    · rw [if_neg (show ¬ (aW A (21 + c) : Int) = 0 by omega), if_neg hf]
      exact ⟨M2, rfl, i2⟩
  · rintro m M2 i2
    have h2 : MH A M2 := h0.sf i2 eM_B
    rw [q_315_59_at16, h2.1.1, if_neg (by omega)]
    exact ⟨M2, rfl, h2, k0.tr (kM_B i2)⟩
/-! firm -/
/-- bit i: none has it; bit 6 + i: all have it -/
def fbN (R : List Nat) : Nat → Nat
  | 0 => 0
  | i + 1 => (if R.any (mtB 0 (2 ^ i)) = false then (if R.any (mtB (2 ^ i) 0) = false then fbN R i ||| 2 ^ i else fbN R i) ||| 2 ^ (6 + i) else (if R.any (mtB (2 ^ i) 0) = false then fbN R i ||| 2 ^ i else fbN R i))
theorem and_tp (b i : Nat) : b &&& 2 ^ i = if b.testBit i = true then 2 ^ i else 0 := by
  apply Nat.eq_of_testBit_eq
  intro j
  rw [Nat.testBit_and, Nat.testBit_two_pow]
  by_cases e : i = j
  · subst e
    cases b.testBit i
    · simp
    · simp [Nat.testBit_two_pow_self]
  · cases b.testBit i
    · simp [e]
    · simp [e, Nat.testBit_two_pow]
theorem mt_has (i b : Nat) : mtB (2 ^ i) 0 b = b.testBit i := by
  have h0 : (0 : Nat) ≠ 2 ^ i := Nat.ne_of_lt (Nat.two_pow_pos i)
  unfold mtB
  rw [Nat.and_zero, and_tp]
  cases b.testBit i
  · simp [h0]
  · simp
theorem mt_lacks (i b : Nat) : mtB 0 (2 ^ i) b = !b.testBit i := by
  have h0 : (2 : Nat) ^ i ≠ 0 := Nat.ne_of_gt (Nat.two_pow_pos i)
  unfold mtB
  rw [Nat.and_zero, and_tp]
  cases b.testBit i
  · simp
  · simp [h0]
theorem fbN_bit (R : List Nat) : ∀ n, n ≤ 6 → ∀ j, (fbN R n).testBit j = ((decide (j < n) && !R.any (fun b => b.testBit j)) || (decide (6 ≤ j) && decide (j < 6 + n) && !R.any (fun b => !b.testBit (j - 6))))
  | 0, _, j => by
    unfold fbN
    have : (decide (6 ≤ j) && decide (j < 6 + 0)) = false := by
      rw [Bool.and_eq_false_iff, decide_eq_false_iff_not, decide_eq_false_iff_not]
      omega
    rw [this]
    simp
  | n + 1, hn, j => by
    have ih := fbN_bit R n (by omega) j
    have e1 : R.any (mtB (2 ^ n) 0) = R.any (fun b => b.testBit n) := by
      congr 1
      funext b
      exact mt_has n b
    have e2 : R.any (mtB 0 (2 ^ n)) = R.any (fun b => !b.testBit n) := by
      congr 1
      funext b
      exact mt_lacks n b
    unfold fbN
    rw [e1, e2]
    have step : ((if R.any (fun b => !b.testBit n) = false then (if R.any (fun b => b.testBit n) = false then fbN R n ||| 2 ^ n else fbN R n) ||| 2 ^ (6 + n) else (if R.any (fun b => b.testBit n) = false then fbN R n ||| 2 ^ n else fbN R n))).testBit j = ((fbN R n).testBit j || (decide (n = j) && !R.any (fun b => b.testBit n)) || (decide (6 + n = j) && !R.any (fun b => !b.testBit n))) := by
      cases R.any (fun b => !b.testBit n) <;> cases R.any (fun b => b.testBit n) <;> simp [Nat.testBit_two_pow]
    rw [step, ih]
    by_cases h1 : n = j
    · subst h1
      rw [decide_eq_true (rfl : n = n), decide_eq_false (show ¬ 6 + n = n by omega), decide_eq_false (show ¬ n < n by omega), decide_eq_true (show n < n + 1 by omega), decide_eq_false (show ¬ 6 ≤ n by omega)]
      simp
    · by_cases h2 : 6 + n = j
      · subst h2
        rw [decide_eq_true (rfl : 6 + n = 6 + n), decide_eq_false h1, decide_eq_false (show ¬ 6 + n < n by omega), decide_eq_false (show ¬ 6 + n < n + 1 by omega), decide_eq_true (show 6 ≤ 6 + n by omega), decide_eq_false (show ¬ 6 + n < 6 + n by omega), decide_eq_true (show 6 + n < 6 + (n + 1) by omega), show 6 + n - 6 = n by omega]
        simp
      · have a1 : decide (j < n + 1) = decide (j < n) := decide_eq_decide.2 (by omega)
        have a2 : decide (j < 6 + (n + 1)) = decide (j < 6 + n) := decide_eq_decide.2 (by omega)
        rw [decide_eq_false h1, decide_eq_false h2, a1, a2]
        simp
theorem fbN_lt (R : List Nat) : ∀ n, n ≤ 6 → fbN R n < 4096
  | 0, _ => by unfold fbN; omega
  | n + 1, hn => by
    have ih := fbN_lt R n (by omega)
    have p1 : 2 ^ n < 2 ^ 12 := Nat.pow_lt_pow_right (by omega) (by omega)
    have p2 : 2 ^ (6 + n) < 2 ^ 12 := Nat.pow_lt_pow_right (by omega) (by omega)
    have o1 : fbN R n ||| 2 ^ n < 2 ^ 12 := Nat.or_lt_two_pow ih p1
    unfold fbN
    split
    · refine Nat.or_lt_two_pow (n := 12) ?_ p2
      split
      · exact o1
      · exact ih
    · split
      · exact o1
      · exact ih
theorem fb_eq (R : List Nat) : (63 ^^^ (63 &&& orR R)) ||| ((63 ^^^ (63 &&& laR R)) * 64) = fbN R 6 := by
  apply Nat.eq_of_testBit_eq
  intro j
  rw [fbN_bit R 6 (Nat.le_refl _) j, Nat.testBit_or, not63, show (64 : Nat) = 2 ^ 6 by decide, Nat.testBit_mul_two_pow, not63, orR_bit, laR_bit]
  by_cases h1 : 6 ≤ j
  · by_cases h2 : j < 12
    · have a1 : decide (j < 6) = false := decide_eq_false (by omega)
      have a2 : decide (j - 6 < 6) = true := decide_eq_true (by omega)
      have a3 : decide (j < 6 + 6) = true := decide_eq_true (by omega)
      rw [a1, a2, a3, decide_eq_true h1]
      simp
    · have a1 : decide (j < 6) = false := decide_eq_false (by omega)
      have a2 : decide (j - 6 < 6) = false := decide_eq_false (by omega)
      have a3 : decide (j < 6 + 6) = false := decide_eq_false (by omega)
      rw [a1, a2, a3]
      simp
  · have a1 : decide (j < 6) = true := decide_eq_true (by omega)
    rw [a1, decide_eq_false h1]
    simp
noncomputable def firV (A : AS) (a : Int) : Int := if aW A (21 + a.toNat) = 0 then (fbN (spA A a.toNat).2.2.2 6 : Int) else -1
theorem c_firm (hA : OKA A) (h : CH A M) (a : Int) : wOut A (ans (0 ≤ a ∧ a < (nC (aS A) : Int)) 0).1 (firV A a) M (fn X (d + 8) 348 [rv 0, iv a, rv 111] M) := by
  have hF := hA.1
  rw [q_348_0_111, q_184_0, c_chkC h.1]
  unfold ans firV
  by_cases hc : 0 ≤ a ∧ a < (nC (aS A) : Int)
  · obtain ⟨c, hcl, rfl⟩ := nat_of hc
    rw [if_pos hc, if_pos hc, cV_V, Int.toNat_natCast, c_isFree h.1 hF h.W hcl, cI_I]
    by_cases hf : aW A (21 + c) = 0
    · obtain ⟨M1, g1, g2, g3⟩ := c_spr (X := X) (d := d) hA h hcl
      have h1' : CH A M1 := h.sf g3 eC_Q
      have hI := spA_BI hA hcl
      rw [if_pos hf, if_neg (show ¬ b01 (decide (aW A (21 + c) = 0)) = 0 by rw [b01_0]; simp [hf]), g1, cV_V]
      refine w_ok (M1 := M1) ?_ h1' (kC_Q g3) g3.1
      generalize spA A c = s at *
      refine loop_up (P := fun m i => kb X (d + 6) 184 (2 * m + (FU - 2 * 10)) 24 [some (rv 0), none, some (iv (fbN s.2.2.2 i : Int)), some (iv (i : Int))] [] M1) 6 ?_ ?_ 6 0 10 (by omega) (by omega) |> fun z => by
        rw [show 2 * 10 + (FU - 2 * 10) = FU by have := FU_ge; omega] at z
        exact z
      · intro m i hi
        left
        have hl := fbN_lt s.2.2.2 i (by omega)
        have p1 : 2 ^ i < 2 ^ 6 := Nat.pow_lt_pow_right (by omega) hi
        have e1 : ishl 1 (i : Int) = ((2 ^ i : Nat) : Int) := e_bit (by omega)
        have e6 : wr (6 + (i : Int)) = ((6 + i : Nat) : Int) := by
          rw [wri (by omega) (by omega)]
          omega
        have s1 := c_sets (X := X) (d := d + 5) (M := M1) (a := 2 ^ i) (z := 0) (by omega) (by omega)
        have s1 : fn X (d + 6) 197 [iv ((2 ^ i : Nat) : Int), iv 0] M1 = _ := s1
        have s2 := c_sets (X := X) (d := d + 5) (M := M1) (a := 0) (z := 2 ^ i) (by omega) (by omega)
        have s2 : fn X (d + 6) 197 [iv 0, iv ((2 ^ i : Nat) : Int)] M1 = _ := s2
        have second : ∀ v : Nat, v < 4096 → kb X (d + 6) 184 ((2 * m + (FU - 2 * 10)) + 1) 56 [some (rv 0), none, some (iv (v : Int)), some (iv (i : Int))] [] M1 = kb X (d + 6) 184 (2 * m + (FU - 2 * 10)) 24 [some (rv 0), none, some (iv ((if s.2.2.2.any (mtB 0 (2 ^ i)) = false then v ||| 2 ^ (6 + i) else v : Nat) : Int)), some (iv ((i + 1 : Nat) : Int))] [] M1 := by
          intro v hv
          rw [q_184_0_at56, q_53_41, cJ_J, e1, s2, cJ_J, wr_succ (by omega), e6, set_or (by omega) (by omega)]
          cases hx : s.2.2.2.any (mtB 0 (2 ^ i)) with
          | false => rw [if_pos ((c_none g2 hI).2 hx), if_pos rfl]
          | true => rw [if_neg (fun q => by rw [c_none g2 hI, hx] at q; cases q), if_neg (by simp)]
        rw [show 2 * (m + 1) + (FU - 2 * 10) = ((2 * m + (FU - 2 * 10)) + 1) + 1 by omega, q_184_0_at24, if_pos (by omega), q_53_41, cJ_J, e1, s1, cJ_J]
        have eo : ior (fbN s.2.2.2 i : Int) ((2 ^ i : Nat) : Int) = ((fbN s.2.2.2 i ||| 2 ^ i : Nat) : Int) := ior_nat (by omega) (by omega)
        rw [eo]
        have o1 : fbN s.2.2.2 i ||| 2 ^ i < 4096 := Nat.or_lt_two_pow (n := 12) hl (by omega)
        have eu : fbN s.2.2.2 (i + 1) = (if s.2.2.2.any (mtB 0 (2 ^ i)) = false then (if s.2.2.2.any (mtB (2 ^ i) 0) = false then fbN s.2.2.2 i ||| 2 ^ i else fbN s.2.2.2 i) ||| 2 ^ (6 + i) else (if s.2.2.2.any (mtB (2 ^ i) 0) = false then fbN s.2.2.2 i ||| 2 ^ i else fbN s.2.2.2 i)) := rfl
        rw [eu]
        cases hx : s.2.2.2.any (mtB (2 ^ i) 0) with
        | false =>
          rw [if_pos ((c_none g2 hI).2 hx), second _ o1]
          simp only [reduceIte]
        | true =>
          rw [if_neg (fun q => by rw [c_none g2 hI, hx] at q; cases q), second _ hl]
          simp only [Bool.true_eq_false, reduceIte]
      · intro m
        rw [show 2 * (m + 1) + (FU - 2 * 10) = ((2 * m + (FU - 2 * 10)) + 1) + 1 by omega, q_184_0_at24, if_neg (by omega)]
    · rw [if_neg hf, if_pos (show b01 (decide (aW A (21 + c) = 0)) = 0 by rw [b01_0]; simp [hf])]
      exact w_ok (M1 := M) rfl h kC.rf rfl
  · rw [if_neg hc, if_neg hc, cV_X]
    exact w_x (q := 0) (k := 1) (M1 := thr M) rfl rfl (by omega) h kC.rf rfl
theorem m_firm (hA : OKA A) (h : MH A M) (a : Int) : mOut A (ans (0 ≤ a ∧ a < (nC (aS A) : Int)) 0).1 (if 0 ≤ a ∧ a < (nC (aS A) : Int) then firV A a else 0) M (fn X (d + 6) 316 [rv 59, iv a] M) := by
  have hF := hA.1
  have h6 := hF.1
  obtain ⟨h0, z0, k0⟩ := m_0 h
  rw [q_316_59]
  generalize puI M 59 0 0 = M0 at *
  rw [m_cre h0.1 z0]
  unfold ans firV
  by_cases hc : 0 ≤ a ∧ a < (nC (aS A) : Int)
  · obtain ⟨c, hcl, rfl⟩ := nat_of hc
    have i21 : wr (21 + (c : Int)) = ((0 + (21 + c) : Nat) : Int) := by
      rw [wri (by omega) (by omega)]
      omega
    simp only [if_pos hc]
    rw [cI_I, if_neg n10, Int.toNat_natCast, i21, gdx (by omega) (by omega), Int.toNat_natCast, h0.W.b3 hcl h6]
    by_cases hf : aW A (21 + c) = 0
    · obtain ⟨M1, g1, g2, g3⟩ := m_explores (X := X) (d := d) hA h0 hcl
      have hI := spA_BI hA hcl
      have o8 := orR_le _ hI.2.2.1
      have l8 := laR_le (spA A c).2.2.2
      have x1 : (63 ^^^ (63 &&& orR (spA A c).2.2.2)) < 64 := Nat.xor_lt_two_pow (n := 6) (by omega) (Nat.lt_of_le_of_lt Nat.and_le_left (by omega))
      have x2 : (63 ^^^ (63 &&& laR (spA A c).2.2.2)) < 64 := Nat.xor_lt_two_pow (n := 6) (by omega) (Nat.lt_of_le_of_lt Nat.and_le_left (by omega))
      have e1 : iand 63 (ixor (orR (spA A c).2.2.2 : Int) (-1)) = ((63 ^^^ (63 &&& orR (spA A c).2.2.2) : Nat) : Int) := iand_not (a := 63) (by omega) (by omega)
      have e2 : iand 63 (ixor (laR (spA A c).2.2.2 : Int) (-1)) = ((63 ^^^ (63 &&& laR (spA A c).2.2.2) : Nat) : Int) := iand_not (a := 63) (by omega) (by omega)
      have e3 : ishl ((63 ^^^ (63 &&& laR (spA A c).2.2.2) : Nat) : Int) 6 = (((63 ^^^ (63 &&& laR (spA A c).2.2.2)) * 64 : Nat) : Int) := ishl_nat (k := 6) (by omega) (by omega)
      rw [if_pos (show (aW A (21 + c) : Int) = 0 by omega), if_pos hf, g1, cV_V, g2.2.2.1, g2.2.2.2, e1, e2, e3, ior_nat (by omega) (by omega), fb_eq]
      exact ⟨M1, rfl, (z_B g3).trans z0, h0.sf g3 eM_B, k0.tr (kM_B g3)⟩
    · rw [if_neg (show ¬ (aW A (21 + c) : Int) = 0 by omega), if_neg hf]
      exact ⟨M0, rfl, z0, h0, k0⟩
  · simp only [if_neg hc]
    rw [cI_I, if_pos (show (0 : Int) = 0 from rfl)]
    exact ⟨_, rfl, puI_eq _ _ _ _, h0.p0 1, k0.pu (by omega) _ _⟩
end C70
