/-! ===== the class's tokens ===== -/
section C85c
variable {X : Nat × (Nat → Int32)} {d : Nat} {M : rM} {b : Nat → Nat} {s e n : Nat}
theorem c_bl {c : Nat} (hc : c ≤ 255) : fn X (d + 1) 135 [iv (sby c)] M = oI (b01 (isBl c)) M := by
  rw [q_135]
  have h1 : sby c = 32 ↔ c = 32 := sby_eq hc (c := 32) (by omega)
  have h2 : sby c = 10 ↔ c = 10 := sby_eq hc (c := 10) (by omega)
  unfold isBl b01
  by_cases e1 : c = 32
  · rw [if_pos (h1.2 e1), e1]
    rfl
  · rw [if_neg (fun z => e1 (h1.1 z))]
    by_cases e2 : c = 10
    · rw [if_pos (h2.2 e2), e2]
      rfl
    · rw [if_neg (fun z => e2 (h2.1 z)), beq_eq_false_iff_ne.2 e1, beq_eq_false_iff_ne.2 e2]
      rfl
theorem c_dg {c : Nat} (hc : c ≤ 255) : fn X (d + 1) 136 [iv (sby c)] M = oI (b01 (isDg c)) M := by
  rw [q_136]
  unfold isDg b01
  have hs : sby c = (c : Int) ∨ (127 < c ∧ sby c < 0) := by
    unfold sby
    split <;> omega
  by_cases h1 : sby c < 48
  · rw [if_pos h1]
    by_cases h2 : 48 ≤ c
    · rw [decide_eq_true h2, decide_eq_false (show ¬ c ≤ 57 by omega)]
      rfl
    · rw [decide_eq_false h2]
      rfl
  · rw [if_neg h1, decide_eq_true (show 48 ≤ c by omega)]
    by_cases h2 : 57 < sby c
    · rw [if_pos h2, decide_eq_false (show ¬ c ≤ 57 by omega)]
      rfl
    · rw [if_neg h2, decide_eq_true (show c ≤ 57 by omega)]
      rfl
theorem c_lt {c : Nat} (hc : c ≤ 255) : fn X (d + 1) 137 [iv (sby c)] M = oI (b01 (isLt c)) M := by
  rw [q_137]
  unfold isLt b01
  have hs : sby c = (c : Int) ∨ (127 < c ∧ sby c < 0) := by
    unfold sby
    split <;> omega
  by_cases h1 : sby c < 97
  · rw [if_pos h1]
    by_cases h2 : 97 ≤ c
    · rw [decide_eq_true h2, decide_eq_false (show ¬ c ≤ 122 by omega)]
      rfl
    · rw [decide_eq_false h2]
      rfl
  · rw [if_neg h1, decide_eq_true (show 97 ≤ c by omega)]
    by_cases h2 : 122 < sby c
    · rw [if_pos h2, decide_eq_false (show ¬ c ≤ 122 by omega)]
      rfl
    · rw [if_neg h2, decide_eq_true (show c ≤ 122 by omega)]
      rfl
theorem c_sg {c : Nat} (hc : c ≤ 255) : fn X (d + 1) 138 [iv (sby c)] M = oI (b01 (isSg c)) M := by
  rw [q_138]
  have hk : ∀ v : Nat, v < 128 → c ≠ v → ¬ sby c = (v : Int) := fun v hv h z => h ((sby_eq hc hv).1 z)
  by_cases h40 : c = 40
  · subst h40; rfl
  by_cases h41 : c = 41
  · subst h41; rfl
  by_cases h42 : c = 42
  · subst h42; rfl
  by_cases h43 : c = 43
  · subst h43; rfl
  by_cases h45 : c = 45
  · subst h45; rfl
  by_cases h47 : c = 47
  · subst h47; rfl
  by_cases h59 : c = 59
  · subst h59; rfl
  by_cases h60 : c = 60
  · subst h60; rfl
  by_cases h61 : c = 61
  · subst h61; rfl
  have e : isSg c = false := by
    unfold isSg
    simp only [beq_eq_false_iff_ne.2 h40, beq_eq_false_iff_ne.2 h41, beq_eq_false_iff_ne.2 h42, beq_eq_false_iff_ne.2 h43, beq_eq_false_iff_ne.2 h45, beq_eq_false_iff_ne.2 h47, beq_eq_false_iff_ne.2 h59, beq_eq_false_iff_ne.2 h60, beq_eq_false_iff_ne.2 h61, Bool.or_false]
  rw [e]
  have g40 : ¬ sby c = 40 := hk 40 (by omega) h40
  have g41 : ¬ sby c = 41 := hk 41 (by omega) h41
  have g42 : ¬ sby c = 42 := hk 42 (by omega) h42
  have g43 : ¬ sby c = 43 := hk 43 (by omega) h43
  have g45 : ¬ sby c = 45 := hk 45 (by omega) h45
  have g47 : ¬ sby c = 47 := hk 47 (by omega) h47
  have g59 : ¬ sby c = 59 := hk 59 (by omega) h59
  have g60 : ¬ sby c = 60 := hk 60 (by omega) h60
  have g61 : ¬ sby c = 61 := hk 61 (by omega) h61
  simp only [if_neg g40, if_neg g41, if_neg g42, if_neg g43, if_neg g45, if_neg g47, if_neg g59, if_neg g60, if_neg g61, ite_self]
  rfl
def P303 (k j : Nat) : Bool := k == 30 && j == 3
def P30 (k j : Nat) : Bool := k == 30 && decide (2 ≤ j)
theorem TB.sf {Q : Nat → Nat → Bool} {M' : rM} (h : TB b n M) (f : sf Q M M') (hq : ∀ j, Q 1 j = false) : TB b n M' := ⟨h.1, fun i hi => by rw [(f.2 1 i (hq i)).1]; exact h.2.1 i hi, h.2.2⟩
theorem c_blank : ∀ (f i m : Nat) (M : rM), i + f = n → TB b n M → M.2.1 30 1 = (n : Int) → M.2.1 30 3 = (i : Int) → f + 1 < m → ∃ M' m', kb X (d + 1) 131 m 0 [some (rv 30)] [] M = kb X (d + 1) 131 (m' + 1) 39 [some (rv 30)] [] M' ∧ M'.2.1 30 3 = (skp b isBl f i : Int) ∧ sf P303 M M'
  | 0, i, m, M, hf, hT, h1, h3, hm => by
    obtain ⟨m', rfl⟩ : ∃ m', m = m' + 2 := ⟨m - 2, by omega⟩
    refine ⟨M, m', ?_, h3, sf.rf⟩
    rw [q_131_30_at0, h1, h3, if_neg (by omega)]
  | f + 1, i, m, M, hf, hT, h1, h3, hm => by
    obtain ⟨m', rfl⟩ : ∃ m', m = m' + 2 := ⟨m - 2, by omega⟩
    have := hT.1
    rw [q_131_30_at0, h1, h3, if_pos (by omega), gdx (by omega) (by omega), Int.toNat_natCast, hT.2.1 i (by omega), c_bl (hT.2.2 i), cI_I]
    by_cases hb : isBl (b i) = true
    · rw [hb, if_neg (by decide), h3, wr_succ (by omega)]
      have hs : sf P303 M (puI M 30 3 ((i + 1 : Nat) : Int)) := sf.rf.pu rfl _
      obtain ⟨M2, m2, e1, e2, e3⟩ := c_blank f (i + 1) (m' + 1) (puI M 30 3 ((i + 1 : Nat) : Int)) (by omega) (hT.sf hs (fun _ => rfl)) (by rw [puI_nj (by omega)]; exact h1) (puI_eq _ _ _ _) (by omega)
      refine ⟨M2, m2, e1, ?_, hs.tr e3⟩
      rw [e2]
      show _ = ((if isBl (b i) = true then _ else _ : Nat) : Int)
      rw [if_pos hb]
    · refine ⟨M, m', ?_, ?_, sf.rf⟩
      · rw [Bool.eq_false_iff.2 hb, if_pos (show b01 false = 0 from rfl)]
      · rw [h3]
        show _ = ((if isBl (b i) = true then _ else _ : Nat) : Int)
        rw [if_neg hb]
theorem c_wend : ∀ (f i m : Nat) (M : rM), i + f = n → TB b n M → M.2.1 30 1 = (n : Int) → M.2.1 30 3 = (i : Int) → f + 2 < m → ∃ M' m', kb X (d + 1) 133 m 0 [some (rv 30)] [] M = kb X (d + 1) 133 (m' + 2) 39 [some (rv 30)] [] M' ∧ M'.2.1 30 3 = (skp b isLt f i : Int) ∧ sf P303 M M'
  | 0, i, m, M, hf, hT, h1, h3, hm => by
    obtain ⟨m', rfl⟩ : ∃ m', m = m' + 3 := ⟨m - 3, by omega⟩
    refine ⟨M, m', ?_, h3, sf.rf⟩
    rw [q_133_30_at0, h1, h3, if_neg (by omega)]
  | f + 1, i, m, M, hf, hT, h1, h3, hm => by
    obtain ⟨m', rfl⟩ : ∃ m', m = m' + 3 := ⟨m - 3, by omega⟩
    have := hT.1
    rw [q_133_30_at0, h1, h3, if_pos (by omega), gdx (by omega) (by omega), Int.toNat_natCast, hT.2.1 i (by omega), c_lt (hT.2.2 i), cI_I]
    by_cases hb : isLt (b i) = true
    · rw [hb, if_neg (by decide), h3, wr_succ (by omega)]
      have hs : sf P303 M (puI M 30 3 ((i + 1 : Nat) : Int)) := sf.rf.pu rfl _
      obtain ⟨M2, m2, e1, e2, e3⟩ := c_wend f (i + 1) (m' + 2) (puI M 30 3 ((i + 1 : Nat) : Int)) (by omega) (hT.sf hs (fun _ => rfl)) (by rw [puI_nj (by omega)]; exact h1) (puI_eq _ _ _ _) (by omega)
      refine ⟨M2, m2, e1, ?_, hs.tr e3⟩
      rw [e2]
      show _ = ((if isLt (b i) = true then _ else _ : Nat) : Int)
      rw [if_pos hb]
    · refine ⟨M, m', ?_, ?_, sf.rf⟩
      · rw [Bool.eq_false_iff.2 hb, if_pos (show b01 false = 0 from rfl)]
      · rw [h3]
        show _ = ((if isLt (b i) = true then _ else _ : Nat) : Int)
        rw [if_neg hb]
theorem lt_ext {Q : Nat → Prop} {q : Nat} (h : ∀ j, j < q → Q j) (g : Q q) : ∀ j, j < q + 1 → Q j := fun j hj => by
  by_cases e : j = q
  · rw [e]
    exact g
  · exact h j (by omega)
theorem wds_drop : ∀ q, q < 16 → wds.drop q = wds.getD q [] :: wds.drop (q + 1) := by decide +kernel
theorem wk_at : ∀ q, q ≤ 16 → (∀ j, j < q → spx b s e (wds.getD j []) = false) → wdk b s e = wkG b s e (wds.drop q) (101 + q)
  | 0, _, _ => rfl
  | q + 1, hq, h => by
    rw [wk_at q (by omega) (fun j hj => h j (by omega)), wds_drop q (by omega)]
    show (if spx b s e (wds.getD q []) = true then _ else _) = _
    rw [h q (by omega), if_neg (by decide)]
    rfl
theorem wk_found {q : Nat} (h : ∀ j, j < q → spx b s e (wds.getD j []) = false) (hq : q < 16) (g : spx b s e (wds.getD q []) = true) : wdk b s e = 101 + q := by
  rw [wk_at q (by omega) h, wds_drop q hq]
  show (if spx b s e (wds.getD q []) = true then _ else _) = _
  rw [if_pos g]
theorem wk_none (h : ∀ j, j < 16 → spx b s e (wds.getD j []) = false) : wdk b s e = 100 := by
  rw [wk_at 16 (by omega) h]
  rfl
theorem c_kind (hT : TB b n M) (h2 : M.2.1 30 2 = (s : Int)) (h3 : M.2.1 30 3 = (e : Int)) (hse : s ≤ e) (hen : e ≤ n) (m : Nat) : kb X (d + 5) 133 (m + 2) 39 [some (rv 30)] [] M = oV (puI M 30 4 (wdk b s e : Int)) := by
  have p0 : ∀ j, j < 0 → spx b s e (wds.getD j []) = false := fun j hj => absurd hj (Nat.not_lt_zero j)
  rw [q_133_30_at39]
  rw [sp_0 hT h2 h3 hse hen, cI_I]
  by_cases y0 : spx b s e (wds.getD 0 []) = true
  · rw [y0, if_neg (by decide), q_133_30_at266, wk_found p0 (by omega) y0]
    rfl
  rw [Bool.eq_false_iff.2 y0, if_pos (show b01 false = 0 from rfl)]
  have p1 := lt_ext p0 (Bool.eq_false_iff.2 y0)
  rw [sp_1 hT h2 h3 hse hen, cI_I]
  by_cases y1 : spx b s e (wds.getD 1 []) = true
  · rw [y1, if_neg (by decide), q_133_30_at266, wk_found p1 (by omega) y1]
    rfl
  rw [Bool.eq_false_iff.2 y1, if_pos (show b01 false = 0 from rfl)]
  have p2 := lt_ext p1 (Bool.eq_false_iff.2 y1)
  rw [sp_2 hT h2 h3 hse hen, cI_I]
  by_cases y2 : spx b s e (wds.getD 2 []) = true
  · rw [y2, if_neg (by decide), q_133_30_at266, wk_found p2 (by omega) y2]
    rfl
  rw [Bool.eq_false_iff.2 y2, if_pos (show b01 false = 0 from rfl)]
  have p3 := lt_ext p2 (Bool.eq_false_iff.2 y2)
  rw [sp_3 hT h2 h3 hse hen, cI_I]
  by_cases y3 : spx b s e (wds.getD 3 []) = true
  · rw [y3, if_neg (by decide), q_133_30_at266, wk_found p3 (by omega) y3]
    rfl
  rw [Bool.eq_false_iff.2 y3, if_pos (show b01 false = 0 from rfl)]
  have p4 := lt_ext p3 (Bool.eq_false_iff.2 y3)
  rw [sp_4 hT h2 h3 hse hen, cI_I]
  by_cases y4 : spx b s e (wds.getD 4 []) = true
  · rw [y4, if_neg (by decide), q_133_30_at266, wk_found p4 (by omega) y4]
    rfl
  rw [Bool.eq_false_iff.2 y4, if_pos (show b01 false = 0 from rfl)]
  have p5 := lt_ext p4 (Bool.eq_false_iff.2 y4)
  rw [sp_5 hT h2 h3 hse hen, cI_I]
  by_cases y5 : spx b s e (wds.getD 5 []) = true
  · rw [y5, if_neg (by decide), q_133_30_at266, wk_found p5 (by omega) y5]
    rfl
  rw [Bool.eq_false_iff.2 y5, if_pos (show b01 false = 0 from rfl)]
  have p6 := lt_ext p5 (Bool.eq_false_iff.2 y5)
  rw [sp_6 hT h2 h3 hse hen, cI_I]
  by_cases y6 : spx b s e (wds.getD 6 []) = true
  · rw [y6, if_neg (by decide), q_133_30_at266, wk_found p6 (by omega) y6]
    rfl
  rw [Bool.eq_false_iff.2 y6, if_pos (show b01 false = 0 from rfl)]
  have p7 := lt_ext p6 (Bool.eq_false_iff.2 y6)
  rw [sp_7 hT h2 h3 hse hen, cI_I]
  by_cases y7 : spx b s e (wds.getD 7 []) = true
  · rw [y7, if_neg (by decide), q_133_30_at266, wk_found p7 (by omega) y7]
    rfl
  rw [Bool.eq_false_iff.2 y7, if_pos (show b01 false = 0 from rfl)]
  have p8 := lt_ext p7 (Bool.eq_false_iff.2 y7)
  rw [sp_8 hT h2 h3 hse hen, cI_I]
  by_cases y8 : spx b s e (wds.getD 8 []) = true
  · rw [y8, if_neg (by decide), q_133_30_at266, wk_found p8 (by omega) y8]
    rfl
  rw [Bool.eq_false_iff.2 y8, if_pos (show b01 false = 0 from rfl)]
  have p9 := lt_ext p8 (Bool.eq_false_iff.2 y8)
  rw [sp_9 hT h2 h3 hse hen, cI_I]
  by_cases y9 : spx b s e (wds.getD 9 []) = true
  · rw [y9, if_neg (by decide), q_133_30_at266, wk_found p9 (by omega) y9]
    rfl
  rw [Bool.eq_false_iff.2 y9, if_pos (show b01 false = 0 from rfl)]
  have p10 := lt_ext p9 (Bool.eq_false_iff.2 y9)
  rw [sp_10 hT h2 h3 hse hen, cI_I]
  by_cases y10 : spx b s e (wds.getD 10 []) = true
  · rw [y10, if_neg (by decide), q_133_30_at266, wk_found p10 (by omega) y10]
    rfl
  rw [Bool.eq_false_iff.2 y10, if_pos (show b01 false = 0 from rfl)]
  have p11 := lt_ext p10 (Bool.eq_false_iff.2 y10)
  rw [sp_11 hT h2 h3 hse hen, cI_I]
  by_cases y11 : spx b s e (wds.getD 11 []) = true
  · rw [y11, if_neg (by decide), q_133_30_at266, wk_found p11 (by omega) y11]
    rfl
  rw [Bool.eq_false_iff.2 y11, if_pos (show b01 false = 0 from rfl)]
  have p12 := lt_ext p11 (Bool.eq_false_iff.2 y11)
  rw [sp_12 hT h2 h3 hse hen, cI_I]
  by_cases y12 : spx b s e (wds.getD 12 []) = true
  · rw [y12, if_neg (by decide), q_133_30_at266, wk_found p12 (by omega) y12]
    rfl
  rw [Bool.eq_false_iff.2 y12, if_pos (show b01 false = 0 from rfl)]
  have p13 := lt_ext p12 (Bool.eq_false_iff.2 y12)
  rw [sp_13 hT h2 h3 hse hen, cI_I]
  by_cases y13 : spx b s e (wds.getD 13 []) = true
  · rw [y13, if_neg (by decide), q_133_30_at266, wk_found p13 (by omega) y13]
    rfl
  rw [Bool.eq_false_iff.2 y13, if_pos (show b01 false = 0 from rfl)]
  have p14 := lt_ext p13 (Bool.eq_false_iff.2 y13)
  rw [sp_14 hT h2 h3 hse hen, cI_I]
  by_cases y14 : spx b s e (wds.getD 14 []) = true
  · rw [y14, if_neg (by decide), q_133_30_at266, wk_found p14 (by omega) y14]
    rfl
  rw [Bool.eq_false_iff.2 y14, if_pos (show b01 false = 0 from rfl)]
  have p15 := lt_ext p14 (Bool.eq_false_iff.2 y14)
  rw [sp_15 hT h2 h3 hse hen, cI_I]
  by_cases y15 : spx b s e (wds.getD 15 []) = true
  · rw [y15, if_neg (by decide), q_133_30_at266, wk_found p15 (by omega) y15]
    rfl
  rw [Bool.eq_false_iff.2 y15, if_pos (show b01 false = 0 from rfl)]
  have p16 := lt_ext p15 (Bool.eq_false_iff.2 y15)
  rw [q_133_30_at266, wk_none p16]
  rfl
theorem c_word (hT : TB b n M) (h1 : M.2.1 30 1 = (n : Int)) (h2 : M.2.1 30 2 = (s : Int)) (h3 : M.2.1 30 3 = (s : Int)) (hs : s ≤ n) : ∃ M', fn X (d + 6) 133 [rv 30] M = oV M' ∧ M'.2.1 30 3 = (skp b isLt (n - s) s : Int) ∧ M'.2.1 30 4 = (wdk b s (skp b isLt (n - s) s) : Int) ∧ M'.2.1 30 1 = (n : Int) ∧ M'.2.1 30 2 = (s : Int) ∧ sf P30 M M' := by
  have := hT.1
  rw [(q_133_30 M).trans (q_133_30_at0 (n := FU) M).symm]
  obtain ⟨M1, m, e1, e2, e3⟩ := c_wend (X := X) (d := d + 4) (n - s) s (FU + 1) M (by omega) hT h1 h3 (by have := FU_lt (k := n - s + 2) (by omega); omega)
  have hk := skp_ge (b := b) (p := isLt) (n - s) s
  have f2 : M1.2.1 30 2 = (s : Int) := by rw [(e3.2 30 2 rfl).1]; exact h2
  have f1 : M1.2.1 30 1 = (n : Int) := by rw [(e3.2 30 1 rfl).1]; exact h1
  rw [e1, c_kind (hT.sf e3 (fun _ => rfl)) f2 e2 hk.1 (by omega) m]
  refine ⟨_, rfl, by rw [puI_nj (by omega)]; exact e2, puI_eq _ _ _ _, by rw [puI_nj (by omega)]; exact f1, by rw [puI_nj (by omega)]; exact f2, (e3.mo (fun k j z => ?_)).pu rfl _⟩
  unfold P30 at z
  unfold P303
  rw [Bool.and_eq_false_iff] at z ⊢
  rcases z with z | z
  · exact Or.inl z
  · rw [decide_eq_false_iff_not] at z
    exact Or.inr (beq_eq_false_iff_ne.2 (by omega))
def P3n (k j : Nat) : Bool := k == 30 && (j == 3 || j == 5 || j == 6)
theorem c_numL : ∀ (f i m : Nat) (M : rM), s + i + f = n → TB b n M → M.2.1 30 1 = (n : Int) → M.2.1 30 3 = ((s + i : Nat) : Int) → M.2.1 30 6 = (i : Int) → M.2.1 30 5 = (nmb b s (min 4 i) : Int) → (∀ j, j < i → isDg (b (s + j)) = true) → f < m → ∃ M', kb X (d + 1) 132 m 15 [some (rv 30)] [] M = oV M' ∧ M'.2.1 30 3 = (skp b isDg f (s + i) : Int) ∧ M'.2.1 30 5 = (nmb b s (min 4 (skp b isDg f (s + i) - s)) : Int) ∧ M'.2.1 30 6 = ((skp b isDg f (s + i) - s : Nat) : Int) ∧ sf P3n M M'
  | 0, i, m, M, hf, hT, h1, h3, h6, h5, hd, hm => by
    obtain ⟨m', rfl⟩ : ∃ m', m = m' + 1 := ⟨m - 1, by omega⟩
    have e : skp b isDg 0 (s + i) = s + i := rfl
    rw [e, show s + i - s = i by omega]
    refine ⟨M, ?_, h3, h5, h6, sf.rf⟩
    rw [q_132_30_at15, h1, h3, if_neg (by omega)]
  | f + 1, i, m, M, hf, hT, h1, h3, h6, h5, hd, hm => by
    obtain ⟨m', rfl⟩ : ∃ m', m = m' + 1 := ⟨m - 1, by omega⟩
    have hn := hT.1
    rw [q_132_30_at15, h1, h3, if_pos (by omega), gdx (by omega) (by omega), Int.toNat_natCast, hT.2.1 (s + i) (by omega), c_dg (hT.2.2 (s + i)), cI_I]
    by_cases hb : isDg (b (s + i)) = true
    · have es : skp b isDg (f + 1) (s + i) = skp b isDg f (s + (i + 1)) := by
        show (if isDg (b (s + i)) = true then _ else _) = _
        rw [if_pos hb]
        rfl
      have hd' : ∀ j, j < i + 1 → isDg (b (s + j)) = true := lt_ext (Q := fun j => isDg (b (s + j)) = true) hd hb
      have hb2 := hb
      unfold isDg at hb2
      rw [Bool.and_eq_true, decide_eq_true_eq, decide_eq_true_eq] at hb2
      rw [es, hb, if_neg (by decide), h6, wr_succ (by omega), h3, wr_succ (by omega)]
      by_cases h4 : 4 < ((i + 1 : Nat) : Int)
      · rw [if_pos h4]
        have hs : sf P3n M (puI (puI M 30 6 ((i + 1 : Nat) : Int)) 30 3 ((s + i + 1 : Nat) : Int)) := (sf.rf.pu rfl _).pu rfl _
        obtain ⟨M2, e1, e2, e3, e4, e5⟩ := c_numL f (i + 1) m' _ (by omega) (hT.sf hs (fun _ => rfl)) (by rw [puI_nj (by omega), puI_nj (by omega)]; exact h1) (puI_eq _ _ _ _) (by rw [puI_nj (by omega)]; exact puI_eq _ _ _ _) (by rw [puI_nj (by omega), puI_nj (by omega), h5, show min 4 i = min 4 (i + 1) by omega]) hd' (by omega)
        exact ⟨M2, e1, e2, e3, e4, hs.tr e5⟩
      · rw [if_neg h4, gdx (by omega) (by omega), Int.toNat_natCast, hT.2.1 (s + i) (by omega), h5]
        have ev : nmb b s (min 4 i) < 10000 := by
          have h1 : nmb b s (min 4 i) < 10 ^ (min 4 i) := nmb_lt _ (fun j hj => hd j (by omega))
          have h2 : 10 ^ (min 4 i) ≤ 10 ^ 4 := Nat.pow_le_pow_right (by omega) (by omega)
          omega
        have ew : wr ((wr ((nmb b s (min 4 i) : Int) * 10)) + (wr ((sby (b (s + i))) - 48))) = (nmb b s (min 4 (i + 1)) : Int) := by
          have e1 : sby (b (s + i)) = (b (s + i) : Int) := by
            unfold sby
            rw [if_pos (by omega)]
          have e2 : nmb b s (min 4 (i + 1)) = nmb b s (min 4 i) * 10 + (b (s + i) - 48) := by
            rw [show min 4 (i + 1) = i + 1 by omega, show min 4 i = i by omega]
            rfl
          rw [e1, e2, wri (x := (nmb b s (min 4 i) : Int) * 10) (by omega) (by omega), wri (x := (b (s + i) : Int) - 48) (by omega) (by omega), wri (by omega) (by omega)]
          omega
        rw [ew]
        have hs : sf P3n M (puI (puI (puI M 30 6 ((i + 1 : Nat) : Int)) 30 5 (nmb b s (min 4 (i + 1)) : Int)) 30 3 ((s + i + 1 : Nat) : Int)) := ((sf.rf.pu rfl _).pu rfl _).pu rfl _
        obtain ⟨M2, e1, e2, e3, e4, e5⟩ := c_numL f (i + 1) m' _ (by omega) (hT.sf hs (fun _ => rfl)) (by rw [puI_nj (by omega), puI_nj (by omega), puI_nj (by omega)]; exact h1) (puI_eq _ _ _ _) (by rw [puI_nj (by omega), puI_nj (by omega)]; exact puI_eq _ _ _ _) (by rw [puI_nj (by omega)]; exact puI_eq _ _ _ _) hd' (by omega)
        exact ⟨M2, e1, e2, e3, e4, hs.tr e5⟩
    · have es : skp b isDg (f + 1) (s + i) = s + i := by
        show (if isDg (b (s + i)) = true then _ else _) = _
        rw [if_neg hb]
      rw [es, show s + i - s = i by omega]
      refine ⟨M, ?_, h3, h5, h6, sf.rf⟩
      rw [Bool.eq_false_iff.2 hb, if_pos (show b01 false = 0 from rfl)]
theorem c_num (hT : TB b n M) (h1 : M.2.1 30 1 = (n : Int)) (h3 : M.2.1 30 3 = (s : Int)) (hs : s ≤ n) : ∃ M', fn X (d + 2) 132 [rv 30] M = oV M' ∧ M'.2.1 30 3 = (skp b isDg (n - s) s : Int) ∧ M'.2.1 30 4 = 2 ∧ M'.2.1 30 5 = (nmb b s (min 4 (skp b isDg (n - s) s - s)) : Int) ∧ M'.2.1 30 6 = ((skp b isDg (n - s) s - s : Nat) : Int) ∧ M'.2.1 30 1 = (n : Int) ∧ M'.2.1 30 2 = M.2.1 30 2 ∧ sf P30 M M' := by
  rw [q_132_30]
  have hs2 : sf P30 M (puI (puI (puI M 30 4 2) 30 5 0) 30 6 0) := ((sf.rf.pu rfl _).pu rfl _).pu rfl _
  have hn := hT.1
  obtain ⟨M2, e1, e2, e3, e4, e5⟩ := c_numL (X := X) (d := d) (s := s) (n - s) 0 FU _ (by omega) (hT.sf hs2 (fun _ => rfl)) (by rw [puI_nj (by omega), puI_nj (by omega), puI_nj (by omega)]; exact h1) (by rw [puI_nj (by omega), puI_nj (by omega), puI_nj (by omega)]; exact h3) (puI_eq _ _ _ _) (by rw [puI_nj (by omega)]; exact puI_eq _ _ _ _) (fun j hj => absurd hj (Nat.not_lt_zero j)) (FU_lt (by omega))
  refine ⟨M2, e1, e2, ?_, e3, e4, ?_, ?_, hs2.tr (e5.mo (fun k j z => ?_))⟩
  · rw [(e5.2 30 4 rfl).1, puI_nj (by omega), puI_nj (by omega)]
    exact puI_eq _ _ _ _
  · rw [(e5.2 30 1 rfl).1, puI_nj (by omega), puI_nj (by omega), puI_nj (by omega)]
    exact h1
  · rw [(e5.2 30 2 rfl).1, puI_nj (by omega), puI_nj (by omega), puI_nj (by omega)]
  · unfold P30 at z
    unfold P3n
    rw [Bool.and_eq_false_iff] at z ⊢
    rcases z with z | z
    · exact Or.inl z
    · rw [decide_eq_false_iff_not] at z
      right
      rw [beq_eq_false_iff_ne.2 (show j ≠ 3 by omega), beq_eq_false_iff_ne.2 (show j ≠ 5 by omega), beq_eq_false_iff_ne.2 (show j ≠ 6 by omega)]
      rfl
/-- the class stands at a token -/
def CT (b : Nat → Nat) (n k : Nat) (M : rM) : Prop := TB b n M ∧ M.2.1 30 1 = (n : Int) ∧ M.2.1 30 2 = (tZ b n k : Int) ∧ M.2.1 30 3 = (bh b n (k + 1) : Int) ∧ M.2.1 30 4 = (tkK (tks b n) k : Int) ∧ (tkK (tks b n) k = 2 → M.2.1 30 5 = (tkV (tks b n) k : Int) ∧ M.2.1 30 6 = (tkD (tks b n) k : Int))
theorem wdk_ge (b : Nat → Nat) (s e : Nat) : 100 ≤ wdk b s e ∧ wdk b s e ≤ 116 := by
  have : ∀ (l : List (List Nat)) (q : Nat), 100 ≤ q → q + l.length ≤ 117 → 100 ≤ wkG b s e l q ∧ wkG b s e l q ≤ 116 := by
    intro l
    induction l with
    | nil =>
      intro q _ _
      exact ⟨Nat.le_refl 100, show (100 : Nat) ≤ 116 by omega⟩
    | cons w l ih =>
      intro q hq hl
      rw [List.length_cons] at hl
      unfold wkG
      split
      · omega
      · exact ih (q + 1) (by omega) (by omega)
  exact this wds 101 (by omega) (by decide)
theorem c_step (hT : TB b n M) (h1 : M.2.1 30 1 = (n : Int)) {k : Nat} (h3 : M.2.1 30 3 = (bh b n k : Int)) : ∃ M', fn X (d + 8) 131 [rv 30] M = oV M' ∧ CT b n k M' ∧ sf P30 M M' := by
  have hn := hT.1
  have hbh := bh_le (b := b) (n := n) k
  rw [(q_131_30 M).trans (q_131_30_at0 (n := FU) M).symm]
  obtain ⟨M1, m, e1, e2, e3⟩ := c_blank (X := X) (d := d + 6) (n - bh b n k) (bh b n k) (FU + 1) M (by omega) hT h1 h3 (by have := FU_lt (k := n - bh b n k + 1) (by omega); omega)
  have e2' : M1.2.1 30 3 = (tZ b n k : Int) := e2
  have hz := tZ_le (b := b) (n := n) k
  have hT1 := hT.sf e3 (fun _ => rfl)
  have f1 : M1.2.1 30 1 = (n : Int) := by rw [(e3.2 30 1 rfl).1]; exact h1
  have e3' : sf P30 M M1 := e3.mo (fun k j z => by
    unfold P30 at z
    unfold P303
    rw [Bool.and_eq_false_iff] at z ⊢
    rcases z with z | z
    · exact Or.inl z
    · rw [decide_eq_false_iff_not] at z
      exact Or.inr (beq_eq_false_iff_ne.2 (by omega)))
  have hk1 : bh b n (k + 1) = tE b n (tZ b n k) := rfl
  have hkk : tkK (tks b n) k = tQ b n (tZ b n k) := rfl
  have hkv : tkV (tks b n) k = nmb b (tZ b n k) (min 4 (tE b n (tZ b n k) - tZ b n k)) := rfl
  have hkd : tkD (tks b n) k = tE b n (tZ b n k) - tZ b n k := rfl
  unfold CT
  rw [hk1, hkk, hkv, hkd]
  generalize tZ b n k = s at *
  rw [e1, q_131_30_at39, e2', f1]
  by_cases hs : n ≤ s
  · have g1 : tE b n s = s := by unfold tE; rw [if_pos hs]
    have g2 : tQ b n s = 0 := by unfold tQ; rw [if_pos hs]
    rw [if_neg (by omega), g1, g2]
    have hs2 : sf P30 M1 (puI (puI M1 30 2 (s : Int)) 30 4 0) := (sf.rf.pu rfl _).pu rfl _
    refine ⟨_, rfl, ⟨hT1.sf hs2 (fun _ => rfl), ?_, ?_, ?_, puI_eq _ _ _ _, fun z => (by cases z)⟩, e3'.tr hs2⟩
    · rw [puI_nj (by omega), puI_nj (by omega)]; exact f1
    · rw [puI_nj (by omega)]; exact puI_eq _ _ _ _
    · rw [puI_nj (by omega), puI_nj (by omega)]; exact e2'
  · have hs2 : sf P30 M1 (puI M1 30 2 (s : Int)) := sf.rf.pu rfl _
    have hT2 := hT1.sf hs2 (fun _ => rfl)
    have i1 : (puI M1 30 2 (s : Int)).2.1 30 1 = (n : Int) := by rw [puI_nj (by omega)]; exact f1
    have i2 : (puI M1 30 2 (s : Int)).2.1 30 2 = (s : Int) := puI_eq _ _ _ _
    have i3 : (puI M1 30 2 (s : Int)).2.1 30 3 = (s : Int) := by rw [puI_nj (by omega)]; exact e2'
    have ht : M1.2.1 1 ((s : Int)).toNat = sby (b s) := by
      rw [Int.toNat_natCast]
      exact hT1.2.1 s (by omega)
    rw [if_pos (by omega), gdx (by omega) (by omega), ht]
    generalize hM : puI M1 30 2 (s : Int) = M2 at *
    have ht2 : M2.2.1 1 ((s : Int)).toNat = sby (b s) := by
      rw [Int.toNat_natCast]
      exact hT2.2.1 s (by omega)
    rw [c_dg (hT2.2.2 s), cI_I]
    by_cases hd : isDg (b s) = true
    · have g1 : tE b n s = skp b isDg (n - s) s := by unfold tE; rw [if_neg hs, if_pos hd]
      have g2 : tQ b n s = 2 := by unfold tQ; rw [if_neg hs, if_pos hd]
      rw [hd, if_neg (by decide), g1, g2]
      obtain ⟨M3, a1, a2, a3, a4, a5, a6, a7, a8⟩ := c_num (X := X) (d := d + 5) hT2 i1 i3 (by omega)
      rw [a1, cV_V]
      exact ⟨M3, rfl, ⟨hT2.sf a8 (fun _ => rfl), a6, a7.trans i2, a2, a3, fun _ => ⟨a4, a5⟩⟩, e3'.tr (hs2.tr a8)⟩
    · rw [Bool.eq_false_iff.2 hd, if_pos (show b01 false = 0 from rfl), i2, gdx (by omega) (by omega), ht2, c_lt (hT2.2.2 s), cI_I]
      by_cases hl : isLt (b s) = true
      · have g1 : tE b n s = skp b isLt (n - s) s := by unfold tE; rw [if_neg hs, if_neg hd, if_pos hl]
        have g2 : tQ b n s = wdk b s (skp b isLt (n - s) s) := by unfold tQ; rw [if_neg hs, if_neg hd, if_pos hl, g1]
        have hw := wdk_ge b s (skp b isLt (n - s) s)
        rw [hl, if_neg (by decide), g1, g2]
        obtain ⟨M3, a1, a2, a3, a4, a5, a6⟩ := c_word (X := X) (d := d + 1) hT2 i1 i2 i3 (by omega)
        rw [a1, cV_V]
        exact ⟨M3, rfl, ⟨hT2.sf a6 (fun _ => rfl), a4, a5, a2, a3, fun z => by omega⟩, e3'.tr (hs2.tr a6)⟩
      · have g1 : tE b n s = s + 1 := by unfold tE; rw [if_neg hs, if_neg hd, if_neg hl]
        rw [Bool.eq_false_iff.2 hl, if_pos (show b01 false = 0 from rfl), i2, gdx (by omega) (by omega), ht2, c_sg (hT2.2.2 s), cI_I, i2, gdx (by omega) (by omega), ht2, i3, wr_succ (by omega), g1]
        by_cases hg : isSg (b s) = true
        · have g2 : tQ b n s = b s := by unfold tQ; rw [if_neg hs, if_neg hd, if_neg hl, if_pos hg]
          have hb : 40 ≤ b s ∧ b s ≤ 61 := by
            unfold isSg at hg
            simp only [Bool.or_eq_true, beq_iff_eq] at hg
            omega
          have hb2 : sby (b s) = (b s : Int) := by
            unfold sby
            rw [if_pos (by omega)]
          rw [hg, if_neg (by decide), g2, hb2]
          have hs3 : sf P30 M2 (puI (puI M2 30 4 (b s : Int)) 30 3 ((s + 1 : Nat) : Int)) := (sf.rf.pu rfl _).pu rfl _
          refine ⟨_, rfl, ⟨hT2.sf hs3 (fun _ => rfl), ?_, ?_, puI_eq _ _ _ _, ?_, fun z => by omega⟩, e3'.tr (hs2.tr hs3)⟩
          · rw [puI_nj (by omega), puI_nj (by omega)]; exact i1
          · rw [puI_nj (by omega), puI_nj (by omega)]; exact i2
          · rw [puI_nj (by omega)]; exact puI_eq _ _ _ _
        · have g2 : tQ b n s = 1 := by unfold tQ; rw [if_neg hs, if_neg hd, if_neg hl, if_neg hg]
          rw [Bool.eq_false_iff.2 hg, if_pos (show b01 false = 0 from rfl), g2]
          have hs3 : sf P30 M2 (puI (puI M2 30 4 1) 30 3 ((s + 1 : Nat) : Int)) := (sf.rf.pu rfl _).pu rfl _
          refine ⟨_, rfl, ⟨hT2.sf hs3 (fun _ => rfl), ?_, ?_, puI_eq _ _ _ _, ?_, fun z => by omega⟩, e3'.tr (hs2.tr hs3)⟩
          · rw [puI_nj (by omega), puI_nj (by omega)]; exact i1
          · rw [puI_nj (by omega), puI_nj (by omega)]; exact i2
          · rw [puI_nj (by omega)]; exact puI_eq _ _ _ _
theorem CT.step {k : Nat} (h : CT b n k M) : ∃ M', fn X (d + 8) 131 [rv 30] M = oV M' ∧ CT b n (k + 1) M' ∧ sf P30 M M' := c_step h.1 h.2.1 h.2.2.2.1
end C85c
