/-! ===== a text's lines, pure ===== -/
/-- the sky so far, and its coins -/
abbrev DF : Type := SK × Option Nat
def pNums (t : TS) : List Nat → Nat → (Nat × Nat) ⊕ (Nat × List Nat)
  | [], k => .inr (k, [])
  | h :: hs, k => match pNum t 0 (h : Int) k with
    | .inl x => .inl x
    | .inr v => match pNums t hs (k + 1) with
      | .inl x => .inl x
      | .inr (k', l) => .inr (k', v :: l)
def rw1 (f : Nat → Nat → Nat) (n : Nat) (l : List Nat) : Nat → Nat → Nat := fun c j => if c = n then l.getD j 0 else f c j
def aC (D : DF) (l : List Nat) : DF := (((nC D.1 + 1, nT D.1, nH D.1, nL D.1), rw1 (cre D.1) (nC D.1) l, tri D.1, hun D.1, tal D.1, riv D.1, rul D.1), D.2)
def aQ (D : DF) (l : List Nat) : DF := (((nC D.1, nT D.1 + 1, nH D.1, nL D.1), cre D.1, rw1 (tri D.1) (nT D.1) l, hun D.1, tal D.1, riv D.1, rul D.1), D.2)
def aH (D : DF) (l : List Nat) : DF := (((nC D.1, nT D.1, nH D.1 + 1, nL D.1), cre D.1, tri D.1, rw1 (hun D.1) (nH D.1) l, tal D.1, riv D.1, rul D.1), D.2)
def aL (D : DF) (l : List Nat) : DF := (((nC D.1, nT D.1, nH D.1, nL D.1 + 1), cre D.1, tri D.1, hun D.1, (fun c => if c = nL D.1 then l.getD 0 0 else tal D.1 c), riv D.1, rul D.1), D.2)
def aV (D : DF) (v : Nat) : DF := (((nC D.1, nT D.1, nH D.1, nL D.1), cre D.1, tri D.1, hun D.1, tal D.1, v, rul D.1), D.2)
def aU (D : DF) (r : List Int) : DF := (((nC D.1, nT D.1, nH D.1, nL D.1), cre D.1, tri D.1, hun D.1, tal D.1, riv D.1, r), D.2)
def aN (D : DF) (v : Nat) : DF := (D.1, some v)
abbrev LZ2 : Type := (Nat × Nat) ⊕ (Nat × DF)
def lz1 (f : List Nat → DF) : (Nat × Nat) ⊕ (Nat × List Nat) → LZ2
  | .inl x => .inl x
  | .inr (k, l) => .inr (k, f l)
def lz2 (k : Nat) (f : Nat → DF) : (Nat × Nat) ⊕ Nat → LZ2
  | .inl x => .inl x
  | .inr v => .inr (k, f v)
def lz3 (f : List Int → DF) : PZ → LZ2
  | .inl x => .inl x
  | .inr (k, r) => .inr (k, f r)
def pBody (t : TS) (q k : Nat) (D : DF) : LZ2 :=
  if q = 101 then (if nC D.1 = 6 then .inl (2, k) else lz1 (aC D) (pNums t [60, 63, 9, 99, 9] (k + 1)))
  else if q = 102 then (if nT D.1 = 8 then .inl (2, k) else lz1 (aQ D) (pNums t [63, 63, 63, 63, 20, 20] (k + 1)))
  else if q = 103 then (if nH D.1 = 6 then .inl (2, k) else lz1 (aH D) (pNums t [60, 999] (k + 1)))
  else if q = 104 then (if nL D.1 = 8 then .inl (2, k) else lz1 (aL D) (pNums t [1023] (k + 1)))
  else if q = 105 then (if D.2.isSome = true then .inl (5, k) else lz2 (k + 2) (aN D) (pNum t 0 999 (k + 1)))
  else if q = 106 then (if riv D.1 ≠ 0 then .inl (5, k) else lz2 (k + 2) (aV D) (pNum t 1 30 (k + 1)))
  else if q = 107 then (if rul D.1 ≠ [] then .inl (5, k) else lz3 (aU D) (pE t 6 (k + 1) []))
  else .inl (1, k)
def pEnd (t : TS) : LZ2 → LZ2
  | .inl x => .inl x
  | .inr (k, D) => if tkK t k = 59 then .inr (k + 1, D) else .inl (1, k)
def pSky (t : TS) : Nat → Nat → DF → (Nat × Nat) ⊕ DF
  | 0, _, D => .inr D
  | f + 1, k, D => if tkK t k = 0 then .inr D else match pEnd t (pBody t (tkK t k) k D) with
    | .inl x => .inl x
    | .inr (k', D') => pSky t f k' D'
def DFo (D : DF) : Prop := WF D.1 ∧ WR D.1 ∧ (∀ v, D.2 = some v → v ≤ 999) ∧ (rul D.1).length ≤ 699
section C89
variable {t : TS} {k k' : Nat} {D D' : DF}
theorem pNum_ok {lo hi : Int} {v : Nat} (h : pNum t lo hi k = .inr v) : tkK t k = 2 ∧ v = tkV t k ∧ lo ≤ (v : Int) ∧ (v : Int) ≤ hi := by
  unfold pNum at h
  by_cases h2 : tkK t k = 2
  · rw [if_pos h2] at h
    by_cases h4 : 4 < tkD t k ∨ (tkV t k : Int) < lo ∨ hi < (tkV t k : Int)
    · rw [if_pos h4] at h
      cases h
    · rw [if_neg h4] at h
      cases h
      exact ⟨h2, rfl, by omega, by omega⟩
  · rw [if_neg h2] at h
    cases h
theorem pNum_no {lo hi : Int} {x : Nat × Nat} (h : pNum t lo hi k = .inl x) : x.2 = k ∧ x.1 ≠ 0 := by
  unfold pNum at h
  by_cases h2 : tkK t k = 2
  · rw [if_pos h2] at h
    by_cases h4 : 4 < tkD t k ∨ (tkV t k : Int) < lo ∨ hi < (tkV t k : Int)
    · rw [if_pos h4] at h
      cases h
      exact ⟨rfl, Nat.succ_ne_zero _⟩
    · rw [if_neg h4] at h
      cases h
  · rw [if_neg h2] at h
    cases h
    exact ⟨rfl, Nat.succ_ne_zero _⟩
theorem pNums_ok (hT : Tok t) : ∀ (hs : List Nat) (k k' : Nat) (l : List Nat), pNums t hs k = .inr (k', l) → k ≤ 700 → l.length = hs.length ∧ (∀ i, i < hs.length → l.getD i 0 ≤ hs.getD i 0) ∧ k ≤ k' ∧ k' ≤ 700
  | [], k, k', l, h, hk => by
    cases h
    exact ⟨rfl, fun i hi => (by cases hi), Nat.le_refl _, hk⟩
  | a :: hs, k, k', l, h, hk => by
    unfold pNums at h
    cases e : pNum t 0 (a : Int) k with
    | inl x =>
      rw [e] at h
      cases h
    | inr v =>
      rw [e] at h
      dsimp only at h
      obtain ⟨v1, v2, v3, v4⟩ := pNum_ok e
      have hk7 : k < 700 := hT k (by omega)
      cases e2 : pNums t hs (k + 1) with
      | inl x =>
        rw [e2] at h
        cases h
      | inr y =>
        obtain ⟨k2, l2⟩ := y
        rw [e2] at h
        cases h
        obtain ⟨i1, i2, i3, i4⟩ := pNums_ok hT hs (k + 1) _ _ e2 (by omega)
        refine ⟨by rw [List.length_cons, List.length_cons, i1], fun i hi => ?_, by omega, i4⟩
        cases i with
        | zero =>
          show v ≤ a
          omega
        | succ i =>
          rw [List.getD_cons_succ, List.getD_cons_succ]
          rw [List.length_cons] at hi
          exact i2 i (by omega)
theorem DFo_C (h : DFo D) (h6 : nC D.1 ≠ 6) {l : List Nat} (hl : ∀ i, i < 5 → l.getD i 0 ≤ [60, 63, 9, 99, 9].getD i 0) : DFo (aC D l) := by
  obtain ⟨⟨w1, w2, w3, w4, w5, w6, w7, w8, w9⟩, h2, h3⟩ := h
  refine ⟨⟨?_, w2, w3, w4, fun c hc => ?_, w6, w7, w8, w9⟩, h2, h3⟩
  · show nC D.1 + 1 ≤ 6
    omega
  · replace hc : c < nC D.1 + 1 := hc
    show (if c = nC D.1 then l.getD 0 0 else cre D.1 c 0) ≤ 60 ∧ (if c = nC D.1 then l.getD 1 0 else cre D.1 c 1) ≤ 63 ∧ (if c = nC D.1 then l.getD 2 0 else cre D.1 c 2) ≤ 9 ∧ (if c = nC D.1 then l.getD 3 0 else cre D.1 c 3) ≤ 99 ∧ (if c = nC D.1 then l.getD 4 0 else cre D.1 c 4) ≤ 9
    by_cases e : c = nC D.1
    · rw [if_pos e, if_pos e, if_pos e, if_pos e, if_pos e]
      exact ⟨hl 0 (by omega), hl 1 (by omega), hl 2 (by omega), hl 3 (by omega), hl 4 (by omega)⟩
    · rw [if_neg e, if_neg e, if_neg e, if_neg e, if_neg e]
      exact w5 c (by omega)
theorem DFo_Q (h : DFo D) (h6 : nT D.1 ≠ 8) {l : List Nat} (hl : ∀ i, i < 6 → l.getD i 0 ≤ [63, 63, 63, 63, 20, 20].getD i 0) : DFo (aQ D l) := by
  obtain ⟨⟨w1, w2, w3, w4, w5, w6, w7, w8, w9⟩, h2, h3⟩ := h
  refine ⟨⟨w1, ?_, w3, w4, w5, fun c hc => ?_, w7, w8, w9⟩, h2, h3⟩
  · show nT D.1 + 1 ≤ 8
    omega
  · replace hc : c < nT D.1 + 1 := hc
    show (if c = nT D.1 then l.getD 0 0 else tri D.1 c 0) ≤ 63 ∧ (if c = nT D.1 then l.getD 1 0 else tri D.1 c 1) ≤ 63 ∧ (if c = nT D.1 then l.getD 2 0 else tri D.1 c 2) ≤ 63 ∧ (if c = nT D.1 then l.getD 3 0 else tri D.1 c 3) ≤ 63 ∧ (if c = nT D.1 then l.getD 4 0 else tri D.1 c 4) ≤ 20 ∧ (if c = nT D.1 then l.getD 5 0 else tri D.1 c 5) ≤ 20
    by_cases e : c = nT D.1
    · rw [if_pos e, if_pos e, if_pos e, if_pos e, if_pos e, if_pos e]
      exact ⟨hl 0 (by omega), hl 1 (by omega), hl 2 (by omega), hl 3 (by omega), hl 4 (by omega), hl 5 (by omega)⟩
    · rw [if_neg e, if_neg e, if_neg e, if_neg e, if_neg e, if_neg e]
      exact w6 c (by omega)
theorem DFo_H (h : DFo D) (h6 : nH D.1 ≠ 6) {l : List Nat} (hl : ∀ i, i < 2 → l.getD i 0 ≤ [60, 999].getD i 0) : DFo (aH D l) := by
  obtain ⟨⟨w1, w2, w3, w4, w5, w6, w7, w8, w9⟩, h2, h3⟩ := h
  refine ⟨⟨w1, w2, ?_, w4, w5, w6, fun c hc => ?_, w8, w9⟩, h2, h3⟩
  · show nH D.1 + 1 ≤ 6
    omega
  · replace hc : c < nH D.1 + 1 := hc
    show (if c = nH D.1 then l.getD 0 0 else hun D.1 c 0) ≤ 60 ∧ (if c = nH D.1 then l.getD 1 0 else hun D.1 c 1) ≤ 999
    by_cases e : c = nH D.1
    · rw [if_pos e, if_pos e]
      exact ⟨hl 0 (by omega), hl 1 (by omega)⟩
    · rw [if_neg e, if_neg e]
      exact w7 c (by omega)
theorem DFo_L (h : DFo D) (h6 : nL D.1 ≠ 8) {l : List Nat} (hl : ∀ i, i < 1 → l.getD i 0 ≤ [1023].getD i 0) : DFo (aL D l) := by
  obtain ⟨⟨w1, w2, w3, w4, w5, w6, w7, w8, w9⟩, h2, h3⟩ := h
  refine ⟨⟨w1, w2, w3, ?_, w5, w6, w7, fun c hc => ?_, w9⟩, h2, h3⟩
  · show nL D.1 + 1 ≤ 8
    omega
  · replace hc : c < nL D.1 + 1 := hc
    show (if c = nL D.1 then l.getD 0 0 else tal D.1 c) ≤ 1023
    by_cases e : c = nL D.1
    · rw [if_pos e]
      exact hl 0 (by omega)
    · rw [if_neg e]
      exact w8 c (by omega)
theorem pBody_ok (hT : Tok t) (hV : TokV t) (hD : DFo D) (h0 : tkK t k ≠ 0) (h : pBody t (tkK t k) k D = .inr (k', D')) : DFo D' ∧ k < k' ∧ k' ≤ 700 := by
  have hk : k < 700 := hT k h0
  have hrow : ∀ (hs : List Nat) (f : List Nat → DF), lz1 f (pNums t hs (k + 1)) = .inr (k', D') → ∃ l, D' = f l ∧ (∀ i, i < hs.length → l.getD i 0 ≤ hs.getD i 0) ∧ k < k' ∧ k' ≤ 700 := by
    intro hs f z
    cases e : pNums t hs (k + 1) with
    | inl x =>
      rw [e] at z
      cases z
    | inr y =>
      obtain ⟨k2, l⟩ := y
      rw [e] at z
      cases z
      obtain ⟨i1, i2, i3, i4⟩ := pNums_ok hT hs (k + 1) _ _ e (by omega)
      exact ⟨l, rfl, i2, by omega, i4⟩
  have hone : ∀ (lo hi : Int) (f : Nat → DF), lz2 (k + 2) f (pNum t lo hi (k + 1)) = .inr (k', D') → ∃ v : Nat, D' = f v ∧ lo ≤ (v : Int) ∧ (v : Int) ≤ hi ∧ k < k' ∧ k' ≤ 700 := by
    intro lo hi f z
    cases e : pNum t lo hi (k + 1) with
    | inl x =>
      rw [e] at z
      cases z
    | inr v =>
      rw [e] at z
      cases z
      obtain ⟨v1, v2, v3, v4⟩ := pNum_ok e
      have := hT (k + 1) (by omega)
      exact ⟨v, rfl, v3, v4, by omega, by omega⟩
  unfold pBody at h
  by_cases q1 : tkK t k = 101
  · rw [if_pos q1] at h
    by_cases c : nC D.1 = 6
    · rw [if_pos c] at h
      cases h
    · rw [if_neg c] at h
      obtain ⟨l, rfl, a, b⟩ := hrow _ _ h
      exact ⟨DFo_C hD c a, b⟩
  rw [if_neg q1] at h
  by_cases q2 : tkK t k = 102
  · rw [if_pos q2] at h
    by_cases c : nT D.1 = 8
    · rw [if_pos c] at h
      cases h
    · rw [if_neg c] at h
      obtain ⟨l, rfl, a, b⟩ := hrow _ _ h
      exact ⟨DFo_Q hD c a, b⟩
  rw [if_neg q2] at h
  by_cases q3 : tkK t k = 103
  · rw [if_pos q3] at h
    by_cases c : nH D.1 = 6
    · rw [if_pos c] at h
      cases h
    · rw [if_neg c] at h
      obtain ⟨l, rfl, a, b⟩ := hrow _ _ h
      exact ⟨DFo_H hD c a, b⟩
  rw [if_neg q3] at h
  by_cases q4 : tkK t k = 104
  · rw [if_pos q4] at h
    by_cases c : nL D.1 = 8
    · rw [if_pos c] at h
      cases h
    · rw [if_neg c] at h
      obtain ⟨l, rfl, a, b⟩ := hrow _ _ h
      exact ⟨DFo_L hD c a, b⟩
  rw [if_neg q4] at h
  by_cases q5 : tkK t k = 105
  · rw [if_pos q5] at h
    by_cases c : D.2.isSome = true
    · rw [if_pos c] at h
      cases h
    · rw [if_neg c] at h
      obtain ⟨v, rfl, v1, v2, b⟩ := hone _ _ _ h
      refine ⟨⟨hD.1, hD.2.1, fun w hw => ?_, hD.2.2.2⟩, b⟩
      cases hw
      omega
  rw [if_neg q5] at h
  by_cases q6 : tkK t k = 106
  · rw [if_pos q6] at h
    by_cases c : riv D.1 ≠ 0
    · rw [if_pos c] at h
      cases h
    · rw [if_neg c] at h
      obtain ⟨v, rfl, v1, v2, b⟩ := hone _ _ _ h
      obtain ⟨⟨w1, w2, w3, w4, w5, w6, w7, w8, w9⟩, h2, h3⟩ := hD
      refine ⟨⟨⟨w1, w2, w3, w4, w5, w6, w7, w8, ?_⟩, h2, h3⟩, b⟩
      show v ≤ 30
      omega
  rw [if_neg q6] at h
  by_cases q7 : tkK t k = 107
  · rw [if_pos q7] at h
    by_cases c : rul D.1 ≠ []
    · rw [if_pos c] at h
      cases h
    · rw [if_neg c] at h
      cases e : pE t 6 (k + 1) [] with
      | inl x =>
        rw [e] at h
        cases h
      | inr y =>
        obtain ⟨k2, r⟩ := y
        rw [e] at h
        cases h
        obtain ⟨e1, e2, e3, e4⟩ := pE_wr hT hV e
        obtain ⟨⟨w1, w2, w3, w4, w5, w6, w7, w8, w9⟩, h2, h3⟩ := hD
        refine ⟨⟨⟨w1, w2, w3, w4, w5, w6, w7, w8, w9⟩, Or.inr ⟨e1, ?_⟩, h3.1, ?_⟩, by omega, e4⟩
        · show r.length ≤ 700
          omega
        · show r.length ≤ 699
          omega
  rw [if_neg q7] at h
  cases h
theorem pEnd_in {y : LZ2} (h : pEnd t y = .inr (k', D')) : ∃ k, y = .inr (k, D') ∧ tkK t k = 59 ∧ k' = k + 1 := by
  cases y with
  | inl x => cases h
  | inr z =>
    obtain ⟨k, D⟩ := z
    unfold pEnd at h
    dsimp only at h
    by_cases e : tkK t k = 59
    · rw [if_pos e] at h
      cases h
      exact ⟨k, rfl, e, rfl⟩
    · rw [if_neg e] at h
      cases h
theorem pSky_ok (hT : Tok t) (hV : TokV t) : ∀ (f k : Nat) (D D' : DF), DFo D → pSky t f k D = .inr D' → DFo D'
  | 0, k, D, D', hD, h => by
    cases h
    exact hD
  | f + 1, k, D, D', hD, h => by
    unfold pSky at h
    by_cases h0 : tkK t k = 0
    · rw [if_pos h0] at h
      cases h
      exact hD
    · rw [if_neg h0] at h
      cases e : pEnd t (pBody t (tkK t k) k D) with
      | inl x =>
        rw [e] at h
        cases h
      | inr y =>
        obtain ⟨k2, D2⟩ := y
        rw [e] at h
        obtain ⟨k3, e1, e2, e3⟩ := pEnd_in e
        exact pSky_ok hT hV f k2 D2 D' (pBody_ok hT hV hD h0 e1).1 h
end C89
