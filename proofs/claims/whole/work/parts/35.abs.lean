/-! ===== what both sides hold ===== -/
/-- what a text tells: counts, creatures (strength, beliefs, wary, price, help), tricks (needs, bars, gives, takes, cord, cost), hunters (skill, purse), tales, the rival's days (0: none), the rule -/
abbrev SK : Type := (Nat × Nat × Nat × Nat) × (Nat → Nat → Nat) × (Nat → Nat → Nat) × (Nat → Nat → Nat) × (Nat → Nat) × Nat × List Int
def nC (S : SK) : Nat := S.1.1
def nT (S : SK) : Nat := S.1.2.1
def nH (S : SK) : Nat := S.1.2.2.1
def nL (S : SK) : Nat := S.1.2.2.2
def cre (S : SK) : Nat → Nat → Nat := S.2.1
def tri (S : SK) : Nat → Nat → Nat := S.2.2.1
def hun (S : SK) : Nat → Nat → Nat := S.2.2.2.1
def tal (S : SK) : Nat → Nat := S.2.2.2.2.1
def riv (S : SK) : Nat := S.2.2.2.2.2.1
def rul (S : SK) : List Int := S.2.2.2.2.2.2
/-- coins, day, guard + 1, then by creature: beliefs, wary, cord, fate -/
abbrev WD : Type := Nat → Nat
def wv (W : WD) (j : Nat) : Int := if j = 2 then (W 2 : Int) - 1 else (W j : Int)
def okI (n j : Nat) : Prop := j < 3 ∨ (3 ≤ j ∧ j < 27 ∧ (j - 3) % 6 < n)
def cl (j : Nat) : Nat := if j < 3 then j else 4 * ((j - 3) % 6) + 3 + (j - 3) / 6
def CW (k off n : Nat) (W : WD) (M : rM) : Prop := ∀ j, okI n j → M.2.1 k (off + cl j) = wv W j
def MW (k off n : Nat) (W : WD) (M : rM) : Prop := ∀ j, okI n j → M.2.1 k (off + j) = wv W j
theorem CW.coins {k off n : Nat} {W : WD} {M : rM} (h : CW k off n W M) : M.2.1 k off = (W 0 : Int) := h 0 (Or.inl (by omega))
theorem CW.day {k off n : Nat} {W : WD} {M : rM} (h : CW k off n W M) : M.2.1 k (off + 1) = (W 1 : Int) := h 1 (Or.inl (by omega))
theorem CW.guard {k off n : Nat} {W : WD} {M : rM} (h : CW k off n W M) : M.2.1 k (off + 2) = (W 2 : Int) - 1 := h 2 (Or.inl (by omega))
theorem CW.cell {k off n : Nat} {W : WD} {M : rM} (h : CW k off n W M) {c q : Nat} (hc : c < n) (hn : n ≤ 6) (hq : q < 4) : M.2.1 k (off + (4 * c + 3 + q)) = (W (3 + 6 * q + c) : Int) := by
  have h1 := h (3 + 6 * q + c) (Or.inr ⟨by omega, by omega, by omega⟩)
  have h2 : cl (3 + 6 * q + c) = 4 * c + 3 + q := by
    unfold cl
    rw [if_neg (by omega)]
    omega
  rw [h2] at h1
  rw [h1]
  unfold wv
  rw [if_neg (by omega)]
theorem MW.coins {k off n : Nat} {W : WD} {M : rM} (h : MW k off n W M) : M.2.1 k off = (W 0 : Int) := h 0 (Or.inl (by omega))
theorem MW.day {k off n : Nat} {W : WD} {M : rM} (h : MW k off n W M) : M.2.1 k (off + 1) = (W 1 : Int) := h 1 (Or.inl (by omega))
theorem MW.guard {k off n : Nat} {W : WD} {M : rM} (h : MW k off n W M) : M.2.1 k (off + 2) = (W 2 : Int) - 1 := h 2 (Or.inl (by omega))
theorem MW.cell {k off n : Nat} {W : WD} {M : rM} (h : MW k off n W M) {c q : Nat} (hc : c < n) (hn : n ≤ 6) (hq : q < 4) : M.2.1 k (off + (3 + 6 * q + c)) = (W (3 + 6 * q + c) : Int) := by
  have h1 := h (3 + 6 * q + c) (Or.inr ⟨by omega, by omega, by omega⟩)
  rw [h1]
  unfold wv
  rw [if_neg (by omega)]
/-- numbers as a text may tell them -/
def WF (S : SK) : Prop := nC S ≤ 6 ∧ nT S ≤ 8 ∧ nH S ≤ 6 ∧ nL S ≤ 8 ∧
  (∀ c, c < nC S → cre S c 0 ≤ 60 ∧ cre S c 1 ≤ 63 ∧ cre S c 2 ≤ 9 ∧ cre S c 3 ≤ 99 ∧ cre S c 4 ≤ 9) ∧
  (∀ t, t < nT S → tri S t 0 ≤ 63 ∧ tri S t 1 ≤ 63 ∧ tri S t 2 ≤ 63 ∧ tri S t 3 ≤ 63 ∧ tri S t 4 ≤ 20 ∧ tri S t 5 ≤ 20) ∧
  (∀ h, h < nH S → hun S h 0 ≤ 60 ∧ hun S h 1 ≤ 999) ∧ (∀ l, l < nL S → tal S l ≤ 1023) ∧ riv S ≤ 30
/-- a state as it may come to be -/
def WW (S : SK) (W : WD) : Prop := W 0 ≤ 999 ∧ W 2 ≤ nC S ∧ ∀ c, c < nC S → W (3 + c) ≤ 63 ∧ W (9 + c) ≤ 9 ∧ W (15 + c) ≤ 60 ∧ W (21 + c) ≤ 2
/-- the class's tables -/
def CS (S : SK) (M : rM) : Prop := M.2.1 4 3 = (nC S : Int) ∧ M.2.1 6 3 = (nT S : Int) ∧ M.2.1 8 3 = (nH S : Int) ∧ M.2.1 10 3 = (nL S : Int) ∧
  (∀ c j, c < nC S → j < 5 → M.2.1 5 (5 * c + j) = (cre S c j : Int)) ∧ (∀ t j, t < nT S → j < 6 → M.2.1 7 (6 * t + j) = (tri S t j : Int)) ∧
  (∀ h j, h < nH S → j < 2 → M.2.1 9 (2 * h + j) = (hun S h j : Int)) ∧ (∀ l, l < nL S → M.2.1 11 l = (tal S l : Int)) ∧ M.2.1 3 6 = (riv S : Int) ∧
  M.2.1 12 3 = ((rul S).length : Int) ∧ (∀ i, i < (rul S).length → M.2.1 13 i = (rul S).getD i 0)
/-- the model's code of a rule's step -/
def enc (x : Int) : List Int := if 0 ≤ x then [1, x] else if -6 ≤ x then [2, -1 - x] else if x = -10 then [5] else if x = -11 then [4] else if x = -12 then [3] else if x = -13 then [6] else if x = -14 then [7] else if x = -15 then [8] else if x = -16 then [9] else if x = -17 then [10] else [11]
def encs (l : List Int) : List Int := l.flatMap enc
/-- the model's tables -/
def MS (S : SK) (M : rM) : Prop := M.2.1 59 1 = (nC S : Int) ∧ M.2.1 59 2 = (nT S : Int) ∧ M.2.1 59 3 = (nH S : Int) ∧ M.2.1 59 4 = (nL S : Int) ∧
  (∀ c, c < nC S → M.2.1 60 c = (cre S c 0 : Int) ∧ M.2.1 61 c = (cre S c 3 : Int) ∧ M.2.1 62 c = (cre S c 4 : Int)) ∧
  (∀ t, t < nT S → M.2.1 63 t = (tri S t 0 : Int) ∧ M.2.1 64 t = (tri S t 1 : Int) ∧ M.2.1 65 t = (tri S t 2 : Int) ∧ M.2.1 66 t = (tri S t 3 : Int) ∧ M.2.1 67 t = (tri S t 4 : Int) ∧ M.2.1 68 t = (tri S t 5 : Int)) ∧
  (∀ h, h < nH S → M.2.1 69 h = (hun S h 0 : Int) ∧ M.2.1 70 h = (hun S h 1 : Int)) ∧ (∀ l, l < nL S → M.2.1 71 l = (tal S l : Int)) ∧
  ((riv S = 0 ∧ (M.2.1 59 5 = -1 ∨ M.2.1 59 5 = 0)) ∨ (riv S ≠ 0 ∧ M.2.1 59 5 = (riv S : Int))) ∧
  ((rul S = [] ∧ M.2.1 59 6 = -1) ∨ (rul S ≠ [] ∧ ∃ a : Nat, M.2.1 59 6 = (a : Int) ∧ a + (encs (rul S)).length < 1400 ∧ (∀ i, i < (encs (rul S)).length → M.2.1 72 (a + i) = (encs (rul S)).getD i 0) ∧ M.2.1 72 (a + (encs (rul S)).length) = 0))
/-! sets of numbers -/
def setN (p : Nat → Bool) : Nat → Nat
  | 0 => 0
  | c + 1 => if p c then setN p c ||| 2 ^ c else setN p c
theorem setN_lt (p : Nat → Bool) : ∀ n, setN p n < 2 ^ n
  | 0 => by unfold setN; omega
  | n + 1 => by
    have h := setN_lt p n
    have h2 : 2 ^ n < 2 ^ (n + 1) := Nat.pow_lt_pow_right (by omega) (by omega)
    unfold setN
    split
    · exact Nat.or_lt_two_pow (by omega) h2
    · omega
theorem setN_bit (p : Nat → Bool) : ∀ n i, (setN p n).testBit i = (decide (i < n) && p i)
  | 0, i => by simp [setN]
  | n + 1, i => by
    unfold setN
    have ih := setN_bit p n i
    split
    · rename_i h
      rw [Nat.testBit_or, ih, Nat.testBit_two_pow]
      by_cases h1 : i = n
      · subst h1
        simp [h]
      · have : (decide (i < n + 1)) = decide (i < n) := by
          congr 1
          apply propext
          omega
        rw [this]
        simp [Ne.symm h1]
    · rename_i h
      rw [ih]
      by_cases h1 : i = n
      · subst h1
        simp [h]
      · have : (decide (i < n + 1)) = decide (i < n) := by
          congr 1
          apply propext
          omega
        rw [this]
theorem setN_congr {p q : Nat → Bool} : ∀ {n : Nat}, (∀ c, c < n → p c = q c) → setN p n = setN q n
  | 0, _ => rfl
  | n + 1, h => by
    unfold setN
    rw [h n (by omega), setN_congr (fun c hc => h c (by omega))]
/-- 'set | 1 << c' -/
theorem set_or {s c : Nat} (hs : s < 2 ^ 31) (hc : c < 31) : ior (s : Int) (ishl 1 (c : Int)) = ((s ||| 2 ^ c : Nat) : Int) := by
  have h1 : 2 ^ c < 2147483648 := Nat.pow_lt_pow_right (a := 2) (by omega) (show c < 31 from hc)
  have h2 : ishl 1 (c : Int) = ((2 ^ c : Nat) : Int) := by
    have := ishl_nat (a := 1) (k := c) (by omega) (by omega)
    rw [Nat.one_mul] at this
    exact this
  rw [h2, ior_nat hs h1]
theorem wr_succ {c : Nat} (h : c < 2147483647) : wr ((c : Int) + 1) = ((c + 1 : Nat) : Int) := by
  rw [wri (by omega) (by omega)]
  rfl
/-- a loop whose states are known -/
theorem loop_up {P : Nat → Nat → Option rO} {R : Option rO} (N : Nat) (hs : ∀ n c, c < N → P (n + 1) c = P n (c + 1) ∨ P (n + 1) c = R) (he : ∀ n, P (n + 1) N = R) : ∀ (k c n : Nat), c + k = N → k < n → P n c = R
  | 0, c, n, h, hn => by
    obtain ⟨m, rfl⟩ : ∃ m, n = m + 1 := ⟨n - 1, by omega⟩
    have : c = N := by omega
    subst this
    exact he m
  | k + 1, c, n, h, hn => by
    obtain ⟨m, rfl⟩ : ∃ m, n = m + 1 := ⟨n - 1, by omega⟩
    rcases hs m c (by omega) with h1 | h1
    · rw [h1]
      exact loop_up N hs he k (c + 1) m (by omega) (by omega)
    · exact h1
/-- .. whose states are not -/
theorem loop_st {σ : Type} (Inv : Nat → σ → Prop) (P : Nat → Nat → σ → Option rO) (Q : Option rO → Prop) (N : Nat) (hs : ∀ n c s, c < N → Inv c s → (∃ s', P (n + 1) c s = P n (c + 1) s' ∧ Inv (c + 1) s') ∨ Q (P (n + 1) c s)) (he : ∀ n s, Inv N s → Q (P (n + 1) N s)) : ∀ (k c n : Nat) (s : σ), c + k = N → k < n → Inv c s → Q (P n c s)
  | 0, c, n, s, h, hn, hi => by
    obtain ⟨m, rfl⟩ : ∃ m, n = m + 1 := ⟨n - 1, by omega⟩
    have : c = N := by omega
    subst this
    exact he m s hi
  | k + 1, c, n, s, h, hn, hi => by
    obtain ⟨m, rfl⟩ : ∃ m, n = m + 1 := ⟨n - 1, by omega⟩
    rcases hs m c s (by omega) hi with ⟨s', h1, h2⟩ | h1
    · rw [h1]
      exact loop_st Inv P Q N hs he k (c + 1) m s' (by omega) (by omega) h2
    · exact h1
theorem FU_lt {k : Nat} (h : k < 1000000) : k < FU := Nat.lt_of_lt_of_le h FU_ge
