/-! ===== tokens of a text of bytes, pure ===== -/
def skp (b : Nat → Nat) (p : Nat → Bool) : Nat → Nat → Nat
  | 0, i => i
  | f + 1, i => if p (b i) = true then skp b p f (i + 1) else i
def isBl (c : Nat) : Bool := c == 32 || c == 10
def isDg (c : Nat) : Bool := decide (48 ≤ c) && decide (c ≤ 57)
def isLt (c : Nat) : Bool := decide (97 ≤ c) && decide (c ≤ 122)
def isSg (c : Nat) : Bool := c == 40 || c == 41 || c == 42 || c == 43 || c == 45 || c == 47 || c == 59 || c == 60 || c == 61
def wds : List (List Nat) := [[99, 114, 101, 97, 116, 117, 114, 101], [116, 114, 105, 99, 107], [104, 117, 110, 116, 101, 114], [116, 97, 108, 101], [99, 111, 105, 110, 115], [114, 105, 118, 97, 108], [98, 111, 117, 110, 100], [111, 114], [97, 110, 100], [110, 111, 116], [99, 111, 114, 100], [115, 116, 114, 101, 110, 103, 116, 104], [119, 97, 114, 121], [98, 101, 108, 105, 101, 102, 115], [112, 114, 105, 99, 101], [104, 101, 108, 112]]
def spl (b : Nat → Nat) : List Nat → Nat → Bool
  | [], _ => true
  | c :: w, s => b s == c && spl b w (s + 1)
def spx (b : Nat → Nat) (s e : Nat) (w : List Nat) : Bool := e - s == w.length && spl b w s
def wkG (b : Nat → Nat) (s e : Nat) : List (List Nat) → Nat → Nat
  | [], _ => 100
  | w :: l, q => if spx b s e w = true then q else wkG b s e l (q + 1)
def wdk (b : Nat → Nat) (s e : Nat) : Nat := wkG b s e wds 101
def nmb (b : Nat → Nat) (s : Nat) : Nat → Nat
  | 0 => 0
  | m + 1 => nmb b s m * 10 + (b (s + m) - 48)
def tA (b : Nat → Nat) (n p : Nat) : Nat := skp b isBl (n - p) p
def tE (b : Nat → Nat) (n s : Nat) : Nat := if n ≤ s then s else if isDg (b s) = true then skp b isDg (n - s) s else if isLt (b s) = true then skp b isLt (n - s) s else s + 1
def tQ (b : Nat → Nat) (n s : Nat) : Nat := if n ≤ s then 0 else if isDg (b s) = true then 2 else if isLt (b s) = true then wdk b s (tE b n s) else if isSg (b s) = true then b s else 1
/-- where the reading stands ahead of a token -/
def bh (b : Nat → Nat) (n : Nat) : Nat → Nat
  | 0 => 0
  | k + 1 => tE b n (tA b n (bh b n k))
def tZ (b : Nat → Nat) (n k : Nat) : Nat := tA b n (bh b n k)
def tks (b : Nat → Nat) (n : Nat) : TS := fun k => (tZ b n k, tQ b n (tZ b n k), nmb b (tZ b n k) (min 4 (tE b n (tZ b n k) - tZ b n k)), tE b n (tZ b n k) - tZ b n k)
section C85
variable {b : Nat → Nat} {p : Nat → Bool} {n : Nat}
theorem skp_ge : ∀ (f i : Nat), i ≤ skp b p f i ∧ skp b p f i ≤ i + f
  | 0, i => ⟨Nat.le_refl i, Nat.le_refl i⟩
  | f + 1, i => by
    have ih := skp_ge f (i + 1)
    unfold skp
    split <;> omega
theorem skp_all : ∀ (f i j : Nat), i ≤ j → j < skp b p f i → p (b j) = true
  | 0, i, j, h1, h2 => by
    have : skp b p 0 i = i := rfl
    omega
  | f + 1, i, j, h1, h2 => by
    unfold skp at h2
    by_cases h : p (b i) = true
    · rw [if_pos h] at h2
      by_cases e : i = j
      · subst e
        exact h
      · exact skp_all f (i + 1) j (by omega) h2
    · rw [if_neg h] at h2
      omega
theorem skp_end : ∀ (f i : Nat), skp b p f i < i + f → p (b (skp b p f i)) = false
  | 0, i, h => by
    have : skp b p 0 i = i := rfl
    omega
  | f + 1, i, h => by
    unfold skp at h ⊢
    by_cases e : p (b i) = true
    · rw [if_pos e] at h ⊢
      exact skp_end f (i + 1) (by omega)
    · rw [if_neg e]
      exact Bool.eq_false_iff.2 e
theorem tA_in {q : Nat} (h : q ≤ n) : q ≤ tA b n q ∧ tA b n q ≤ n := by
  have := skp_ge (b := b) (p := isBl) (n - q) q
  unfold tA
  omega
theorem tE_in {s : Nat} (h : s ≤ n) : s ≤ tE b n s ∧ tE b n s ≤ n ∧ (s < n → s < tE b n s) := by
  unfold tE
  by_cases h1 : n ≤ s
  · rw [if_pos h1]
    omega
  · rw [if_neg h1]
    have hp : ∀ p : Nat → Bool, p (b s) = true → s < skp b p (n - s) s ∧ skp b p (n - s) s ≤ n := fun p hp => by
      obtain ⟨m, hm⟩ : ∃ m, n - s = m + 1 := ⟨n - s - 1, by omega⟩
      rw [hm]
      unfold skp
      rw [if_pos hp]
      have := skp_ge (b := b) (p := p) m (s + 1)
      omega
    by_cases h2 : isDg (b s) = true
    · rw [if_pos h2]
      have := hp _ h2
      omega
    · rw [if_neg h2]
      by_cases h3 : isLt (b s) = true
      · rw [if_pos h3]
        have := hp _ h3
        omega
      · rw [if_neg h3]
        omega
theorem bh_le : ∀ k, bh b n k ≤ n
  | 0 => Nat.zero_le _
  | k + 1 => (tE_in (tA_in (bh_le k)).2).2.1
theorem tZ_le (k : Nat) : tZ b n k ≤ n := (tA_in (bh_le k)).2
theorem tQ_0 {s : Nat} : tQ b n s = 0 → n ≤ s := by
  intro h
  apply Classical.byContradiction
  intro h1
  unfold tQ at h
  rw [if_neg h1] at h
  by_cases h2 : isDg (b s) = true
  · rw [if_pos h2] at h
    omega
  rw [if_neg h2] at h
  by_cases h3 : isLt (b s) = true
  · rw [if_pos h3] at h
    have : ∀ (l : List (List Nat)) (q s e : Nat), 1 ≤ q → wkG b s e l q ≠ 0 := by
      intro l
      induction l with
      | nil =>
        intro q s e _ z
        cases z
      | cons w l ih =>
        intro q s e hq
        unfold wkG
        split
        · omega
        · exact ih (q + 1) s e (by omega)
    exact this wds 101 _ _ (by omega) h
  rw [if_neg h3] at h
  by_cases h4 : isSg (b s) = true
  · rw [if_pos h4] at h
    rw [h] at h4
    cases h4
  · rw [if_neg h4] at h
    omega
theorem tok_ge : ∀ k, (∀ i, i < k → tkK (tks b n) i ≠ 0) → k ≤ bh b n k
  | 0, _ => Nat.le_refl 0
  | k + 1, h => by
    have ih := tok_ge k (fun i hi => h i (by omega))
    have h1 : ¬ n ≤ tZ b n k := fun z => h k (by omega) (by
      show tQ b n (tZ b n k) = 0
      unfold tQ
      rw [if_pos z])
    have h2 := (tA_in (b := b) (bh_le (b := b) (n := n) k)).1
    have h3 := (tE_in (b := b) (tZ_le (b := b) (n := n) k)).2.2 (by omega)
    have h4 : tZ b n k = tA b n (bh b n k) := rfl
    have h5 : bh b n (k + 1) = tE b n (tZ b n k) := rfl
    omega
theorem tok_st {k : Nat} (h : tkK (tks b n) k = 0) : ∀ j, k ≤ j → tkK (tks b n) j = 0 := by
  have h1 : n ≤ tZ b n k := tQ_0 h
  have key : ∀ m, n ≤ tZ b n (k + m) := by
    intro m
    induction m with
    | zero => exact h1
    | succ m ih =>
      have e : tE b n (tZ b n (k + m)) = tZ b n (k + m) := by
        unfold tE
        rw [if_pos ih]
      have e2 : bh b n (k + (m + 1)) = tE b n (tZ b n (k + m)) := rfl
      have e3 := (tA_in (b := b) (bh_le (b := b) (n := n) (k + (m + 1)))).1
      have e4 : tZ b n (k + (m + 1)) = tA b n (bh b n (k + (m + 1))) := rfl
      omega
  intro j hj
  have := key (j - k)
  rw [show k + (j - k) = j by omega] at this
  show tQ b n (tZ b n j) = 0
  unfold tQ
  rw [if_pos this]
theorem tks_Tok (hn : n ≤ 700) : Tok (tks b n) := by
  intro k hk
  have h1 : ∀ i, i < k + 1 → tkK (tks b n) i ≠ 0 := fun i hi z => hk (tok_st z k (by omega))
  have h2 := tok_ge (k + 1) h1
  have h3 := bh_le (b := b) (n := n) (k + 1)
  omega
theorem nmb_lt {s : Nat} : ∀ m, (∀ j, j < m → isDg (b (s + j)) = true) → nmb b s m < 10 ^ m
  | 0, _ => by
    show 0 < 1
    omega
  | m + 1, h => by
    have ih := nmb_lt m (fun j hj => h j (by omega))
    have h1 := h m (by omega)
    unfold isDg at h1
    rw [Bool.and_eq_true, decide_eq_true_eq, decide_eq_true_eq] at h1
    unfold nmb
    rw [Nat.pow_succ]
    omega
theorem nmb_4 {s f i : Nat} (hi : i ≤ skp b isDg f s - s) : nmb b s (min 4 i) < 10000 := by
  have h1 : nmb b s (min 4 i) < 10 ^ (min 4 i) := nmb_lt _ (fun j hj => skp_all f s (s + j) (by omega) (by omega))
  have h2 : 10 ^ (min 4 i) ≤ 10 ^ 4 := Nat.pow_le_pow_right (by omega) (by omega)
  omega
theorem tks_TokV : TokV (tks b n) := by
  intro k h2 h4
  show nmb b (tZ b n k) (min 4 (tE b n (tZ b n k) - tZ b n k)) < 10000
  have h2' : tQ b n (tZ b n k) = 2 := h2
  generalize tZ b n k = s at h2'
  have h5 : ¬ n ≤ s := fun z => by
    unfold tQ at h2'
    rw [if_pos z] at h2'
    cases h2'
  by_cases h3 : isDg (b s) = true
  · have e : tE b n s = skp b isDg (n - s) s := by
      unfold tE
      rw [if_neg h5, if_pos h3]
    rw [e]
    exact nmb_4 (f := n - s) (Nat.le_refl _)
  · exfalso
    unfold tQ at h2'
    rw [if_neg h5, if_neg h3] at h2'
    by_cases h6 : isLt (b s) = true
    · rw [if_pos h6] at h2'
      have : ∀ (l : List (List Nat)) (q s e : Nat), 3 ≤ q → wkG b s e l q ≠ 2 := by
        intro l
        induction l with
        | nil =>
          intro q s e _ z
          cases z
        | cons w l ih =>
          intro q s e hq
          unfold wkG
          split
          · omega
          · exact ih (q + 1) s e (by omega)
      exact this wds 101 _ _ (by omega) h2'
    · rw [if_neg h6] at h2'
      by_cases h7 : isSg (b s) = true
      · rw [if_pos h7] at h2'
        rw [h2'] at h7
        cases h7
      · rw [if_neg h7] at h2'
        cases h2'
end C85
