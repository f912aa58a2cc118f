/-! ===== a text's tokens, and its rule: two ways to read it, pure ===== -/
/-- where it starts, its kind (as the class tells them), its number, its digits -/
abbrev TK : Type := Nat × Nat × Nat × Nat
abbrev TS : Type := Nat → TK
def tkS (t : TS) (k : Nat) : Nat := (t k).1
def tkK (t : TS) (k : Nat) : Nat := (t k).2.1
def tkV (t : TS) (k : Nat) : Nat := (t k).2.2.1
def tkD (t : TS) (k : Nat) : Nat := (t k).2.2.2
/-- a fault's kind and where, or where it goes on and the rule so far -/
abbrev PZ : Type := (Nat × Nat) ⊕ (Nat × List Int)
def opA (L q : Nat) : Option Int := if L = 1 then (if q = 108 then some (-10) else none) else if L = 2 then (if q = 109 then some (-11) else none) else if L = 4 then (if q = 60 then some (-13) else if q = 61 then some (-14) else none) else if L = 5 then (if q = 43 then some (-15) else if q = 45 then some (-16) else none) else if L = 6 then (if q = 42 then some (-17) else if q = 47 then some (-18) else none) else none
def pLoop (t : TS) (L : Nat) (sub : Nat → List Int → PZ) : Nat → Nat → List Int → PZ
  | 0, k, r => .inr (k, r)
  | f + 1, k, r => match opA L (tkK t k) with
    | none => .inr (k, r)
    | some a => match sub (k + 1) r with
      | .inl x => .inl x
      | .inr (k', r') => pLoop t L sub f k' (r' ++ [a])
def pCh (t : TS) (L : Nat) (sub : Nat → List Int → PZ) (k : Nat) (r : List Int) : PZ := match sub k r with
  | .inl x => .inl x
  | .inr (k', r') => pLoop t L sub 700 k' r'
def pTest (t : TS) (sub : Nat → List Int → PZ) (k : Nat) (r : List Int) : PZ := match sub k r with
  | .inl x => .inl x
  | .inr (k', r') => match opA 4 (tkK t k') with
    | none => .inr (k', r')
    | some a => match sub (k' + 1) r' with
      | .inl x => .inl x
      | .inr (k2, r2) => .inr (k2, r2 ++ [a])
def nots (t : TS) : Nat → Nat → Nat
  | 0, _ => 0
  | f + 1, k => if tkK t k = 110 then nots t f (k + 1) + 1 else 0
def pNot (t : TS) (sub : Nat → List Int → PZ) (k : Nat) (r : List Int) : PZ := if tkK t (k + nots t 6 k) = 110 then .inl (2, k + nots t 6 k) else match sub (k + nots t 6 k) r with
  | .inl x => .inl x
  | .inr (k', r') => .inr (k', r' ++ List.replicate (nots t 6 k) (-12))
def canB (q : Nat) : Bool := q == 2 || decide (100 ≤ q) || q == 40
def pPart (t : TS) (deep : Nat → List Int → PZ) (k : Nat) (r : List Int) : PZ :=
  if tkK t k = 2 then (if 4 < tkD t k then .inl (2, k) else .inr (k + 1, r ++ [(tkV t k : Int)]))
  else if 111 ≤ tkK t k ∧ tkK t k ≤ 116 then .inr (k + 1, r ++ [110 - (tkK t k : Int)])
  else if 100 ≤ tkK t k then .inl (3, k)
  else if tkK t k = 40 then (match deep (k + 1) r with
    | .inl x => .inl x
    | .inr (k', r') => if tkK t k' = 41 then .inr (k' + 1, r') else .inl (1, k'))
  else .inl (1, k)
def pE (t : TS) : Nat → Nat → List Int → PZ
  | 0, k, _ => .inl (if canB (tkK t k) then 2 else 1, k)
  | D + 1, k, r => pCh t 1 (pCh t 2 (pNot t (pTest t (pCh t 5 (pCh t 6 (pPart t (pE t D))))))) k r
/-! the other way: signs wait -/
/-- signs that may stand ahead of an operand, and how many 'not' were read (none: behind an operand); the place, the waiting, what is written, whether a test was read, by depth -/
abbrev SZ : Type := Option (Bool × Nat) × Nat × List Int × List Int × List Bool
def stg (a : Int) : Nat := if a = 5 then 1 else if a = 4 then 2 else if a = 3 then 3 else if a = 6 ∨ a = 7 then 4 else if a = 8 ∨ a = 9 then 5 else 6
def drp (l : Nat) : List Int → List Int → List Int × List Int
  | [], O => ([], O)
  | a :: W, O => if a ≠ 14 ∧ l ≤ stg a then drp l W (O ++ [a]) else (a :: W, O)
def lev (q : Nat) : Nat := if q = 108 then 1 else if q = 109 then 2 else if q = 60 ∨ q = 61 then 4 else if q = 43 ∨ q = 45 then 5 else if q = 42 ∨ q = 47 then 6 else 0
def acq (q : Nat) : Int := if q = 108 then 5 else if q = 109 then 4 else if q = 60 then 6 else if q = 61 then 7 else if q = 43 then 8 else if q = 45 then 9 else if q = 42 then 10 else 11
def hlt (k : Nat) (W O : List Int) (te : List Bool) : PZ := if 1 < te.length then .inl (1, k) else .inr (k, (drp 0 W O).2 ++ [0])
def stM (t : TS) : SZ → SZ ⊕ PZ
  | (some (nt, c), k, W, O, te) =>
    if nt = true ∧ tkK t k = 110 then (if c = 6 then .inr (.inl (2, k)) else .inl (some (nt, c + 1), k + 1, 3 :: W, O, te))
    else if tkK t k = 40 then (if te.length < 6 then .inl (some (true, 0), k + 1, 14 :: W, O, false :: te) else .inr (.inl (if canB (tkK t (k + 1)) then 2 else 1, k + 1)))
    else if tkK t k = 2 then (if 4 < tkD t k then .inr (.inl (2, k)) else .inl (none, k + 1, W, O ++ [1, (tkV t k : Int)], te))
    else if 111 ≤ tkK t k ∧ tkK t k ≤ 116 then .inl (none, k + 1, W, O ++ [2, (tkK t k : Int) - 111], te)
    else if 100 ≤ tkK t k then .inr (.inl (3, k))
    else .inr (.inl (1, k))
  | (none, k, W, O, te) =>
    if lev (tkK t k) = 0 then (if tkK t k = 41 ∧ 14 ∈ W then .inl (none, k + 1, (drp 0 W O).1.tail, (drp 0 W O).2, te.tail) else .inr (hlt k W O te))
    else if lev (tkK t k) = 4 ∧ te.headD false = true then .inr (hlt k W O te)
    else .inl (some (decide (lev (tkK t k) ≤ 2), 0), k + 1, acq (tkK t k) :: (drp (lev (tkK t k)) W O).1, (drp (lev (tkK t k)) W O).2, if lev (tkK t k) = 4 then true :: te.tail else if lev (tkK t k) ≤ 2 then false :: te.tail else te)
def ex (t : TS) : Nat → SZ → Option PZ
  | 0, _ => none
  | f + 1, s => match stM t s with
    | .inl s' => ex t f s'
    | .inr x => some x
def Rn (t : TS) (s s' : SZ) : Prop := ∃ m, m + s.2.1 ≤ s'.2.1 ∧ ∀ f, ex t (f + m) s = ex t f s'
def Rf (t : TS) (s : SZ) (x : Nat × Nat) : Prop := ∃ m, m + s.2.1 ≤ x.2 + 1 ∧ ∀ f, ex t (f + m) s = some (.inl x)
section C84
variable {t : TS} {s s' s'' : SZ} {x : Nat × Nat} {L D : Nat} {sub : Nat → List Int → PZ} {W O S : List Int} {te : List Bool} {k : Nat}
theorem Rn_rf : Rn t s s := ⟨0, by omega, fun _ => rfl⟩
theorem Rn_tr (h : Rn t s s') (g : Rn t s' s'') : Rn t s s'' := by
  obtain ⟨m, h1, h2⟩ := h
  obtain ⟨n, g1, g2⟩ := g
  refine ⟨n + m, by omega, fun f => ?_⟩
  rw [← Nat.add_assoc, h2, g2]
theorem Rf_tr (h : Rn t s s') (g : Rf t s' x) : Rf t s x := by
  obtain ⟨m, h1, h2⟩ := h
  obtain ⟨n, g1, g2⟩ := g
  refine ⟨n + m, by omega, fun f => ?_⟩
  rw [← Nat.add_assoc, h2, g2]
theorem Rn_st (h : stM t s = .inl s') (hk : s'.2.1 = s.2.1 + 1) : Rn t s s' := by
  refine ⟨1, by omega, fun f => ?_⟩
  show (match stM t s with
    | .inl s' => ex t f s'
    | .inr x => some x) = _
  rw [h]
theorem Rf_st (h : stM t s = .inr (.inl x)) (hk : s.2.1 ≤ x.2) : Rf t s x := by
  refine ⟨1, by omega, fun f => ?_⟩
  show (match stM t s with
    | .inl s' => ex t f s'
    | .inr x => some x) = _
  rw [h]
theorem drp_app (l : Nat) : ∀ (S W O : List Int), (∀ a ∈ S, a ≠ 14 ∧ l ≤ stg a) → (∀ a W', W = a :: W' → a = 14 ∨ stg a < l) → drp l (S ++ W) O = (W, O ++ S)
  | [], [], O, _, _ => by
    show ([], O) = ([], O ++ [])
    rw [List.append_nil]
  | [], a :: W, O, _, h => by
    show (if a ≠ 14 ∧ l ≤ stg a then drp l W (O ++ [a]) else (a :: W, O)) = _
    rw [List.append_nil]
    have := h a W rfl
    rw [if_neg (by omega)]
  | a :: S, W, O, hs, h => by
    show (if a ≠ 14 ∧ l ≤ stg a then drp l (S ++ W) (O ++ [a]) else (a :: (S ++ W), O)) = _
    rw [if_pos (hs a (List.mem_cons_self ..)), drp_app l S W (O ++ [a]) (fun b hb => hs b (List.mem_cons_of_mem _ hb)) h, List.append_assoc]
    rfl
theorem opA_some {a : Int} {q : Nat} (h : opA L q = some a) : lev q = L ∧ enc a = [acq q] ∧ stg (acq q) = L ∧ acq q ≠ 14 := by
  unfold opA at h
  by_cases h1 : L = 1
  · rw [if_pos h1] at h
    split at h
    · subst h1; rename_i hq; subst hq; cases h; decide
    · cases h
  rw [if_neg h1] at h
  by_cases h2 : L = 2
  · rw [if_pos h2] at h
    split at h
    · subst h2; rename_i hq; subst hq; cases h; decide
    · cases h
  rw [if_neg h2] at h
  by_cases h4 : L = 4
  · rw [if_pos h4] at h
    split at h
    · subst h4; rename_i hq; subst hq; cases h; decide
    · split at h
      · subst h4; rename_i hq; subst hq; cases h; decide
      · cases h
  rw [if_neg h4] at h
  by_cases h5 : L = 5
  · rw [if_pos h5] at h
    split at h
    · subst h5; rename_i hq; subst hq; cases h; decide
    · split at h
      · subst h5; rename_i hq; subst hq; cases h; decide
      · cases h
  rw [if_neg h5] at h
  by_cases h6 : L = 6
  · rw [if_pos h6] at h
    split at h
    · subst h6; rename_i hq; subst hq; cases h; decide
    · split at h
      · subst h6; rename_i hq; subst hq; cases h; decide
      · cases h
  rw [if_neg h6] at h
  cases h
theorem opA_none {q : Nat} (h : opA L q = none) (hL : L = 1 ∨ L = 2 ∨ L = 4 ∨ L = 5 ∨ L = 6) : lev q ≠ L := by
  unfold opA at h
  unfold lev
  rcases hL with rfl | rfl | rfl | rfl | rfl
  · simp only [reduceIte] at h
    split at h
    · cases h
    · rename_i h1
      rw [if_neg h1]
      repeat' split
      all_goals omega
  · simp only [reduceIte, Nat.reduceEqDiff] at h
    split at h
    · cases h
    · rename_i h1
      rw [if_neg h1]
      repeat' split
      all_goals omega
  · simp only [reduceIte, Nat.reduceEqDiff] at h
    split at h
    · cases h
    · split at h
      · cases h
      · repeat' split
        all_goals omega
  · simp only [reduceIte, Nat.reduceEqDiff] at h
    split at h
    · cases h
    · split at h
      · cases h
      · repeat' split
        all_goals omega
  · simp only [reduceIte, Nat.reduceEqDiff] at h
    split at h
    · cases h
    · split at h
      · cases h
      · repeat' split
        all_goals omega
theorem lev_in (q : Nat) : lev q ≤ 6 ∧ lev q ≠ 3 := by
  unfold lev
  repeat' split
  all_goals omega
def topO (L : Nat) (W : List Int) : Prop := ∀ a W', W = a :: W' → a = 14 ∨ stg a < L
def aft (L q : Nat) (te : List Bool) : Prop := lev q < L ∨ (lev q = 4 ∧ te.headD false = true ∧ L ≤ 4)
def En (t : TS) (L : Nat) (nt : Bool) (c k : Nat) (te : List Bool) : Prop := (L ≤ 3 → nt = true ∧ c = 0) ∧ (L ≤ 4 → te.headD false = false) ∧ (4 ≤ L → nt = true → tkK t k ≠ 110)
/-- behind an operand of the strength L -/
def Ps (t : TS) (L : Nat) (s : SZ) (k0 : Nat) (W OS : List Int) (te : List Bool) (r : List Int) (y : PZ) : Prop := (∀ x, y = .inl x → Rf t s x) ∧ ∀ k' r', y = .inr (k', r') → ∃ nw S O' te', r' = r ++ nw ∧ Rn t s (none, k', S ++ W, O', te') ∧ (∀ a ∈ S, a ≠ 14 ∧ L ≤ stg a) ∧ O' ++ S = OS ++ encs nw ∧ te'.tail = te.tail ∧ te'.length = te.length ∧ (5 ≤ L → te' = te) ∧ aft L (tkK t k') te' ∧ k0 ≤ k'
/-- the reader p is followed by the signs that wait -/
def Sm (t : TS) (L D : Nat) (p : Nat → List Int → PZ) : Prop := ∀ (nt : Bool) (c k : Nat) (W O : List Int) (te : List Bool) (r : List Int), En t L nt c k te → topO L W → te.length + D = 7 → Ps t L (some (nt, c), k, W, O, te) (k + 1) W O te r (p k r)
/-- an end stands behind at most 700 tokens -/
def Tok (t : TS) : Prop := ∀ k, tkK t k ≠ 0 → k < 700
theorem encs_one (a : Int) : encs [a] = enc a := by
  unfold encs
  rw [List.flatMap_cons, List.flatMap_nil, List.append_nil]
/-- a sign is read -/
theorem st_op {q : Nat} (hq : tkK t k = q) (h0 : lev q ≠ 0) (h4 : ¬ (lev q = 4 ∧ te.headD false = true)) (hS : ∀ a ∈ S, a ≠ 14 ∧ lev q ≤ stg a) (hW : topO (lev q) W) : Rn t (none, k, S ++ W, O, te) (some (decide (lev q ≤ 2), 0), k + 1, acq q :: W, O ++ S, if lev q = 4 then true :: te.tail else if lev q ≤ 2 then false :: te.tail else te) := by
  refine Rn_st ?_ rfl
  show (if lev (tkK t k) = 0 then _ else if lev (tkK t k) = 4 ∧ te.headD false = true then _ else _) = _
  rw [hq, if_neg h0, if_neg h4, drp_app (lev q) S W O hS hW]
theorem loop_sim (hT : Tok t) (hs : Sm t (L + 1) D sub) (hL : L = 1 ∨ L = 2 ∨ L = 5 ∨ L = 6) (hW : topO L W) : ∀ (f k : Nat) (r S O : List Int) (te : List Bool), 700 ≤ k + f → (∀ a ∈ S, a ≠ 14 ∧ L ≤ stg a) → aft (L + 1) (tkK t k) te → te.length + D = 7 → D ≤ 6 → Ps t L (none, k, S ++ W, O, te) k W (O ++ S) te r (pLoop t L sub f k r)
  | 0, k, r, S, O, te, hf, hS, ha, hd, hD => by
    have h0 : tkK t k = 0 := by
      apply Classical.byContradiction
      intro h
      have := hT k h
      omega
    refine ⟨fun x z => (by cases z), fun k' r' z => ?_⟩
    cases z
    refine ⟨[], S, O, te, (List.append_nil r).symm, Rn_rf, hS, (List.append_nil _).symm, rfl, rfl, fun _ => rfl, Or.inl ?_, Nat.le_refl _⟩
    rw [h0]
    have : lev 0 = 0 := by decide
    omega
  | f + 1, k, r, S, O, te, hf, hS, ha, hd, hD => by
    have e : pLoop t L sub (f + 1) k r = (match opA L (tkK t k) with
      | none => .inr (k, r)
      | some a => match sub (k + 1) r with
        | .inl x => .inl x
        | .inr (k', r') => pLoop t L sub f k' (r' ++ [a])) := rfl
    rw [e]
    cases ho : opA L (tkK t k) with
    | none =>
      refine ⟨fun x z => (by cases z), fun k' r' z => ?_⟩
      cases z
      have h1 := opA_none ho (by omega)
      refine ⟨[], S, O, te, (List.append_nil r).symm, Rn_rf, hS, (List.append_nil _).symm, rfl, rfl, fun _ => rfl, ?_, Nat.le_refl _⟩
      rcases ha with ha | ⟨ha, hb, hc⟩
      · exact Or.inl (by omega)
      · exact Or.inr ⟨ha, hb, by omega⟩
    | some a =>
      obtain ⟨h1, h2, h3, h4⟩ := opA_some ho
      have hn := st_op (t := t) (O := O) (te := te) (q := tkK t k) rfl (by omega) (by omega) (by rw [h1]; exact hS) (by rw [h1]; exact hW)
      have e4 : ¬ lev (tkK t k) = 4 := by omega
      rw [if_neg e4] at hn
      have hte : ∃ te2, (if lev (tkK t k) ≤ 2 then false :: te.tail else te) = te2 ∧ te2.tail = te.tail ∧ te2.length = te.length ∧ (5 ≤ L → te2 = te) ∧ (L ≤ 2 → te2.headD false = false) := by
        refine ⟨_, rfl, ?_⟩
        by_cases h5 : lev (tkK t k) ≤ 2
        · rw [if_pos h5]
          refine ⟨rfl, ?_, fun z => by omega, fun _ => rfl⟩
          rw [List.length_cons, List.length_tail]
          omega
        · rw [if_neg h5]
          exact ⟨rfl, rfl, fun _ => rfl, fun z => by omega⟩
      obtain ⟨te2, f1, f2, f3, f4, f5⟩ := hte
      rw [f1] at hn
      have hen : En t (L + 1) (decide (lev (tkK t k) ≤ 2)) 0 (k + 1) te2 := by
        refine ⟨fun z => ⟨decide_eq_true (by omega), rfl⟩, fun z => f5 (by omega), fun z y => ?_⟩
        have := of_decide_eq_true y
        omega
      have htop : topO (L + 1) (acq (tkK t k) :: W) := by
        intro b W' z
        cases z
        exact Or.inr (by omega)
      obtain ⟨g1, g2⟩ := hs _ 0 (k + 1) (acq (tkK t k) :: W) (O ++ S) te2 r hen htop (by omega)
      cases hp : sub (k + 1) r with
      | inl x =>
        rw [hp] at g1
        refine ⟨fun y z => ?_, fun k' r' z => by cases z⟩
        cases z
        exact Rf_tr hn (g1 x rfl)
      | inr v =>
        obtain ⟨k2, r2⟩ := v
        rw [hp] at g2
        obtain ⟨nw, S2, O2, te3, a1, a2, a3, a4, a5, a6, a7, a8, a9⟩ := g2 k2 r2 rfl
        have hS2 : ∀ b ∈ S2 ++ [acq (tkK t k)], b ≠ 14 ∧ L ≤ stg b := by
          intro b hb
          rcases List.mem_append.1 hb with hb | hb
          · have := a3 b hb
            exact ⟨this.1, by omega⟩
          · rw [List.mem_singleton] at hb
            subst hb
            exact ⟨h4, by omega⟩
        have ih := loop_sim hT hs hL hW f k2 (r2 ++ [a]) (S2 ++ [acq (tkK t k)]) O2 te3 (by omega) hS2 a8 (by omega) hD
        have e2 : S2 ++ acq (tkK t k) :: W = S2 ++ [acq (tkK t k)] ++ W := by
          rw [List.append_assoc]
          rfl
        rw [e2] at a2
        have hn2 := Rn_tr hn a2
        obtain ⟨i1, i2⟩ := ih
        refine ⟨fun y z => Rf_tr hn2 (i1 y z), fun k' r' z => ?_⟩
        obtain ⟨nw3, S3, O3, te4, b1, b2, b3, b4, b5, b6, b7, b8, b9⟩ := i2 k' r' z
        refine ⟨nw ++ [a] ++ nw3, S3, O3, te4, ?_, Rn_tr hn2 b2, b3, ?_, ?_, ?_, ?_, b8, by omega⟩
        · rw [b1, a1]
          simp only [List.append_assoc]
        · rw [b4, ← List.append_assoc, a4, encs_app, encs_app, encs_one, h2]
          simp only [List.append_assoc]
        · rw [b5, a5, f2]
        · rw [b6, a6, f3]
        · intro z
          rw [b7 z, a7 (by omega), f4 z]
theorem ch_sim (hT : Tok t) (hs : Sm t (L + 1) D sub) (hL : L = 1 ∨ L = 2 ∨ L = 5 ∨ L = 6) (hD : D ≤ 6) : Sm t L D (pCh t L sub) := by
  intro nt c k W O te r he hW hd
  have he' : En t (L + 1) nt c k te := ⟨fun z => he.1 (by omega), fun z => he.2.1 (by omega), fun z => he.2.2 (by omega)⟩
  have hW' : topO (L + 1) W := fun a W' z => by
    have := hW a W' z
    omega
  obtain ⟨g1, g2⟩ := hs nt c k W O te r he' hW' hd
  unfold pCh
  cases hp : sub k r with
  | inl x =>
    rw [hp] at g1
    refine ⟨fun y z => ?_, fun k' r' z => by cases z⟩
    cases z
    exact g1 x rfl
  | inr v =>
    obtain ⟨k2, r2⟩ := v
    rw [hp] at g2
    obtain ⟨nw, S2, O2, te3, a1, a2, a3, a4, a5, a6, a7, a8, a9⟩ := g2 k2 r2 rfl
    obtain ⟨i1, i2⟩ := loop_sim hT hs hL hW 700 k2 r2 S2 O2 te3 (by omega) (fun a ha => ⟨(a3 a ha).1, by have := (a3 a ha).2; omega⟩) a8 (by omega) hD
    refine ⟨fun y z => Rf_tr a2 (i1 y z), fun k' r' z => ?_⟩
    obtain ⟨nw3, S3, O3, te4, b1, b2, b3, b4, b5, b6, b7, b8, b9⟩ := i2 k' r' z
    refine ⟨nw ++ nw3, S3, O3, te4, ?_, Rn_tr a2 b2, b3, ?_, b5.trans a5, b6.trans a6, fun z => (b7 z).trans (a7 (by omega)), b8, by omega⟩
    · rw [b1, a1, List.append_assoc]
    · rw [b4, a4, encs_app, List.append_assoc]
theorem test_sim (hs : Sm t 5 D sub) (hD : D ≤ 6) : Sm t 4 D (pTest t sub) := by
  intro nt c k W O te r he hW hd
  have he' : En t 5 nt c k te := ⟨fun z => by omega, fun z => by omega, fun z => he.2.2 (by omega)⟩
  have hW' : topO 5 W := fun a W' z => by
    have := hW a W' z
    omega
  have hf : te.headD false = false := he.2.1 (by omega)
  obtain ⟨g1, g2⟩ := hs nt c k W O te r he' hW' hd
  unfold pTest
  cases hp : sub k r with
  | inl x =>
    rw [hp] at g1
    refine ⟨fun y z => ?_, fun k' r' z => by cases z⟩
    cases z
    exact g1 x rfl
  | inr v =>
    obtain ⟨k2, r2⟩ := v
    rw [hp] at g2
    obtain ⟨nw, S2, O2, te3, a1, a2, a3, a4, a5, a6, a7, a8, a9⟩ := g2 k2 r2 rfl
    have ete := a7 (by omega)
    subst ete
    have h8 : lev (tkK t k2) < 5 := by
      rcases a8 with h | h
      · exact h
      · omega
    have hS4 : ∀ a ∈ S2, a ≠ 14 ∧ 4 ≤ stg a := fun a ha => ⟨(a3 a ha).1, by have := (a3 a ha).2; omega⟩
    dsimp only
    cases ho : opA 4 (tkK t k2) with
    | none =>
      have h1 := opA_none ho (by omega)
      have h2 := lev_in (tkK t k2)
      refine ⟨fun x z => (by cases z), fun k' r' z => ?_⟩
      cases z
      exact ⟨nw, S2, O2, te3, a1, a2, hS4, a4, rfl, rfl, fun z => by omega, Or.inl (by omega), a9⟩
    | some a =>
      obtain ⟨h1, h2, h3, h4⟩ := opA_some ho
      have hn := st_op (t := t) (O := O2) (te := te3) (q := tkK t k2) rfl (by omega) (by rw [hf]; intro z; cases z.2) (by rw [h1]; exact hS4) (by rw [h1]; exact hW)
      rw [if_pos h1] at hn
      have en : decide (lev (tkK t k2) ≤ 2) = false := decide_eq_false (by omega)
      rw [en] at hn
      have htop : topO 5 (acq (tkK t k2) :: W) := by
        intro b W' z
        cases z
        exact Or.inr (by omega)
      have hl : (true :: te3.tail).length = te3.length := by
        rw [List.length_cons, List.length_tail]
        omega
      obtain ⟨g3, g4⟩ := hs false 0 (k2 + 1) (acq (tkK t k2) :: W) (O2 ++ S2) (true :: te3.tail) r2 ⟨fun z => by omega, fun z => by omega, fun _ z => by cases z⟩ htop (by omega)
      dsimp only
      cases hq : sub (k2 + 1) r2 with
      | inl x =>
        rw [hq] at g3
        refine ⟨fun y z => ?_, fun k' r' z => by cases z⟩
        cases z
        exact Rf_tr a2 (Rf_tr hn (g3 x rfl))
      | inr v =>
        obtain ⟨k3, r3⟩ := v
        rw [hq] at g4
        obtain ⟨nw3, S3, O3, te4, b1, b2, b3, b4, b5, b6, b7, b8, b9⟩ := g4 k3 r3 rfl
        have ete := b7 (by omega)
        subst ete
        refine ⟨fun x z => (by cases z), fun k' r' z => ?_⟩
        cases z
        have e2 : S3 ++ acq (tkK t k2) :: W = S3 ++ [acq (tkK t k2)] ++ W := by
          rw [List.append_assoc]
          rfl
        rw [e2] at b2
        have h2' := lev_in (tkK t k3)
        refine ⟨nw ++ nw3 ++ [a], S3 ++ [acq (tkK t k2)], O3, true :: te3.tail, ?_, Rn_tr a2 (Rn_tr hn b2), ?_, ?_, rfl, hl, fun z => by omega, ?_, by omega⟩
        · rw [b1, a1]
          simp only [List.append_assoc]
        · intro b hb
          rcases List.mem_append.1 hb with hb | hb
          · have := b3 b hb
            exact ⟨this.1, by omega⟩
          · rw [List.mem_singleton] at hb
            subst hb
            exact ⟨h4, by omega⟩
        · rw [← List.append_assoc, b4, a4, encs_app, encs_app, encs_one, h2]
          simp only [List.append_assoc]
        · rcases b8 with h | h
          · by_cases h9 : lev (tkK t k3) = 4
            · exact Or.inr ⟨h9, rfl, by omega⟩
            · exact Or.inl (by omega)
          · omega
end C84
