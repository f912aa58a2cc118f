/-! ===== a rule that was read is well formed ===== -/
def hok (B : Nat) (nw : List Int) : Prop := ∀ rest h, h + B ≤ 40 → wfr (nw ++ rest) h = wfr rest (h + 1)
/-- numbers of at most four digits -/
def TokV (t : TS) : Prop := ∀ k, tkK t k = 2 → tkD t k ≤ 4 → tkV t k < 10000
def Hq (B k0 k : Nat) (r0 r : List Int) : Prop := (∃ nw, r = r0 ++ nw ∧ hok B nw ∧ nw ≠ [] ∧ nw.length + k0 ≤ k) ∧ k ≤ 700
def Hp (B : Nat) (p : Nat → List Int → PZ) : Prop := ∀ k r k' r', p k r = .inr (k', r') → Hq B k k' r r'
section C84c
variable {t : TS} {L B : Nat} {sub : Nat → List Int → PZ}
theorem hok_up {B' : Nat} {nw : List Int} (h : hok B nw) (hb : B ≤ B') : hok B' nw := fun rest m hm => h rest m (by omega)
theorem hok_op {v0 v1 : List Int} {a : Int} (h0 : hok (B + 1) v0) (h1 : hok B v1) (ha : -18 ≤ a ∧ a ≤ -10 ∧ a ≠ -12) : hok (B + 1) (v0 ++ v1 ++ [a]) := by
  intro rest h hm
  rw [List.append_assoc, List.append_assoc, h0 _ _ hm, h1 _ _ (by omega)]
  show (if -6 ≤ a then _ else if a = -12 then _ else decide (2 ≤ h + 1 + 1) && decide (-18 ≤ a) && decide (a ≤ -10) && wfr rest (h + 1 + 1 - 1)) = _
  rw [if_neg (by omega), if_neg ha.2.2, decide_eq_true (show 2 ≤ h + 1 + 1 by omega), decide_eq_true ha.1, decide_eq_true ha.2.1]
  rfl
theorem hok_not {v : List Int} (h0 : hok B v) : ∀ n, hok B (v ++ List.replicate n (-12))
  | 0 => by
    rw [List.replicate_zero, List.append_nil]
    exact h0
  | n + 1 => by
    intro rest h hm
    rw [List.replicate_succ', ← List.append_assoc, List.append_assoc, hok_not h0 n _ _ hm]
    show (if -6 ≤ (-12 : Int) then _ else if (-12 : Int) = -12 then decide (1 ≤ h + 1) && wfr rest (h + 1) else _) = _
    rw [if_neg (by omega), if_pos rfl, decide_eq_true (show 1 ≤ h + 1 by omega)]
    rfl
theorem hok_leaf {x : Int} (h1 : -6 ≤ x) (h2 : x < 10000) (hB : 1 ≤ B) : hok B [x] := by
  intro rest h hm
  show (if -6 ≤ x then decide (h < 40) && decide (x < 10000) && wfr rest (h + 1) else _) = _
  rw [if_pos h1, decide_eq_true (show h < 40 by omega), decide_eq_true h2]
  rfl
theorem opA_rng {a : Int} {q : Nat} (h : opA L q = some a) : -18 ≤ a ∧ a ≤ -10 ∧ a ≠ -12 := by
  unfold opA at h
  repeat' split at h
  all_goals first
    | cases h; decide
    | cases h
theorem pLoop_hq (hs : Hp B sub) : ∀ (f k : Nat) (r : List Int) (k' : Nat) (r' : List Int) (k0 : Nat) (r0 : List Int), pLoop t L sub f k r = .inr (k', r') → Hq (B + 1) k0 k r0 r → Hq (B + 1) k0 k' r0 r'
  | 0, k, r, k', r', k0, r0, h, hq => by
    cases h
    exact hq
  | f + 1, k, r, k', r', k0, r0, h, hq => by
    have e : pLoop t L sub (f + 1) k r = (match opA L (tkK t k) with
      | none => .inr (k, r)
      | some a => match sub (k + 1) r with
        | .inl x => .inl x
        | .inr (k', r') => pLoop t L sub f k' (r' ++ [a])) := rfl
    rw [e] at h
    cases ho : opA L (tkK t k) with
    | none =>
      rw [ho] at h
      cases h
      exact hq
    | some a =>
      rw [ho] at h
      dsimp only at h
      cases hp : sub (k + 1) r with
      | inl x =>
        rw [hp] at h
        cases h
      | inr v =>
        obtain ⟨k2, r2⟩ := v
        rw [hp] at h
        obtain ⟨⟨n1, a1, a2, a3, a4⟩, a5⟩ := hq
        obtain ⟨⟨n2, b1, b2, b3, b4⟩, b5⟩ := hs _ _ _ _ hp
        refine pLoop_hq hs f k2 (r2 ++ [a]) k' r' k0 r0 h ⟨⟨n1 ++ n2 ++ [a], ?_, hok_op a2 b2 (opA_rng ho), ?_, ?_⟩, b5⟩
        · rw [b1, a1]
          simp only [List.append_assoc]
        · intro z
          have := congrArg List.length z
          simp only [List.length_append, List.length_cons, List.length_nil] at this
          omega
        · simp only [List.length_append, List.length_cons, List.length_nil]
          omega
theorem pCh_hp (hs : Hp B sub) : Hp (B + 1) (pCh t L sub) := by
  intro k r k' r' h
  unfold pCh at h
  cases hp : sub k r with
  | inl x =>
    rw [hp] at h
    cases h
  | inr v =>
    obtain ⟨k2, r2⟩ := v
    rw [hp] at h
    obtain ⟨⟨n2, b1, b2, b3, b4⟩, b5⟩ := hs _ _ _ _ hp
    exact pLoop_hq hs 700 k2 r2 k' r' k r h ⟨⟨n2, b1, hok_up b2 (by omega), b3, b4⟩, b5⟩
theorem pTest_hp (hs : Hp B sub) : Hp (B + 1) (pTest t sub) := by
  intro k r k' r' h
  unfold pTest at h
  cases hp : sub k r with
  | inl x =>
    rw [hp] at h
    cases h
  | inr v =>
    obtain ⟨k2, r2⟩ := v
    rw [hp] at h
    dsimp only at h
    obtain ⟨⟨n1, a1, a2, a3, a4⟩, a5⟩ := hs _ _ _ _ hp
    cases ho : opA 4 (tkK t k2) with
    | none =>
      rw [ho] at h
      cases h
      exact ⟨⟨n1, a1, hok_up a2 (by omega), a3, a4⟩, a5⟩
    | some a =>
      rw [ho] at h
      dsimp only at h
      cases hq : sub (k2 + 1) r2 with
      | inl x =>
        rw [hq] at h
        cases h
      | inr v =>
        obtain ⟨k3, r3⟩ := v
        rw [hq] at h
        cases h
        obtain ⟨⟨n2, b1, b2, b3, b4⟩, b5⟩ := hs _ _ _ _ hq
        refine ⟨⟨n1 ++ n2 ++ [a], ?_, hok_op (hok_up a2 (by omega)) b2 (opA_rng ho), ?_, ?_⟩, b5⟩
        · rw [b1, a1]
          simp only [List.append_assoc]
        · intro z
          have := congrArg List.length z
          simp only [List.length_append, List.length_cons, List.length_nil] at this
          omega
        · simp only [List.length_append, List.length_cons, List.length_nil]
          omega
theorem pNot_hp (hs : Hp B sub) : Hp B (pNot t sub) := by
  intro k r k' r' h
  unfold pNot at h
  generalize nots t 6 k = n at h
  by_cases h1 : tkK t (k + n) = 110
  · rw [if_pos h1] at h
    cases h
  · rw [if_neg h1] at h
    cases hp : sub (k + n) r with
    | inl x =>
      rw [hp] at h
      cases h
    | inr v =>
      obtain ⟨k2, r2⟩ := v
      rw [hp] at h
      cases h
      obtain ⟨⟨n1, a1, a2, a3, a4⟩, a5⟩ := hs _ _ _ _ hp
      refine ⟨⟨n1 ++ List.replicate n (-12), ?_, hok_not a2 n, ?_, ?_⟩, a5⟩
      · rw [a1, List.append_assoc]
      · intro z
        exact a3 (List.append_eq_nil_iff.1 z).1
      · rw [List.length_append, List.length_replicate]
        omega
theorem pPart_hp (hT : Tok t) (hV : TokV t) {deep : Nat → List Int → PZ} (hB : 1 ≤ B) (hd : Hp B deep) : Hp B (pPart t deep) := by
  intro k r k' r' h
  unfold pPart at h
  by_cases h2 : tkK t k = 2
  · rw [if_pos h2] at h
    have h700 := hT k (by omega)
    by_cases h4 : 4 < tkD t k
    · rw [if_pos h4] at h
      cases h
    · rw [if_neg h4] at h
      cases h
      have := hV k h2 (by omega)
      exact ⟨⟨_, rfl, hok_leaf (by omega) (by omega) hB, fun z => (by cases z), by rw [List.length_singleton]; omega⟩, by omega⟩
  rw [if_neg h2] at h
  by_cases hv : 111 ≤ tkK t k ∧ tkK t k ≤ 116
  · rw [if_pos hv] at h
    have h700 := hT k (by omega)
    cases h
    exact ⟨⟨_, rfl, hok_leaf (by omega) (by omega) hB, fun z => (by cases z), by rw [List.length_singleton]; omega⟩, by omega⟩
  rw [if_neg hv] at h
  by_cases hw : 100 ≤ tkK t k
  · rw [if_pos hw] at h
    cases h
  rw [if_neg hw] at h
  by_cases h40 : tkK t k = 40
  · rw [if_pos h40] at h
    cases hp : deep (k + 1) r with
    | inl x =>
      rw [hp] at h
      cases h
    | inr v =>
      obtain ⟨k2, r2⟩ := v
      rw [hp] at h
      dsimp only at h
      by_cases h41 : tkK t k2 = 41
      · rw [if_pos h41] at h
        cases h
        have := hT k2 (by omega)
        obtain ⟨⟨n1, a1, a2, a3, a4⟩, a5⟩ := hd _ _ _ _ hp
        exact ⟨⟨n1, a1, a2, a3, by omega⟩, by omega⟩
      · rw [if_neg h41] at h
        cases h
  · rw [if_neg h40] at h
    cases h
theorem pE_hp (hT : Tok t) (hV : TokV t) : ∀ D, Hp (5 * D + 1) (pE t D)
  | 0 => fun k r k' r' h => by cases h
  | D + 1 => by
    have := pCh_hp (t := t) (L := 1) (pCh_hp (t := t) (L := 2) (pNot_hp (t := t) (pTest_hp (t := t) (pCh_hp (t := t) (L := 5) (pCh_hp (t := t) (L := 6) (pPart_hp hT hV (by omega) (pE_hp hT hV D)))))))
    exact this
/-- .. and may be kept -/
theorem pE_wr (hT : Tok t) (hV : TokV t) {k k' : Nat} {r' : List Int} (h : pE t 6 k [] = .inr (k', r')) : wfr r' 0 = true ∧ r' ≠ [] ∧ r'.length + k ≤ k' ∧ k' ≤ 700 := by
  obtain ⟨⟨n1, a1, a2, a3, a4⟩, a5⟩ := pE_hp hT hV 6 _ _ _ _ h
  rw [List.nil_append] at a1
  subst a1
  have := a2 [] 0 (by omega)
  rw [List.append_nil] at this
  exact ⟨this, a3, a4, a5⟩
/-- few steps -/
theorem ex_bd (hT : Tok t) : ∀ (f : Nat) (s : SZ) (x : PZ), ex t f s = some x → s.2.1 ≤ 700 → ex t (702 - s.2.1) s = some x
  | 0, s, x, h, _ => by cases h
  | f + 1, s, x, h, hk => by
    have e : ∀ g, ex t (g + 1) s = (match stM t s with
      | .inl s' => ex t g s'
      | .inr x => some x) := fun g => rfl
    rw [e f] at h
    rw [show 702 - s.2.1 = 701 - s.2.1 + 1 by omega, e]
    cases hs : stM t s with
    | inr y =>
      rw [hs] at h
      exact h
    | inl s' =>
      rw [hs] at h
      dsimp only at h ⊢
      have hn : s'.2.1 = s.2.1 + 1 ∧ tkK t s.2.1 ≠ 0 := by
        obtain ⟨m, k, W, O, te⟩ := s
        have l0 : lev 0 = 0 := by decide
        rcases m with _ | ⟨nt, c⟩
        · dsimp only [stM] at hs
          repeat' split at hs
          all_goals first
            | (cases hs; done)
            | (cases hs; refine ⟨rfl, ?_⟩; intro z; have z' : tkK t k = 0 := z; have e0 : lev (tkK t k) = 0 := (by rw [z']; exact l0); omega)
        · dsimp only [stM] at hs
          repeat' split at hs
          all_goals first
            | (cases hs; done)
            | (cases hs; refine ⟨rfl, ?_⟩; dsimp only; omega)
      have := hT _ hn.2
      have ih := ex_bd hT f s' x h (by omega)
      rw [show 701 - s.2.1 = 702 - s'.2.1 by omega]
      exact ih
end C84c
