/-! ===== order, purely ===== -/
noncomputable def fwh (A : AS) (c h : Nat) : Option (List Nat) := (stF (aS A) c (aW A (9 + c)) h (aW A (3 + c)) (aW A (15 + c))).2.1
def frF (A : AS) : Nat := fates (aS A) (aW A) 0
def hu (A : AS) (u : Nat) : Nat := helpN (aS A) (fun c => (fates (aS A) (aW A) 1 ||| u).testBit c) (nC (aS A))
noncomputable def one (A : AS) (c u : Nat) : Option Nat := (fwh A c (hu A u)).map List.length
/-- the best so far: tries, who is first -/
noncomputable def bs (A : AS) (R : Nat → Option (Nat × Nat)) (u : Nat) : Nat → Option (Nat × Nat)
  | 0 => if u = frF A then some (0, 0) else none
  | c + 1 => match (if (frF A).testBit c = true ∧ u.testBit c = false then one A c u else none), R (u ||| 2 ^ c) with
    | some a, some b => (match bs A R u c with
      | none => some (a + b.1, c)
      | some t => if a + b.1 < t.1 then some (a + b.1, c) else some t)
    | _, _ => bs A R u c
noncomputable def rs (A : AS) : Nat → Nat → Option (Nat × Nat)
  | 0, _ => none
  | k + 1, u => bs A (rs A k) u (nC (aS A))
noncomputable def RA (A : AS) (u : Nat) : Option (Nat × Nat) := rs A 8 u
def cnF (A : AS) (u : Nat) : Nat := pcN (less (frF A) u) 6
theorem pcN_drop {v w c : Nat} (hc : v.testBit c = true) (hw : ∀ j, w.testBit j = (v.testBit j && !decide (j = c))) : ∀ n, pcN w n + (if c < n then 1 else 0) = pcN v n
  | 0 => rfl
  | n + 1 => by
    have ih := pcN_drop hc hw n
    unfold pcN
    rw [hw n]
    by_cases e : n = c
    · subst e
      rw [hc, if_neg (show ¬ n < n by omega)] at *
      rw [if_pos (show n < n + 1 by omega)]
      simp
      omega
    · have : decide (n = c) = false := decide_eq_false e
      rw [this, Bool.not_false, Bool.and_true]
      by_cases h1 : c < n
      · rw [if_pos h1] at ih
        rw [if_pos (show c < n + 1 by omega)]
        omega
      · rw [if_neg h1] at ih
        rw [if_neg (show ¬ c < n + 1 by omega)]
        omega
section B71
variable {A : AS} {R R' : Nat → Option (Nat × Nat)} {u c : Nat}
theorem cn_drop (h1 : (frF A).testBit c = true) (h2 : u.testBit c = false) (hc : c < 6) : cnF A (u ||| 2 ^ c) + 1 = cnF A u := by
  have := pcN_drop (v := less (frF A) u) (w := less (frF A) (u ||| 2 ^ c)) (c := c) (by rw [less_bit, h1, h2]; rfl) (fun j => by
    rw [less_bit, less_bit, Nat.testBit_or, Nat.testBit_two_pow]
    by_cases e : c = j
    · subst e
      simp
    · have e' : ¬ j = c := fun z => e z.symm
      simp [e, e']) 6
  rw [if_pos hc] at this
  exact this
theorem cn_le : cnF A u ≤ 6 := pcN_le _ 6
theorem bs_congr : ∀ n, (∀ c, c < n → (frF A).testBit c = true → u.testBit c = false → R (u ||| 2 ^ c) = R' (u ||| 2 ^ c)) → bs A R u n = bs A R' u n
  | 0, _ => rfl
  | n + 1, h => by
    have ih := bs_congr n (fun c hc => h c (by omega))
    unfold bs
    rw [ih]
    by_cases e : (frF A).testBit n = true ∧ u.testBit n = false
    · rw [h n (by omega) e.1 e.2]
    · rw [if_neg e]
theorem rs_fuel (h6 : nC (aS A) ≤ 6) : ∀ k k' u, cnF A u < k → cnF A u < k' → rs A k u = rs A k' u
  | 0, _, _, h, _ => by omega
  | k + 1, 0, _, _, h => by omega
  | k + 1, k' + 1, u, h, h' => by
    show bs A (rs A k) u (nC (aS A)) = bs A (rs A k') u (nC (aS A))
    apply bs_congr
    intro c hc h1 h2
    have := cn_drop h1 h2 (by omega)
    exact rs_fuel h6 k k' _ (by omega) (by omega)
theorem RA_eq (h6 : nC (aS A) ≤ 6) : RA A u = bs A (RA A) u (nC (aS A)) := by
  show bs A (rs A 7) u (nC (aS A)) = _
  apply bs_congr
  intro c hc h1 h2
  have := cn_drop h1 h2 (by omega)
  have := cn_le (A := A) (u := u)
  exact rs_fuel h6 7 8 _ (by omega) (by omega)
theorem fwh_ok (hA : OKA A) {h : Nat} (hc : c < nC (aS A)) {r : List Nat} (hr : fwh A c h = some r) : r ≠ [] ∧ r.length ≤ 3904 := by
  obtain ⟨hF, hR, hV, -⟩ := hA
  obtain ⟨vb, -, vc, -⟩ := hV.1.2.2 c hc
  have hB := stF_BI (S := aS A) (cr := c) (wa := aW A (9 + c)) (h := h) hF vb vc
  obtain ⟨h1, h2, -⟩ := hB.2.2.2.1 r hr
  exact ⟨h1, Nat.le_trans h2 hB.1.le⟩
theorem one_ok (hA : OKA A) (hc : c < nC (aS A)) {a : Nat} (h : one A c u = some a) : 0 < a ∧ a ≤ 3904 := by
  unfold one at h
  cases hx : fwh A c (hu A u) with
  | none =>
    rw [hx] at h
    cases h
  | some r =>
    rw [hx] at h
    injection h with h
    obtain ⟨h1, h2⟩ := fwh_ok hA hc hx
    have : r.length ≠ 0 := fun z => h1 (List.length_eq_zero_iff.1 z)
    omega
/-- what the best is -/
theorem bs_ok (hA : OKA A) : ∀ n, n ≤ nC (aS A) → ∀ t f, bs A R u n = some (t, f) → u ≠ frF A → f < n ∧ (frF A).testBit f = true ∧ u.testBit f = false ∧ ∃ a b, one A f u = some a ∧ R (u ||| 2 ^ f) = some b ∧ t = a + b.1 ∧ ∀ c, c < n → (frF A).testBit c = true → u.testBit c = false → ∀ a' b', one A c u = some a' → R (u ||| 2 ^ c) = some b' → t ≤ a' + b'.1 ∧ (c < f → t < a' + b'.1)
  | 0, _, t, f, h, hu => by
    unfold bs at h
    rw [if_neg hu] at h
    cases h
  | n + 1, hn, t, f, h, hu => by
    have ih := bs_ok hA n (by omega)
    unfold bs at h
    -- a best of before, that stays
    have keep : bs A R u n = some (t, f) → (∀ a' b', (frF A).testBit n = true → u.testBit n = false → one A n u = some a' → R (u ||| 2 ^ n) = some b' → t ≤ a' + b'.1) → f < n + 1 ∧ (frF A).testBit f = true ∧ u.testBit f = false ∧ ∃ a b, one A f u = some a ∧ R (u ||| 2 ^ f) = some b ∧ t = a + b.1 ∧ ∀ c, c < n + 1 → (frF A).testBit c = true → u.testBit c = false → ∀ a' b', one A c u = some a' → R (u ||| 2 ^ c) = some b' → t ≤ a' + b'.1 ∧ (c < f → t < a' + b'.1) := by
      intro e1 e2
      obtain ⟨i1, i2, i3, a, b, i4, i5, i6, i7⟩ := ih t f e1 hu
      refine ⟨by omega, i2, i3, a, b, i4, i5, i6, fun c hc g1 g2 a' b' g3 g4 => ?_⟩
      by_cases e : c = n
      · subst e
        exact ⟨e2 a' b' g1 g2 g3 g4, fun z => by omega⟩
      · exact i7 c (by omega) g1 g2 a' b' g3 g4
    by_cases e : (frF A).testBit n = true ∧ u.testBit n = false
    · rw [if_pos e] at h
      cases ho : one A n u with
      | none =>
        rw [ho] at h
        exact keep h (fun a' b' _ _ g _ => by rw [ho] at g; cases g)
      | some a =>
        cases hr : R (u ||| 2 ^ n) with
        | none =>
          rw [ho, hr] at h
          exact keep h (fun a' b' _ _ _ g => by rw [hr] at g; cases g)
        | some b =>
          rw [ho, hr] at h
          dsimp only at h
          cases hb : bs A R u n with
          | none =>
            rw [hb] at h
            dsimp only at h
            injection h with h
            injection h with h1 h2
            subst h1; subst h2
            refine ⟨by omega, e.1, e.2, a, b, ho, hr, rfl, fun c hc g1 g2 a' b' g3 g4 => ?_⟩
            by_cases ec : c = n
            · subst ec
              rw [ho] at g3
              rw [hr] at g4
              injection g3 with g3
              injection g4 with g4
              subst g3; subst g4
              exact ⟨Nat.le_refl _, fun z => by omega⟩
            · exfalso
              -- then there was one before
              have : ∀ m, c < m → m ≤ n → bs A R u m ≠ none := by
                intro m
                induction m with
                | zero => intro z; omega
                | succ m im =>
                  intro z1 z2
                  unfold bs
                  by_cases em : c = m
                  · subst em
                    rw [if_pos ⟨g1, g2⟩, g3, g4]
                    dsimp only
                    split
                    · simp
                    · split <;> simp
                  · have im := im (by omega) (by omega)
                    split
                    · split
                      · simp
                      · split <;> simp
                    · exact im
              exact this n (by omega) (Nat.le_refl _) hb
          | some p =>
            rw [hb] at h
            dsimp only at h
            by_cases hl : a + b.1 < p.1
            · rw [if_pos hl] at h
              injection h with h
              injection h with h1 h2
              subst h1; subst h2
              obtain ⟨i1, i2, i3, a1, b1, i4, i5, i6, i7⟩ := ih p.1 p.2 hb hu
              refine ⟨by omega, e.1, e.2, a, b, ho, hr, rfl, fun c hc g1 g2 a' b' g3 g4 => ?_⟩
              by_cases ec : c = n
              · subst ec
                rw [ho] at g3
                rw [hr] at g4
                injection g3 with g3
                injection g4 with g4
                subst g3; subst g4
                exact ⟨Nat.le_refl _, fun z => by omega⟩
              · have := (i7 c (by omega) g1 g2 a' b' g3 g4).1
                exact ⟨by omega, fun _ => by omega⟩
            · rw [if_neg hl] at h
              injection h with h
              subst h
              refine keep hb (fun a' b' _ _ g3 g4 => ?_)
              rw [ho] at g3
              rw [hr] at g4
              injection g3 with g3
              injection g4 with g4
              subst g3; subst g4
              dsimp only at hl
              omega
    · rw [if_neg e] at h
      exact keep h (fun a' b' g1 g2 _ _ => absurd ⟨g1, g2⟩ e)
theorem bs_F : ∀ n, bs A R (frF A) n = some (0, 0)
  | 0 => by
    unfold bs
    rw [if_pos rfl]
  | n + 1 => by
    unfold bs
    rw [if_neg (fun z => by rw [z.1] at z; cases z.2), bs_F n]
theorem RA_F (h6 : nC (aS A) ≤ 6) : RA A (frF A) = some (0, 0) := by
  rw [RA_eq h6, bs_F]
theorem rs_le (hA : OKA A) : ∀ k u t f, rs A k u = some (t, f) → t ≤ 3904 * cnF A u
  | 0, u, t, f, h => by cases h
  | k + 1, u, t, f, h => by
    have h6 := hA.1.1
    by_cases hu : u = frF A
    · subst hu
      have e : rs A (k + 1) (frF A) = some (0, 0) := bs_F _
      rw [e] at h
      injection h with h
      injection h with h _
      omega
    · obtain ⟨i1, i2, i3, a, b, i4, i5, i6, -⟩ := bs_ok (R := rs A k) hA _ (Nat.le_refl _) t f h hu
      have := rs_le hA k _ b.1 b.2 i5
      have := cn_drop i2 i3 (by omega)
      have := (one_ok hA i1 i4).2
      omega
theorem RA_le (hA : OKA A) {t f : Nat} (h : RA A u = some (t, f)) : t ≤ 23424 := by
  have := rs_le hA 8 u t f h
  have := cn_le (A := A) (u := u)
  omega
theorem RA_lt (h6 : nC (aS A) ≤ 6) (hA : OKA A) {t f : Nat} (h : RA A u = some (t, f)) : f < 6 := by
  by_cases hu : u = frF A
  · subst hu
    rw [RA_F h6] at h
    injection h with h
    injection h with _ h
    omega
  · rw [RA_eq h6] at h
    have := (bs_ok hA _ (Nat.le_refl _) t f h hu).1
    omega
theorem bs_le (hA : OKA A) : ∀ n, n ≤ nC (aS A) → ∀ t f, bs A (RA A) u n = some (t, f) → t ≤ 27328 ∧ f < 6
  | n, hn, t, f, h => by
    have h6 := hA.1.1
    by_cases hu : u = frF A
    · subst hu
      rw [bs_F] at h
      injection h with h
      injection h with h1 h2
      omega
    · obtain ⟨i1, i2, i3, a, b, i4, i5, i6, -⟩ := bs_ok hA n hn t f h hu
      have := RA_le hA (t := b.1) (f := b.2) i5
      have := (one_ok hA (by omega) i4).2
      omega
/-- whom the order has at its places -/
noncomputable def os (A : AS) : Nat → Nat
  | 0 => 0
  | k + 1 => os A k ||| 2 ^ ((RA A (os A k)).getD (0, 0)).2
theorem cn_0 {v : Nat} (hv : v < 64) (hs : less v (frF A) = 0) (h : cnF A v = 0) (hF : frF A < 64) : v = frF A := by
  have key : ∀ n w, pcN w n = 0 → ∀ i, i < n → w.testBit i = false := by
    intro n
    induction n with
    | zero => intro w _ i hi; omega
    | succ n ih =>
      intro w hw i hi
      unfold pcN at hw
      by_cases e : i = n
      · subst e
        cases hx : w.testBit i with
        | false => rfl
        | true =>
          rw [hx] at hw
          simp at hw
      · exact ih w (by omega) i (by omega)
  apply Nat.eq_of_testBit_eq
  intro i
  have h1 := congrArg (fun z => z.testBit i) hs
  rw [less_bit, Nat.zero_testBit] at h1
  by_cases hi : i < 6
  · have h2 := key 6 _ h i hi
    rw [less_bit] at h2
    cases hx : v.testBit i <;> cases hy : (frF A).testBit i <;> simp_all
  · have p : 2 ^ 6 ≤ 2 ^ i := Nat.pow_le_pow_right (by omega) (by omega)
    rw [Nat.testBit_lt_two_pow (by omega), Nat.testBit_lt_two_pow (by omega)]
theorem less_sub {v c : Nat} (hs : less v (frF A) = 0) (hc : (frF A).testBit c = true) : less (v ||| 2 ^ c) (frF A) = 0 := by
  apply Nat.eq_of_testBit_eq
  intro i
  have h1 := congrArg (fun z => z.testBit i) hs
  rw [less_bit, Nat.zero_testBit] at h1
  rw [less_bit, Nat.testBit_or, Nat.testBit_two_pow, Nat.zero_testBit]
  by_cases e : c = i
  · subst e
    simp [hc]
  · simp [e, h1]
theorem less_z (u : Nat) : less 0 u = 0 := by
  unfold less
  rw [Nat.zero_and, Nat.xor_self]
theorem os_ok (hA : OKA A) (h0 : RA A 0 ≠ none) : ∀ k, k ≤ cnF A 0 → os A k < 64 ∧ less (os A k) (frF A) = 0 ∧ RA A (os A k) ≠ none ∧ cnF A (os A k) + k = cnF A 0
  | 0, _ => ⟨by unfold os; omega, less_z _, h0, rfl⟩
  | k + 1, hk => by
    obtain ⟨h1, h2, h3, h4⟩ := os_ok hA h0 k (by omega)
    have h6 := hA.1.1
    have hu : os A k ≠ frF A := fun z => by
      rw [z] at h4
      have : cnF A (frF A) = 0 := by
        unfold cnF
        have : less (frF A) (frF A) = 0 := by
          unfold less
          rw [Nat.and_self, Nat.xor_self]
        rw [this]
        rfl
      omega
    cases hx : RA A (os A k) with
    | none => exact absurd hx h3
    | some p =>
      obtain ⟨t, f⟩ := p
      have hx' := hx
      rw [RA_eq h6] at hx'
      obtain ⟨i1, i2, i3, a, b, i4, i5, i6, -⟩ := bs_ok hA _ (Nat.le_refl _) t f hx' hu
      have e : os A (k + 1) = os A k ||| 2 ^ f := by
        show os A k ||| 2 ^ ((RA A (os A k)).getD (0, 0)).2 = _
        rw [hx]
        rfl
      have hd := cn_drop i2 i3 (by omega)
      rw [e]
      refine ⟨Nat.or_lt_two_pow (n := 6) h1 (Nat.pow_lt_pow_right (by omega) (by omega)), less_sub h2 i2, by rw [i5]; simp, by omega⟩
end B71
