section C87e
variable {X : Nat × (Nat → Int32)} {d : Nat} {b : Nat → Nat} {n B : Nat} {sub deep : Nat → List Int → PZ} {dep : Int}
theorem not_add {N k : Nat} : ∀ (j c m : Nat) (r : List Int) (M : rM), c + j = N → N ≤ 6 → j < m → CGd b n k r M → r.length + j ≤ 700 → ∃ M', kb X (d + 8) 27 m 64 [some (rv 29), none, some (iv (N : Int)), some (iv (c : Int))] [] M = oV M' ∧ CGd b n k (r ++ List.replicate j (-12)) M' ∧ sf P9 M M'
  | 0, c, m, r, M, h, hN, hm, hg, hl => by
    obtain ⟨m', rfl⟩ : ∃ m', m = m' + 1 := ⟨m - 1, by omega⟩
    rw [List.replicate_zero, List.append_nil, q_27_29_at64, if_neg (by omega)]
    exact ⟨M, rfl, hg, sf.rf⟩
  | j + 1, c, m, r, M, h, hN, hm, hg, hl => by
    obtain ⟨m', rfl⟩ : ∃ m', m = m' + 1 := ⟨m - 1, by omega⟩
    obtain ⟨M2, a1, a2, a3⟩ := c_add (X := X) (d := d + 7) hg (by omega) (-12)
    rw [q_27_29_at64, if_pos (by omega), a1, cV_V, wr_succ (by omega)]
    obtain ⟨M3, c1, c2, c3⟩ := not_add j (c + 1) m' (r ++ [-12]) M2 (by omega) hN (by omega) a2 (by rw [List.length_append, List.length_singleton]; omega)
    refine ⟨M3, c1, ?_, a3.tr c3⟩
    rw [List.replicate_succ]
    rw [List.append_assoc] at c2
    exact c2
theorem not_addF {N k f : Nat} : ∀ (j c m : Nat) (M : rM), c + j = N → N ≤ 6 → j < m → CF b n f k M → ∃ M', kb X (d + 8) 27 m 64 [some (rv 29), none, some (iv (N : Int)), some (iv (c : Int))] [] M = oV M' ∧ CF b n f k M' ∧ sf P9 M M'
  | 0, c, m, M, h, hN, hm, hg => by
    obtain ⟨m', rfl⟩ : ∃ m', m = m' + 1 := ⟨m - 1, by omega⟩
    rw [q_27_29_at64, if_neg (by omega)]
    exact ⟨M, rfl, hg, sf.rf⟩
  | j + 1, c, m, M, h, hN, hm, hg => by
    obtain ⟨m', rfl⟩ : ∃ m', m = m' + 1 := ⟨m - 1, by omega⟩
    obtain ⟨M2, a1, a2, a3⟩ := c_addF (X := X) (d := d + 7) hg (-12)
    rw [q_27_29_at64, if_pos (by omega), a1, cV_V, wr_succ (by omega)]
    obtain ⟨M3, c1, c2, c3⟩ := not_addF j (c + 1) m' M2 (by omega) hN (by omega) a2
    exact ⟨M3, c1, c2, a3.tr c3⟩
theorem not_lp (hT : Tok (tks b n)) {r : List Int} : ∀ (f c k m : Nat) (M : rM), c + f = 6 → CGd b n k r M → k ≤ 700 → f + 1 < m → ∃ M' m', kb X (d + 8) 27 m 2 [some (rv 29), some (iv dep), some (iv (c : Int)), none] [] M = kb X (d + 8) 27 (m' + 1) 2 [some (rv 29), some (iv dep), some (iv ((c + nots (tks b n) f k : Nat) : Int)), none] [] M' ∧ CGd b n (k + nots (tks b n) f k) r M' ∧ sf P9 M M' ∧ m ≤ m' + f + 1 ∧ k + nots (tks b n) f k ≤ 700
  | 0, c, k, m, M, h, hg, hk, hm => by
    obtain ⟨m', rfl⟩ : ∃ m', m = m' + 1 := ⟨m - 1, by omega⟩
    exact ⟨M, m', rfl, hg, sf.rf, by omega, hk⟩
  | f + 1, c, k, m, M, h, hg, hk, hm => by
    obtain ⟨m', rfl⟩ : ∃ m', m = m' + 1 := ⟨m - 1, by omega⟩
    unfold nots
    by_cases h1 : tkK (tks b n) k = 110
    · have h7 := hT k (by omega)
      obtain ⟨M2, a1, a2, a3⟩ := c_go (X := X) (d := d) hg
      rw [if_pos h1, q_27_29_at2, if_pos (by omega), c_kd (d := d + 7) hg.1, cI_I, if_pos (show (tkK (tks b n) k : Int) = 110 by omega), a1, cV_V, wr_succ (by omega)]
      obtain ⟨M3, m2, c1, c2, c3, c4, c5⟩ := not_lp hT f (c + 1) (k + 1) m' M2 (by omega) a2 (by omega) (by omega)
      rw [show c + (nots (tks b n) f (k + 1) + 1) = c + 1 + nots (tks b n) f (k + 1) by omega, show k + (nots (tks b n) f (k + 1) + 1) = k + 1 + nots (tks b n) f (k + 1) by omega]
      exact ⟨M3, m2, c1, c2, a3.tr c3, by omega, c5⟩
    · rw [if_neg h1]
      exact ⟨M, m', rfl, hg, sf.rf, by omega, hk⟩
theorem c_27 (hT : Tok (tks b n)) (hp : Hp B sub) (hs : Rd b n (fun M => fn X (d + 8) 28 [rv 29, iv dep] M) sub) : Rd b n (fun M => fn X (d + 9) 27 [rv 29, iv dep] M) (pNot (tks b n) sub) := by
  intro k r M hg hr hk
  show ∃ M', fn X (d + 8 + 1) 27 [rv 29, iv dep] M = oV M' ∧ _
  have hfu := FU_lt (k := 1000) (by omega)
  obtain ⟨M1, m, a1, a2, a3, a4, a5⟩ := not_lp (X := X) (d := d) (dep := dep) hT 6 0 k FU M (by omega) hg hk (by omega)
  replace a1 : kb X (d + 8) 27 FU 2 [some (rv 29), some (iv dep), some (iv 0), none] [] M = _ := a1
  have hl := nots_le (tks b n) 6 k
  rw [q_27_29, a1]
  unfold pNot
  generalize nots (tks b n) 6 k = c at *
  rw [Nat.zero_add]
  have key : tkK (tks b n) (k + c) ≠ 110 → kb X (d + 8) 27 (m + 1) 2 [some (rv 29), some (iv dep), some (iv (c : Int)), none] [] M1 = cV (fn X (d + 8) 28 [rv 29, iv dep] M1) (fun M7 => kb X (d + 8) 27 m 64 [some (rv 29), none, some (iv (c : Int)), some (iv 0)] [] M7) := fun h => by
    rw [q_27_29_at2, c_kd (d := d + 7) a2.1, cI_I, cI_I, if_neg (show ¬ (tkK (tks b n) (k + c) : Int) = 110 by omega), if_neg (show ¬ (tkK (tks b n) (k + c) : Int) = 110 by omega)]
    by_cases z : (c : Int) < 6
    · rw [if_pos z, if_neg (by omega)]
    · rw [if_neg z, if_pos (by omega)]
  by_cases h1 : tkK (tks b n) (k + c) = 110
  · have hc : c = 6 := by
      apply Classical.byContradiction
      intro h
      exact hl.2 (by omega) h1
    obtain ⟨M2, c1, c2, c3⟩ := c_ref (X := X) (d := d + 6) a2 (by omega) (f := 2) (by omega)
    replace c1 : fn X (d + 8) 17 [rv 29, iv 2] M1 = oV M2 := c1
    rw [if_pos h1, q_27_29_at2, if_neg (by omega), if_pos (by omega), c_kd (d := d + 7) a2.1, cI_I, if_pos (by omega), c1, cV_V]
    exact ⟨M2, rfl, Oc_l c2, a3.tr c3⟩
  · rw [if_neg h1, key h1]
    obtain ⟨M2, c1, c2, c3⟩ := hs (k + c) r M1 a2 (by omega) a5
    replace c1 : fn X (d + 8) 28 [rv 29, iv dep] M1 = oV M2 := c1
    rw [c1, cV_V]
    cases hq : sub (k + c) r with
    | inl x =>
      obtain ⟨x1, x2⟩ := x
      rw [hq] at c2
      obtain ⟨M3, d1, d2, d3⟩ := not_addF (X := X) (d := d) (N := c) c 0 m M2 (by omega) (by omega) (by omega) (c2.1 x1 x2 rfl)
      exact ⟨M3, d1, Oc_l d2, a3.tr (c3.tr d3)⟩
    | inr v =>
      obtain ⟨k2, r2⟩ := v
      rw [hq] at c2
      obtain ⟨⟨nw, z1, z2, z3, z4⟩, z5⟩ := hp _ _ _ _ hq
      have hl : r2.length + c ≤ 700 := by
        rw [z1, List.length_append]
        omega
      obtain ⟨M3, d1, d2, d3⟩ := not_add (X := X) (d := d) (N := c) c 0 m r2 M2 (by omega) (by omega) (by omega) (c2.2 k2 r2 rfl) hl
      exact ⟨M3, d1, Oc_r d2, a3.tr (c3.tr d3)⟩
end C87e
