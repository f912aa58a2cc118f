section C87c
variable {X : Nat × (Nat → Int32)} {d : Nat} {b : Nat → Nat} {n B : Nat} {sub deep : Nat → List Int → PZ} {dep : Int}
theorem c_28 (hT : Tok (tks b n)) (hp : Hp B sub) (hs : Rd b n (fun M => fn X (d + 8) 29 [rv 29, iv dep] M) sub) : Rd b n (fun M => fn X (d + 9) 28 [rv 29, iv dep] M) (pTest (tks b n) sub) := by
  intro k r M hg hr hk
  obtain ⟨M1, b1, b2, b3⟩ := hs k r M hg hr hk
  replace b1 : fn X (d + 8) 29 [rv 29, iv dep] M = oV M1 := b1
  show ∃ M', fn X (d + 8 + 1) 28 [rv 29, iv dep] M = oV M' ∧ _
  rw [q_28_29, b1, cV_V]
  unfold pTest
  cases hq : sub k r with
  | inl x =>
    obtain ⟨x1, x2⟩ := x
    rw [hq] at b2
    have hf := b2.1 x1 x2 rfl
    rw [c_kd (d := d + 7) hf.1, cI_I, if_neg (CF_ne hf)]
    exact ⟨M1, rfl, b2, b3⟩
  | inr v =>
    obtain ⟨k2, r2⟩ := v
    rw [hq] at b2
    have hg2 := b2.2 k2 r2 rfl
    obtain ⟨⟨nw, z1, z2, z3, z4⟩, z5⟩ := hp _ _ _ _ hq
    have hl : r2.length ≤ k2 := by
      rw [z1, List.length_append]
      omega
    rw [c_kd (d := d + 7) hg2.1, cI_I, if_pos hg2.2.2.1]
    dsimp only
    cases ho : opA 4 (tkK (tks b n) k2) with
    | none =>
      have := (opA_nn ho).2.2.1 rfl
      rw [if_neg (show ¬ (tkK (tks b n) k2 : Int) = 60 by omega), if_neg (show ¬ (tkK (tks b n) k2 : Int) = 61 by omega)]
      exact ⟨M1, rfl, b2, b3⟩
    | some a =>
      have hc := opA_cs ho
      have h7 := hT k2 (by omega)
      obtain ⟨M3, a1, a2, a3⟩ := c_go (X := X) (d := d) hg2
      obtain ⟨M4, c1, c2, c3⟩ := hs (k2 + 1) r2 M3 a2 (by omega) (by omega)
      replace c1 : fn X (d + 8) 29 [rv 29, iv dep] M3 = oV M4 := c1
      have e : ∀ F : rM → Option rO, (if (tkK (tks b n) k2 : Int) = 60 then cV (fn X (d + 8) 131 [rv 30] M1) (fun M4 => cV (fn X (d + 8) 29 [rv 29, iv dep] M4) (fun M5 => if (tkK (tks b n) k2 : Int) = 60 then cV (fn X (d + 8) 45 [rv 25, iv (-13)] M5) (fun M6 => oV M6) else cV (fn X (d + 8) 45 [rv 25, iv (-14)] M5) (fun M7 => oV M7))) else if (tkK (tks b n) k2 : Int) = 61 then cV (fn X (d + 8) 131 [rv 30] M1) (fun M8 => cV (fn X (d + 8) 29 [rv 29, iv dep] M8) (fun M9 => if (tkK (tks b n) k2 : Int) = 60 then cV (fn X (d + 8) 45 [rv 25, iv (-13)] M9) (fun M10 => oV M10) else cV (fn X (d + 8) 45 [rv 25, iv (-14)] M9) (fun M11 => oV M11))) else oV M1) = cV (fn X (d + 8) 45 [rv 25, iv a] M4) (fun M6 => oV M6) := fun F => by
        by_cases e6 : (tkK (tks b n) k2 : Int) = 60
        · obtain rfl : a = -13 := by omega
          simp only [if_pos e6]
          rw [a1, cV_V, c1, cV_V]
        · have e61 : (tkK (tks b n) k2 : Int) = 61 := by omega
          obtain rfl : a = -14 := by omega
          simp only [if_neg e6, if_pos e61]
          rw [a1, cV_V, c1, cV_V]
      rw [e (fun _ => none)]
      dsimp only
      cases hq2 : sub (k2 + 1) r2 with
      | inl x =>
        obtain ⟨x1, x2⟩ := x
        rw [hq2] at c2
        obtain ⟨M5, d1, d2, d3⟩ := c_addF (X := X) (d := d + 7) (c2.1 x1 x2 rfl) a
        rw [d1, cV_V]
        exact ⟨M5, rfl, Oc_l d2, b3.tr (a3.tr (c3.tr d3))⟩
      | inr v =>
        obtain ⟨k3, r3⟩ := v
        rw [hq2] at c2
        obtain ⟨⟨nw2, y1, y2, y3, y4⟩, y5⟩ := hp _ _ _ _ hq2
        have hl3 : r3.length < 700 := by
          rw [y1, List.length_append]
          omega
        obtain ⟨M5, d1, d2, d3⟩ := c_add (X := X) (d := d + 7) (c2.2 k3 r3 rfl) hl3 a
        rw [d1, cV_V]
        exact ⟨M5, rfl, Oc_r d2, b3.tr (a3.tr (c3.tr d3))⟩
/-- a number within bounds -/
def pNum (t : TS) (lo hi : Int) (k : Nat) : (Nat × Nat) ⊕ Nat := if tkK t k = 2 then (if 4 < tkD t k ∨ (tkV t k : Int) < lo ∨ hi < (tkV t k : Int) then .inl (2, k) else .inr (tkV t k)) else .inl (1, k)
theorem c_22 {M : rM} {k : Nat} {r : List Int} (hg : CGd b n k r M) (hl : r.length ≤ 700) (lo hi : Int) : ∃ M', fn X (d + 9) 22 [rv 29, iv lo, iv hi] M = oI (match pNum (tks b n) lo hi k with
    | .inl _ => 0
    | .inr v => (v : Int)) M' ∧ (match pNum (tks b n) lo hi k with
    | .inl x => CF b n x.1 x.2 M'
    | .inr _ => CGd b n (k + 1) r M') ∧ sf P9 M M' := by
  rw [q_22_29, c_kd (d := d + 7) hg.1, cI_I]
  unfold pNum
  by_cases h2 : tkK (tks b n) k = 2
  · obtain ⟨v1, v2⟩ := hg.1.2.2.2.2.2 h2
    rw [if_pos h2, if_pos (by omega), q_127_30, cI_I, q_130_30, v1, v2]
    obtain ⟨M2, a1, a2, a3⟩ := c_ref (X := X) (d := d + 6) hg hl (f := 2) (by omega)
    replace a1 : fn X (d + 8) 17 [rv 29, iv 2] M = oV M2 := a1
    by_cases h4 : 4 < tkD (tks b n) k
    · rw [if_pos (show 4 < (tkD (tks b n) k : Int) by omega), cI_I, if_neg (by decide), if_pos (Or.inl h4), a1, cV_V]
      exact ⟨M2, rfl, a2, a3⟩
    · rw [if_neg (show ¬ 4 < (tkD (tks b n) k : Int) by omega), cI_I, if_pos rfl]
      by_cases hlo : (tkV (tks b n) k : Int) < lo
      · rw [if_pos hlo, if_pos (Or.inr (Or.inl hlo)), a1, cV_V]
        exact ⟨M2, rfl, a2, a3⟩
      · rw [if_neg hlo]
        by_cases hhi : hi < (tkV (tks b n) k : Int)
        · rw [if_pos hhi, if_pos (Or.inr (Or.inr hhi)), a1, cV_V]
          exact ⟨M2, rfl, a2, a3⟩
        · obtain ⟨M3, c1, c2, c3⟩ := c_go (X := X) (d := d) hg
          rw [if_neg hhi, if_neg (show ¬ (4 < tkD (tks b n) k ∨ (tkV (tks b n) k : Int) < lo ∨ hi < (tkV (tks b n) k : Int)) by omega), c1, cV_V]
          exact ⟨M3, rfl, c2, c3⟩
  · obtain ⟨M2, a1, a2, a3⟩ := c_ref (X := X) (d := d + 6) hg hl (f := 1) (by omega)
    replace a1 : fn X (d + 8) 17 [rv 29, iv 1] M = oV M2 := a1
    rw [if_neg h2, if_neg (by omega), a1, cV_V]
    exact ⟨M2, rfl, a2, a3⟩
theorem c_23 {M : rM} {k : Nat} {r : List Int} (hT : Tok (tks b n)) (hg : CGd b n k r M) (hl : r.length ≤ 700) (q : Nat) : ∃ M', fn X (d + 9) 23 [rv 29, iv (q : Int)] M = oV M' ∧ (if tkK (tks b n) k = q then CGd b n (k + 1) r M' else CF b n 1 k M') ∧ sf P9 M M' := by
  rw [q_23_29, if_pos hg.2.2.1, c_kd (d := d + 7) hg.1, cI_I]
  by_cases h : tkK (tks b n) k = q
  · obtain ⟨M3, c1, c2, c3⟩ := c_go (X := X) (d := d) hg
    rw [if_pos (by omega), c1, cV_V]
    refine ⟨M3, rfl, ?_, c3⟩
    rw [if_pos h]
    exact c2
  · obtain ⟨M2, a1, a2, a3⟩ := c_ref (X := X) (d := d + 6) hg hl (f := 1) (by omega)
    replace a1 : fn X (d + 8) 17 [rv 29, iv 1] M = oV M2 := a1
    rw [if_neg (by omega), a1, cV_V]
    refine ⟨M2, rfl, ?_, a3⟩
    rw [if_neg h]
    exact a2
theorem c_23F {M : rM} {k f : Nat} (hg : CF b n f k M) (q : Int) : fn X (d + 9) 23 [rv 29, iv q] M = oV M := by
  rw [q_23_29, if_neg (CF_ne hg)]
end C87c
