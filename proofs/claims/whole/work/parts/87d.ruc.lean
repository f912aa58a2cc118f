section C87d
variable {X : Nat × (Nat → Int32)} {d : Nat} {b : Nat → Nat} {n B : Nat} {sub deep : Nat → List Int → PZ} {dep : Int}
theorem c_31 (hT : Tok (tks b n)) (hV : TokV (tks b n)) (hpd : Hp B deep) (h0 : 0 ≤ dep ∧ dep ≤ 6) (hd : Rd b n (fun M => fn X (d + 9) 24 [rv 29, iv (dep + 1)] M) deep) : Rd b n (fun M => fn X (d + 10) 31 [rv 29, iv dep] M) (pPart (tks b n) deep) := by
  intro k r M hg hr hk
  show ∃ M', fn X (d + 9 + 1) 31 [rv 29, iv dep] M = oV M' ∧ _
  have h304 : M.2.1 30 4 = (tkK (tks b n) k : Int) := hg.1.2.2.2.2.1
  rw [q_31_29, if_pos hg.2.2.1, c_kd (d := d + 8) hg.1, cI_I]
  unfold pPart
  by_cases h2 : tkK (tks b n) k = 2
  · have h7 := hT k (by omega)
    rw [if_pos h2, if_pos (show (tkK (tks b n) k : Int) = 2 by omega)]
    obtain ⟨M2, a1, a2, a3⟩ := c_22 (X := X) (d := d) hg (by omega) 0 9999
    rw [a1, cI_I]
    by_cases h4 : 4 < tkD (tks b n) k
    · have e : pNum (tks b n) 0 9999 k = .inl (2, k) := by
        unfold pNum
        rw [if_pos h2, if_pos (Or.inl h4)]
      rw [e] at a2 ⊢
      obtain ⟨M3, c1, c2, c3⟩ := c_addF (X := X) (d := d + 8) a2 0
      rw [if_pos h4]
      dsimp only
      rw [c1, cV_V]
      exact ⟨M3, rfl, Oc_l c2, a3.tr c3⟩
    · have hv := hV k h2 (by omega)
      have e : pNum (tks b n) 0 9999 k = .inr (tkV (tks b n) k) := by
        unfold pNum
        rw [if_pos h2, if_neg (by omega)]
      rw [e] at a2 ⊢
      obtain ⟨M3, c1, c2, c3⟩ := c_add (X := X) (d := d + 8) a2 (by omega) (tkV (tks b n) k : Int)
      rw [if_neg h4]
      dsimp only
      rw [c1, cV_V]
      exact ⟨M3, rfl, Oc_r c2, a3.tr c3⟩
  rw [if_neg h2, if_neg (show ¬ (tkK (tks b n) k : Int) = 2 by omega), q_129_30, h304]
  by_cases hv : 111 ≤ tkK (tks b n) k ∧ tkK (tks b n) k ≤ 116
  · have h7 := hT k (by omega)
    rw [if_pos hv, if_neg (by omega), if_neg (by omega), cI_I, if_neg (by decide), c_kd (d := d + 8) hg.1, cI_I, wri (x := (tkK (tks b n) k : Int) - 111) (by omega) (by omega), wri (by omega) (by omega), show (-1 : Int) - ((tkK (tks b n) k : Int) - 111) = 110 - (tkK (tks b n) k : Int) by omega]
    obtain ⟨M2, a1, a2, a3⟩ := c_add (X := X) (d := d + 8) hg (by omega) (110 - (tkK (tks b n) k : Int))
    obtain ⟨M3, c1, c2, c3⟩ := c_go (X := X) (d := d + 1) a2
    rw [a1, cV_V, c1, cV_V]
    exact ⟨M3, rfl, Oc_r c2, a3.tr c3⟩
  have e0 : (if (tkK (tks b n) k : Int) < 111 then oI 0 M else if 116 < (tkK (tks b n) k : Int) then oI 0 M else oI 1 M) = oI 0 M := by
    by_cases z : (tkK (tks b n) k : Int) < 111
    · rw [if_pos z]
    · rw [if_neg z, if_pos (by omega)]
  rw [e0, cI_I, if_pos rfl, if_neg hv, q_128_30, h304]
  by_cases hw : 100 ≤ tkK (tks b n) k
  · obtain ⟨M2, a1, a2, a3⟩ := c_ref (X := X) (d := d + 7) hg (by omega) (f := 3) (by omega)
    replace a1 : fn X (d + 9) 17 [rv 29, iv 3] M = oV M2 := a1
    rw [if_pos hw, if_neg (by omega), cI_I, if_neg (by decide), a1, cV_V]
    exact ⟨M2, rfl, Oc_l a2, a3⟩
  rw [if_neg hw, if_pos (by omega), cI_I, if_pos rfl, c_kd (d := d + 8) hg.1, cI_I]
  by_cases h40 : tkK (tks b n) k = 40
  · have h7 := hT k (by omega)
    obtain ⟨M2, a1, a2, a3⟩ := c_go (X := X) (d := d + 1) hg
    obtain ⟨M3, c1, c2, c3⟩ := hd (k + 1) r M2 a2 (by omega) (by omega)
    replace c1 : fn X (d + 9) 24 [rv 29, iv (dep + 1)] M2 = oV M3 := c1
    rw [if_pos h40, if_pos (by omega), a1, cV_V, wri (by omega) (by omega), c1, cV_V]
    cases hq : deep (k + 1) r with
    | inl x =>
      obtain ⟨x1, x2⟩ := x
      rw [hq] at c2
      rw [c_23F (c2.1 x1 x2 rfl), cV_V]
      exact ⟨M3, rfl, c2, a3.tr c3⟩
    | inr v =>
      obtain ⟨k2, r2⟩ := v
      rw [hq] at c2
      obtain ⟨⟨nw, z1, z2, z3, z4⟩, z5⟩ := hpd _ _ _ _ hq
      have hl : r2.length ≤ 700 := by
        rw [z1, List.length_append]
        omega
      obtain ⟨M4, d1, d2, d3⟩ := c_23 (X := X) (d := d) hT (c2.2 k2 r2 rfl) hl 41
      replace d1 : fn X (d + 9) 23 [rv 29, iv 41] M3 = oV M4 := d1
      rw [d1, cV_V]
      refine ⟨M4, rfl, ?_, a3.tr (c3.tr d3)⟩
      dsimp only
      by_cases h41 : tkK (tks b n) k2 = 41
      · rw [if_pos h41] at d2 ⊢
        exact Oc_r d2
      · rw [if_neg h41] at d2 ⊢
        exact Oc_l d2
  · obtain ⟨M2, a1, a2, a3⟩ := c_ref (X := X) (d := d + 7) hg (by omega) (f := 1) (by omega)
    replace a1 : fn X (d + 9) 17 [rv 29, iv 1] M = oV M2 := a1
    rw [if_neg h40, if_neg (by omega), a1, cV_V]
    exact ⟨M2, rfl, Oc_l a2, a3⟩
end C87d
