section C87f
variable {X : Nat × (Nat → Int32)} {b : Nat → Nat} {n : Nat}
theorem c_E0 (d : Nat) : Rd b n (fun M => fn X (d + 10) 24 [rv 29, iv 6] M) (pE (tks b n) 0) := by
  intro k r M hg hr hk
  show ∃ M', fn X (d + 9 + 1) 24 [rv 29, iv 6] M = oV M' ∧ Oc b n (.inl (if canB (tkK (tks b n) k) then 2 else 1, k)) M' ∧ _
  have h304 : M.2.1 30 4 = (tkK (tks b n) k : Int) := hg.1.2.2.2.2.1
  have e25 : fn X (d + 9) 25 [rv 29] M = oI (b01 (canB (tkK (tks b n) k))) M := by
    rw [q_25_29, c_kd (d := d + 7) hg.1, cI_I]
    unfold canB b01
    by_cases h2 : tkK (tks b n) k = 2
    · rw [if_pos (by omega), beq_iff_eq.2 h2]
      rfl
    · rw [if_neg (by omega), q_128_30, h304, beq_eq_false_iff_ne.2 h2]
      by_cases hw : 100 ≤ tkK (tks b n) k
      · rw [if_neg (by omega), cI_I, if_neg (by decide), decide_eq_true hw]
        rfl
      · rw [if_pos (by omega), cI_I, if_pos rfl, c_kd (d := d + 7) hg.1, cI_I, decide_eq_false hw]
        by_cases h40 : tkK (tks b n) k = 40
        · rw [if_pos (by omega), beq_iff_eq.2 h40]
          rfl
        · rw [if_neg (by omega), beq_eq_false_iff_ne.2 h40]
          rfl
  rw [q_24_29, if_neg (by omega), e25, cI_I]
  cases hc : canB (tkK (tks b n) k) with
  | true =>
    obtain ⟨M2, a1, a2, a3⟩ := c_ref (X := X) (d := d + 7) hg (by omega) (f := 2) (by omega)
    replace a1 : fn X (d + 9) 17 [rv 29, iv 2] M = oV M2 := a1
    rw [if_neg (by decide), a1, cV_V]
    exact ⟨M2, rfl, Oc_l a2, a3⟩
  | false =>
    obtain ⟨M2, a1, a2, a3⟩ := c_ref (X := X) (d := d + 7) hg (by omega) (f := 1) (by omega)
    replace a1 : fn X (d + 9) 17 [rv 29, iv 1] M = oV M2 := a1
    rw [if_pos (show b01 false = 0 from rfl), a1, cV_V]
    exact ⟨M2, rfl, Oc_l a2, a3⟩
/-- the class reads a rule as pE does -/
theorem c_E (hT : Tok (tks b n)) (hV : TokV (tks b n)) (d : Nat) : ∀ (D : Nat) (dep : Int), dep + (D : Int) = 6 → 0 ≤ dep → Rd b n (fun M => fn X (d + 7 * D + 10) 24 [rv 29, iv dep] M) (pE (tks b n) D)
  | 0, dep, h, h0 => by
    obtain rfl : dep = 6 := by omega
    exact c_E0 d
  | D + 1, dep, h, h0 => by
    have ih := c_E hT hV d D (dep + 1) (by omega) (by omega)
    have p0 := pE_hp hT hV D
    have r31 := c_31 (X := X) (d := d + 7 * D + 1) hT hV p0 ⟨h0, by omega⟩ ih
    have p1 := pPart_hp (B := 5 * D + 1) hT hV (by omega) p0
    have r30 := c_30 (X := X) (d := d + 7 * D + 3) hT p1 r31
    have p2 := pCh_hp (t := tks b n) (L := 6) p1
    have r29 := c_29 (X := X) (d := d + 7 * D + 4) hT p2 r30
    have p3 := pCh_hp (t := tks b n) (L := 5) p2
    have r28 := c_28 (X := X) (d := d + 7 * D + 5) hT p3 r29
    have p4 := pTest_hp (t := tks b n) p3
    have r27 := c_27 (X := X) (d := d + 7 * D + 6) hT p4 r28
    have p5 := pNot_hp (t := tks b n) p4
    have r26 := c_26 (X := X) (d := d + 7 * D + 7) hT p5 r27
    have p6 := pCh_hp (t := tks b n) (L := 2) p5
    have r24 := c_24 (X := X) (d := d + 7 * D + 8) hT p6 (by omega) r26
    have e : d + 7 * (D + 1) + 10 = d + 7 * D + 8 + 9 := by omega
    rw [e]
    exact r24
end C87f
