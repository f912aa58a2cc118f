/-! ===== undo ===== -/
section C54
variable {X : Nat × (Nat → Int32)} {d n : Nat} {M M1 M2 M' : rM} {A A' : AS} {W V : WD} {P : List WD} {K : List MK}
theorem getD_dl {P : List WD} {i : Nat} (h : i + 1 < P.length) : P.dropLast.getD i W00 = P.getD i W00 := by
  simp only [List.getD_eq_getElem?_getD]
  rw [List.getElem?_dropLast, if_pos (by omega)]
noncomputable def undA (A : AS) : AS := if (aP A).length = 0 then A else sD A ((aP A).getD ((aP A).length - 1) W00) (aP A).dropLast (aK A)
def undV (A : AS) : Int := ((aP A).length : Int) - 1
theorem getD_in {P : List WD} {i : Nat} (h : i < P.length) : P.getD i W00 ∈ P := by
  rw [List.getD_eq_getElem?_getD, List.getElem?_eq_getElem h]
  exact List.getElem_mem h
theorem OKA.und (h : OKA A) : OKA (undA A) := by
  unfold undA
  split
  · exact h
  · rename_i hl
    obtain ⟨h1, h2, h3, h4, h5⟩ := h
    refine ⟨h1, h2, h4.2 _ (getD_in (by omega)), ⟨?_, fun V hV => h4.2 V (List.dropLast_subset _ hV)⟩, h5⟩
    have := h4.1
    show (aP A).dropLast.length ≤ 40
    rw [List.length_dropLast]
    omega
theorem c_undoW (h : CWd 31 n W P K M) (hP : P.length ≤ 40) (hl : P.length ≠ 0) : ∃ M', fn X (d + 1) 144 [rv 31] M = oI 1 M' ∧ CWd 31 n (P.getD (P.length - 1) W00) P.dropLast K M' ∧ (∀ k, k ≠ 31 → k ≠ 35 → M'.2.1 k = M.2.1 k) ∧ M'.1 = M.1 := by
  obtain ⟨h1, ⟨o, h2, h3, h4⟩, h5, h6, h7⟩ := h
  have e0 : wr ((P.length : Int) - 1) = ((P.length - 1 : Nat) : Int) := by
    rw [wri (by omega) (by omega)]
    omega
  have e1 : wr ((o : Int) + ((P.length - 1 : Nat) : Int)) = ((o + (P.length - 1) : Nat) : Int) := by
    rw [wri (by omega) (by omega)]
    omega
  have e2 : irm ((o + (P.length - 1) : Nat) : Int) 40 = (((o + (P.length - 1)) % 40 : Nat) : Int) := irm_nat (b := 40) (by omega) (by omega)
  have e3 : wr ((((o + (P.length - 1)) % 40 : Nat) : Int) * 27) = ((27 * ((o + (P.length - 1)) % 40) : Nat) : Int) := by
    rw [wri (by omega) (by omega)]
    omega
  rw [q_144_31, h2, h5, if_neg (show ¬ (P.length : Int) = 0 by omega), e0, e1, e2, e3, gdp ⟨by omega, by omega, by omega, by omega, by omega⟩, Int.toNat_natCast]
  have hdl : P.dropLast.length = P.length - 1 := List.length_dropLast
  refine ⟨_, rfl, ⟨fun j hj => ?_, ⟨o, ?_, h3, fun i hi => ?_⟩, ?_, ?_, fun i hi => ?_⟩, fun k z1 z2 => (puA_k (fun z => z2 z)).trans (puI_k z1), rfl⟩
  · have hcl := cl_lt hj
    have := h4 (P.length - 1) (by omega) j hj
    rw [show 31 + 4 = 35 from rfl, puA_eq]
    unfold va_cpy
    rw [if_pos (by omega), show 27 * ((o + (P.length - 1)) % 40) + (0 + cl j - 0) = 27 * ((o + (P.length - 1)) % 40) + cl j by omega]
    exact this
  · rw [puA_k (by omega), puI_nj (by omega)]
    exact h2
  · rw [hdl] at hi
    rw [getD_dl (by omega)]
    exact (h4 i (by omega)).fr ((puA_k (by omega)).trans (puI_k (by omega)))
  · rw [puA_k (by omega), puI_eq, hdl]
  · rw [puA_k (by omega), puI_nj (by omega)]
    exact h6
  · rw [puA_k (by omega), puI_k (by omega)]
    exact h7 i hi
theorem c_undo (hA : OKA A) (h : CH A M) : ∃ M', fn X (d + 2) 162 [rv 0] M = oI (undV A) M' ∧ CH (undA A) M' ∧ kC M M' ∧ M'.1 = M.1 := by
  rw [q_162_0]
  unfold undA undV
  by_cases hl : (aP A).length = 0
  · have h3 : M.2.1 31 3 = ((aP A).length : Int) := h.2.1.2.2.1
    rw [q_144_31, h3, if_pos (show ((aP A).length : Int) = 0 by omega), cI_I, if_pos (show (0 : Int) = 0 from rfl), if_pos hl, hl]
    exact ⟨M, rfl, h, kC.rf, rfl⟩
  · obtain ⟨M1, g1, g2, g3, g4⟩ := c_undoW (X := X) (d := d) h.2.1 hA.2.2.2.1.1 hl
    have h3 : M1.2.1 31 3 = ((aP A).dropLast.length : Int) := g2.2.2.1
    rw [g1, cI_I, if_neg n10, q_142_31, cI_I, if_neg hl, h3, List.length_dropLast]
    refine ⟨M1, ?_, h.D g2 (fun k j _ hn => by rw [g3 k (by omega) (by omega)]), fun k hk => g3 k (by omega) (by omega), g4⟩
    rw [show (((aP A).length - 1 : Nat) : Int) = ((aP A).length : Int) - 1 by omega]
theorem m_undo (hA : OKA A) (h : MH A M) : ∃ M', fn X (d + 2) 248 [rv 59] M = oI (undV A) M' ∧ MH (undA A) M' ∧ kM M M' := by
  obtain ⟨h0, z0, k0⟩ := m_0 h
  have hP := hA.2.2.2.1.1
  obtain ⟨h1, h2, h3, h4, h5⟩ := h0.2.1
  have h2' : M.2.1 59 61 = ((aP A).length : Int) := h.2.1.2.1
  rw [q_248_59, h2']
  generalize puI M 59 0 0 = M0 at *
  unfold undA undV
  by_cases hl : (aP A).length = 0
  · rw [if_pos (show ((aP A).length : Int) = 0 by omega), if_pos hl, hl]
    exact ⟨M0, rfl, h0, k0⟩
  · have e0 : wr (((aP A).length : Int) - 1) = (((aP A).length - 1 : Nat) : Int) := by
      rw [wri (by omega) (by omega)]
      omega
    rw [if_neg (show ¬ ((aP A).length : Int) = 0 by omega), if_neg hl, e0]
    have hdl : (aP A).dropLast.length = (aP A).length - 1 := List.length_dropLast
    generalize hq : (aP A).length - 1 = q at *
    have hq40 : q < 40 := by omega
    refine loop_st (σ := rM) (fun c M1 => (∀ j, j < c → M1.2.1 91 j = M0.2.1 92 (27 * q + j)) ∧ M1.2.1 59 61 = (q : Int) ∧ (∀ k j, k ≠ 91 → ¬ (k = 59 ∧ j = 61) → M1.2.1 k j = M0.2.1 k j) ∧ M1.1 = M0.1 ∧ M1.2.2 = M0.2.2) (fun m c M1 => kb X (d + 1) 248 m 26 [some (rv 59), some (iv (c : Int))] [] M1) (fun r => ∃ M', r = oI (((aP A).length : Int) - 1) M' ∧ MH (sD A ((aP A).getD q W00) (aP A).dropLast (aK A)) M' ∧ kM M M') 27 ?_ ?_ 27 0 FU _ (by omega) (FU_lt (by omega)) ⟨fun j hj => by omega, puI_eq _ _ _ _, fun k j a1 a2 => ?_, rfl, rfl⟩
    · rintro m c M1 hc ⟨i1, i2, i3, i4, i5⟩
      left
      have e1 : wr (wr (27 * (q : Int)) + (c : Int)) = ((27 * q + c : Nat) : Int) := by
        rw [wri (x := 27 * (q : Int)) (by omega) (by omega), wri (by omega) (by omega)]
        omega
      rw [q_248_59_at26, if_pos (by omega), i2, e1, gdx (by omega) (by omega), gdx (by omega) (by omega), Int.toNat_natCast, Int.toNat_natCast, wr_succ (by omega), i3 92 _ (by omega) (by omega)]
      refine ⟨_, rfl, fun j hj => ?_, ?_, fun k j a1 a2 => ?_, i4, i5⟩
      · by_cases e : j = c
        · subst e
          rw [puI_eq]
        · rw [puI_nj (by omega)]
          exact i1 j (by omega)
      · rw [puI_k (by omega)]
        exact i2
      · rw [puI_k a1]
        exact i3 k j a1 a2
    · rintro m M1 ⟨i1, i2, i3, i4, i5⟩
      rw [q_248_59_at26, if_neg (by omega), i2]
      refine ⟨M1, by rw [show ((aP A).length : Int) - 1 = (q : Int) by omega], h0.D ⟨fun j hj => ?_, ?_, fun i hi => ?_, ?_, fun i hi => ?_⟩ (fun k j _ hn => i3 k j (by omega) (by omega)), k0.tr ⟨i4, fun k hk => funext (fun j => i3 k j (by omega) (by omega)), by rw [i5]⟩⟩
      · have := h3 q (by omega) j hj
        rw [Nat.zero_add, i1 j (okj hj)]
        exact this
      · rw [i2, hdl]
      · rw [getD_dl (by omega)]
        intro j hj
        rw [i3 92 _ (by omega) (by omega)]
        exact h3 i (by omega) j hj
      · rw [i3 59 76 (by omega) (by omega)]
        exact h4
      · rw [show M1.2.1 104 = M0.2.1 104 from funext (fun j => i3 104 j (by omega) (by omega))]
        exact h5 i hi
    · rw [puI_at]
      by_cases e : k = 59
      · rw [if_pos e, if_neg (fun z => a2 ⟨e, z⟩), e]
      · rw [if_neg e]
end C54
