section C86b
variable {X : Nat × (Nat → Int32)} {d : Nat} {M : rM} {b : Nat → Nat} {s n : Nat}
theorem m_wrdL : ∀ (f i m : Nat) (M : rM), s + i + f = n → MB b n M → M.2.1 59 28 = (s : Int) → M.2.1 59 26 = ((s + i : Nat) : Int) → M.2.2 59 32 = Int64.ofNat (cod b s (min 8 i)) → (∀ j, j < i → isLt (b (s + j)) = true) → f < m → ∃ M', kb X (d + 1) 219 m 108 [some (rv 59), none] [] M = oV M' ∧ M'.2.1 59 28 = (s : Int) ∧ M'.2.1 59 26 = (skp b isLt f (s + i) : Int) ∧ M'.2.1 59 27 = 1 ∧ M'.2.1 59 29 = ((skp b isLt f (s + i) - s : Nat) : Int) ∧ M'.2.2 59 32 = Int64.ofNat (cod b s (min 8 (skp b isLt f (s + i) - s))) ∧ sf P59 M M'
  | f, i, m, M, hf, hT, h28, h26, h32, hd, hm => by
    obtain ⟨m', rfl⟩ : ∃ m', m = m' + 1 := ⟨m - 1, by omega⟩
    have hn := hT.1
    rw [q_219_59_at108, h26, m_byte hT (by omega), cI_I, m_lt, cI_I, h26, h28, wri (x := ((s + i : Nat) : Int) - (s : Int)) (by omega) (by omega), wr_succ (by omega)]
    by_cases hb : isLt (bya b n (s + i)) = true
    · have hlt : s + i < n := by
        apply Classical.byContradiction
        intro z
        unfold bya at hb
        rw [if_neg z] at hb
        cases hb
      have hby : bya b n (s + i) = b (s + i) := if_pos hlt
      rw [hby] at hb
      obtain ⟨f', rfl⟩ : ∃ f', f = f' + 1 := ⟨f - 1, by omega⟩
      have es : skp b isLt (f' + 1) (s + i) = skp b isLt f' (s + (i + 1)) := by
        show (if isLt (b (s + i)) = true then _ else _) = _
        rw [if_pos hb]
        rfl
      have hd' : ∀ j, j < i + 1 → isLt (b (s + j)) = true := lt_ext (Q := fun j => isLt (b (s + j)) = true) hd hb
      have hb2 := hb
      unfold isLt at hb2
      rw [Bool.and_eq_true, decide_eq_true_eq, decide_eq_true_eq] at hb2
      rw [hby, hb, if_neg (by decide), es]
      by_cases h4 : ((s + i : Nat) : Int) - (s : Int) < 8
      · rw [if_pos h4, m_byte hT (by omega), cI_I, hby, h32, h26, wr_succ (by omega)]
        have ev : cod b s (min 8 i) < 1099511627776 := by
          have h1 : cod b s (min 8 i) < 32 ^ (min 8 i) := cod_lt _ (fun j hj => hd j (by omega))
          have h2 : 32 ^ (min 8 i) ≤ 32 ^ 8 := Nat.pow_le_pow_right (by omega) (by omega)
          omega
        have ew : (jshl (Int64.ofNat (cod b s (min 8 i))) 5 ||| i2j (wr ((b (s + i) : Int) - 96))) = Int64.ofNat (cod b s (min 8 (i + 1))) := by
          have e2 : cod b s (min 8 (i + 1)) = cod b s (min 8 i) * 32 + (b (s + i) - 96) := by
            rw [show min 8 (i + 1) = i + 1 by omega, show min 8 i = i by omega]
            rfl
          rw [wri (by omega) (by omega), show (b (s + i) : Int) - 96 = ((b (s + i) - 96 : Nat) : Int) by omega, jcod ev (by omega), e2]
        rw [ew]
        have hs : sf P59 M (puI (puJ M 59 32 (Int64.ofNat (cod b s (min 8 (i + 1))))) 59 26 ((s + i + 1 : Nat) : Int)) := (sf.rf.pj rfl _).pu rfl _
        obtain ⟨M2, e1, e2, e3, e4, e5, e6, e7⟩ := m_wrdL f' (i + 1) m' (puI (puJ M 59 32 (Int64.ofNat (cod b s (min 8 (i + 1))))) 59 26 ((s + i + 1 : Nat) : Int)) (by omega) (MB_s9 hT hs) (by rw [puI_nj (by omega)]; exact h28) (puI_eq _ _ _ _) (puJ_eq M 59 32 _) hd' (by omega)
        exact ⟨M2, e1, e2, e3, e4, e5, e6, hs.tr e7⟩
      · rw [if_neg h4]
        have hs : sf P59 M (puI M 59 26 ((s + i + 1 : Nat) : Int)) := sf.rf.pu rfl _
        obtain ⟨M2, e1, e2, e3, e4, e5, e6, e7⟩ := m_wrdL f' (i + 1) m' (puI M 59 26 ((s + i + 1 : Nat) : Int)) (by omega) (MB_s9 hT hs) (by rw [puI_nj (by omega)]; exact h28) (puI_eq _ _ _ _) (by rw [show min 8 (i + 1) = min 8 i by omega]; exact h32) hd' (by omega)
        exact ⟨M2, e1, e2, e3, e4, e5, e6, hs.tr e7⟩
    · have es : skp b isLt f (s + i) = s + i := by
        cases f with
        | zero => rfl
        | succ f =>
          have hby : bya b n (s + i) = b (s + i) := if_pos (by omega)
          rw [hby] at hb
          show (if isLt (b (s + i)) = true then _ else _) = _
          rw [if_neg hb]
      rw [es, show s + i - s = i by omega, Bool.eq_false_iff.2 hb, if_pos (show b01 false = 0 from rfl)]
      refine ⟨_, rfl, ?_, ?_, ?_, ?_, h32, (sf.rf.pu rfl _).pu rfl _⟩
      · rw [puI_nj (by omega), puI_nj (by omega)]; exact h28
      · rw [puI_nj (by omega), puI_nj (by omega)]; exact h26
      · rw [puI_nj (by omega)]; exact puI_eq _ _ _ _
      · rw [puI_eq]
        omega
termination_by f => f
def srt (q : Nat) : Nat := if q = 0 then 0 else if q = 1 then 4 else if q = 2 then 2 else if 100 ≤ q then 1 else 3
/-- the model stands at a token -/
def MT (b : Nat → Nat) (n k : Nat) (M : rM) : Prop := MB b n M ∧ M.2.1 59 28 = (tZ b n k : Int) ∧ M.2.1 59 26 = (bh b n (k + 1) : Int) ∧ M.2.1 59 27 = (srt (tkK (tks b n) k) : Int) ∧ M.2.1 59 29 = (tkD (tks b n) k : Int) ∧ (tkK (tks b n) k = 2 → M.2.1 59 30 = (tkV (tks b n) k : Int)) ∧ (3 ≤ tkK (tks b n) k → tkK (tks b n) k < 100 → M.2.1 59 31 = (tkK (tks b n) k : Int)) ∧ (100 ≤ tkK (tks b n) k → M.2.2 59 32 = Int64.ofNat (cod b (tZ b n k) (min 8 (tkD (tks b n) k))))
theorem m_goes (hT : MB b n M) {k : Nat} (h3 : M.2.1 59 26 = (bh b n k : Int)) : ∃ M', fn X (d + 2) 219 [rv 59] M = oV M' ∧ MT b n k M' ∧ sf P59 M M' := by
  have hn := hT.1
  have hbh := bh_le (b := b) (n := n) k
  rw [(q_219_59 M).trans (q_219_59_at0 (n := FU) M).symm]
  obtain ⟨M1, m, e1, e2, e3, e4⟩ := m_blank (X := X) (d := d) (n - bh b n k) (bh b n k) (FU + 1) M (by omega) hT h3 (by have := FU_lt (k := n - bh b n k + 2) (by omega); omega)
  have hm : 800 < m := by
    have := FU_lt (k := 100000) (by omega)
    omega
  have e2' : M1.2.1 59 26 = (tZ b n k : Int) := e2
  have hz := tZ_le (b := b) (n := n) k
  have hT1 := MB_s9 hT e3
  have hk1 : bh b n (k + 1) = tE b n (tZ b n k) := rfl
  have hkk : tkK (tks b n) k = tQ b n (tZ b n k) := rfl
  have hkv : tkV (tks b n) k = nmb b (tZ b n k) (min 4 (tE b n (tZ b n k) - tZ b n k)) := rfl
  have hkd : tkD (tks b n) k = tE b n (tZ b n k) - tZ b n k := rfl
  unfold MT
  rw [hk1, hkk, hkv, hkd]
  generalize tZ b n k = s at *
  have hs2 : sf P59 M1 (puI (puJ (puI M1 59 28 (s : Int)) 59 32 (Int64.ofNat 0)) 59 30 0) := ((sf.rf.pu rfl _).pj rfl _).pu rfl _
  have j28 : (puI (puJ (puI M1 59 28 (s : Int)) 59 32 (Int64.ofNat 0)) 59 30 0).2.1 59 28 = (s : Int) := by
    rw [puI_nj (by omega)]
    show (puI M1 59 28 (s : Int)).2.1 59 28 = _
    exact puI_eq _ _ _ _
  have j26 : (puI (puJ (puI M1 59 28 (s : Int)) 59 32 (Int64.ofNat 0)) 59 30 0).2.1 59 26 = (s : Int) := by
    rw [puI_nj (by omega)]
    show (puI M1 59 28 (s : Int)).2.1 59 26 = _
    rw [puI_nj (by omega)]
    exact e2'
  have j30 : (puI (puJ (puI M1 59 28 (s : Int)) 59 32 (Int64.ofNat 0)) 59 30 0).2.1 59 30 = 0 := puI_eq _ _ _ _
  have j32 : (puI (puJ (puI M1 59 28 (s : Int)) 59 32 (Int64.ofNat 0)) 59 30 0).2.2 59 32 = Int64.ofNat 0 := puJ_eq (puI M1 59 28 (s : Int)) 59 32 _
  rw [e1, q_219_59_at50, e2']
  generalize puI (puJ (puI M1 59 28 (s : Int)) 59 32 (Int64.ofNat 0)) 59 30 0 = M2 at *
  have hT2 := MB_s9 hT1 hs2
  rw [m_byte hT2 (by omega), cI_I, j26, hT2.2.2.2]
  have hs3 : sf P59 M2 (puI M2 59 31 (bya b n s : Int)) := sf.rf.pu rfl _
  have k28 : (puI M2 59 31 (bya b n s : Int)).2.1 59 28 = (s : Int) := by rw [puI_nj (by omega)]; exact j28
  have k26 : (puI M2 59 31 (bya b n s : Int)).2.1 59 26 = (s : Int) := by rw [puI_nj (by omega)]; exact j26
  have k30 : (puI M2 59 31 (bya b n s : Int)).2.1 59 30 = 0 := by rw [puI_nj (by omega)]; exact j30
  have k31 : (puI M2 59 31 (bya b n s : Int)).2.1 59 31 = (bya b n s : Int) := puI_eq _ _ _ _
  have k32 : (puI M2 59 31 (bya b n s : Int)).2.2 59 32 = Int64.ofNat 0 := j32
  generalize puI M2 59 31 (bya b n s : Int) = M3 at *
  have hT3 := MB_s9 hT2 hs3
  have hsf := e3.tr (hs2.tr hs3)
  by_cases hs : n ≤ s
  · have g1 : tE b n s = s := by unfold tE; rw [if_pos hs]
    have g2 : tQ b n s = 0 := by unfold tQ; rw [if_pos hs]
    rw [if_neg (by omega), g1, g2, j28, wri (x := (s : Int) - (s : Int)) (by omega) (by omega)]
    have hs4 : sf P59 M3 (puI (puI M3 59 27 0) 59 29 ((s : Int) - (s : Int))) := (sf.rf.pu rfl _).pu rfl _
    refine ⟨_, rfl, ⟨MB_s9 hT3 hs4, ?_, ?_, ?_, ?_, fun z => (by cases z), fun z _ => absurd z (by omega), fun z => absurd z (by omega)⟩, hsf.tr hs4⟩
    · rw [puI_nj (by omega), puI_nj (by omega)]; exact k28
    · rw [puI_nj (by omega), puI_nj (by omega)]; exact k26
    · rw [puI_nj (by omega)]; exact puI_eq _ _ _ _
    · rw [puI_eq]
      omega
  · have hby : bya b n s = b s := if_pos (by omega)
    rw [if_pos (by omega), hby, m_lt, cI_I]
    by_cases hl : isLt (b s) = true
    · have hd : ¬ isDg (b s) = true := by
        unfold isLt at hl
        unfold isDg
        rw [Bool.and_eq_true, decide_eq_true_eq, decide_eq_true_eq] at hl ⊢
        omega
      have g1 : tE b n s = skp b isLt (n - s) s := by unfold tE; rw [if_neg hs, if_neg hd, if_pos hl]
      have g2 : tQ b n s = wdk b s (skp b isLt (n - s) s) := by unfold tQ; rw [if_neg hs, if_neg hd, if_pos hl, g1]
      have hw := wdk_ge b s (skp b isLt (n - s) s)
      rw [hl, if_neg (by decide), g1, g2]
      obtain ⟨M4, a1, a2, a3, a4, a5, a6, a7⟩ := m_wrdL (X := X) (d := d) (s := s) (n - s) 0 (m + 1) M3 (by omega) hT3 k28 k26 k32 (fun j hj => absurd hj (Nat.not_lt_zero j)) (by omega)
      refine ⟨M4, a1, ⟨MB_s9 hT3 a7, a2, a3, ?_, a5, fun z => by omega, fun z y => by omega, fun _ => a6⟩, hsf.tr a7⟩
      rw [a4]
      unfold srt
      rw [if_neg (by omega), if_neg (by omega), if_neg (by omega), if_pos hw.1]
      rfl
    · rw [Bool.eq_false_iff.2 hl, if_pos (show b01 false = 0 from rfl), m_dg, cI_I]
      by_cases hd : isDg (b s) = true
      · have g1 : tE b n s = skp b isDg (n - s) s := by unfold tE; rw [if_neg hs, if_pos hd]
        have g2 : tQ b n s = 2 := by unfold tQ; rw [if_neg hs, if_pos hd]
        rw [hd, if_neg (by decide), g1, g2]
        obtain ⟨M4, a1, a2, a3, a4, a5, a6, a7⟩ := m_numL (X := X) (d := d) (s := s) (n - s) 0 (m + 1) M3 (by omega) hT3 k28 k26 k30 (fun j hj => absurd hj (Nat.not_lt_zero j)) (by omega)
        exact ⟨M4, a1, ⟨MB_s9 hT3 a7, a2, a3, a4, a5, fun _ => a6, fun z y => by omega, fun z => by omega⟩, hsf.tr a7⟩
      · have g1 : tE b n s = s + 1 := by unfold tE; rw [if_neg hs, if_neg hd, if_neg hl]
        rw [Bool.eq_false_iff.2 hd, if_pos (show b01 false = 0 from rfl), sg_chain, k26, wr_succ (by omega), g1]
        by_cases hg : isSg (b s) = true
        · have g2 : tQ b n s = b s := by unfold tQ; rw [if_neg hs, if_neg hd, if_neg hl, if_pos hg]
          have hb : 40 ≤ b s ∧ b s ≤ 61 := by
            unfold isSg at hg
            simp only [Bool.or_eq_true, beq_iff_eq] at hg
            omega
          have l28 : (puI M3 59 26 ((s + 1 : Nat) : Int)).2.1 59 28 = (s : Int) := by rw [puI_nj (by omega)]; exact k28
          rw [if_pos hg, q_219_59_at323, puI_eq, l28, g2, wri (by omega) (by omega)]
          have hs4 : sf P59 M3 (puI (puI (puI M3 59 26 ((s + 1 : Nat) : Int)) 59 27 3) 59 29 (((s + 1 : Nat) : Int) - (s : Int))) := ((sf.rf.pu rfl _).pu rfl _).pu rfl _
          refine ⟨_, rfl, ⟨MB_s9 hT3 hs4, ?_, ?_, ?_, ?_, fun z => absurd z (by omega), fun _ _ => ?_, fun z => absurd z (by omega)⟩, hsf.tr hs4⟩
          · rw [puI_nj (by omega), puI_nj (by omega)]; exact l28
          · rw [puI_nj (by omega), puI_nj (by omega)]; exact puI_eq _ _ _ _
          · rw [puI_nj (by omega), puI_eq]
            unfold srt
            rw [if_neg (by omega), if_neg (by omega), if_neg (by omega), if_neg (by omega)]
            rfl
          · rw [puI_eq]
            omega
          · rw [puI_nj (by omega), puI_nj (by omega), puI_nj (by omega), k31, hby]
        · have g2 : tQ b n s = 1 := by unfold tQ; rw [if_neg hs, if_neg hd, if_neg hl, if_neg hg]
          rw [if_neg hg, k28, g2, wri (by omega) (by omega)]
          have hs4 : sf P59 M3 (puI (puI (puI M3 59 26 ((s + 1 : Nat) : Int)) 59 27 4) 59 29 (((s + 1 : Nat) : Int) - (s : Int))) := ((sf.rf.pu rfl _).pu rfl _).pu rfl _
          refine ⟨_, rfl, ⟨MB_s9 hT3 hs4, ?_, ?_, ?_, ?_, fun z => absurd z (by omega), fun z _ => absurd z (by omega), fun z => absurd z (by omega)⟩, hsf.tr hs4⟩
          · rw [puI_nj (by omega), puI_nj (by omega), puI_nj (by omega)]; exact k28
          · rw [puI_nj (by omega), puI_nj (by omega)]; exact puI_eq _ _ _ _
          · rw [puI_nj (by omega)]; exact puI_eq _ _ _ _
          · rw [puI_eq]
            omega
theorem MT_goes {k : Nat} (h : MT b n k M) : ∃ M', fn X (d + 2) 219 [rv 59] M = oV M' ∧ MT b n (k + 1) M' ∧ sf P59 M M' := m_goes h.1 h.2.2.1
end C86b
