/-! ===== the days ahead: stolen, when ===== -/
theorem hs57 : (57 : Nat) = 34 ∨ (57 : Nat) = 57 := Or.inr rfl
theorem eC_57 : ∀ k j, eC k j = true → Pst 57 k j = false := by
  intro k j z
  unfold eC at z
  unfold Pst
  simp only [Bool.or_eq_true, Bool.and_eq_true, beq_iff_eq, decide_eq_true_eq] at z
  simp only [Bool.or_eq_false_iff, beq_eq_false_iff_ne]
  omega
theorem eM_27 : ∀ k j, eM k j = true → PM 27 k j = false := by
  intro k j z
  unfold eM at z
  unfold PM
  simp only [Bool.or_eq_true, Bool.and_eq_true, beq_iff_eq, decide_eq_true_eq] at z
  simp only [Bool.or_eq_false_iff, Bool.and_eq_false_iff, beq_eq_false_iff_ne, decide_eq_false_iff_not]
  omega
section C58
variable {X : Nat × (Nat → Int32)} {d n : Nat} {M M1 M2 M' : rM} {A A' : AS} {W V : WD}
theorem kC_57 (f : sf (Pst 57) M M') : kC M M' := kC.sf f (fun k j hk => by
  unfold Pst
  simp only [Bool.or_eq_false_iff, beq_eq_false_iff_ne]
  omega)
theorem kM_27 (f : sf (PM 27) M M') : kM M M' := kM.sf f (fun k j hk => by
  unfold PM
  simp only [Bool.or_eq_false_iff, Bool.and_eq_false_iff, beq_eq_false_iff_ne, decide_eq_false_iff_not]
  omega)
theorem c_fork (h : CH A M) : ∃ M', fn X (d + 1) 92 [rv 57, rv 34] M = oV M' ∧ CW (57 + 1) 0 (nC (aS A)) (aW A) M' ∧ CH A M' ∧ kC M M' ∧ M'.1 = M.1 := by
  rw [q_92_57_34]
  have f : sf (Pst 57) M (puA M 58 (va_cpy (M.2.1 35) (M.2.1 58) 0 0 27)) := ⟨rfl, fun k j z => ⟨by
    rw [puA_k]
    unfold Pst at z
    simp only [Bool.or_eq_false_iff, beq_eq_false_iff_ne] at z
    omega, rfl⟩⟩
  refine ⟨_, rfl, fun j hj => ?_, h.sf f eC_57, kC_57 f, rfl⟩
  have := cl_lt hj
  rw [show 57 + 1 = 58 from rfl, puA_eq, cpy0 (by omega)]
  exact h.W j hj
theorem c_pass (hF : WF (aS A)) (h : CH A M) (hW : CW (57 + 1) 0 (nC (aS A)) W M) (hV : WW (aS A) W) {m : Nat} (hm : m ≤ 60) (hd : W 1 ≤ 99999) : ∃ M', fn X (d + 5) 5 [rv 56, iv (m : Int)] M = oV M' ∧ CW (57 + 1) 0 (nC (aS A)) (dayN (aS A) m W) M' ∧ CH A M' ∧ kC M M' ∧ M'.1 = M.1 := by
  rw [q_5_56]
  refine loop_st (σ := rM) (fun c M2 => CW (57 + 1) 0 (nC (aS A)) (dayN (aS A) c W) M2 ∧ CH A M2 ∧ kC M M2 ∧ M2.1 = M.1) (fun n c M2 => kb X (d + 4) 5 n 2 [some (rv 56), some (iv (m : Int)), some (iv (c : Int))] [] M2) (fun r => ∃ M', r = oV M' ∧ CW (57 + 1) 0 (nC (aS A)) (dayN (aS A) m W) M' ∧ CH A M' ∧ kC M M' ∧ M'.1 = M.1) m ?_ ?_ m 0 FU M (by omega) (FU_lt (by omega)) ⟨hW, h, kC.rf, rfl⟩
  · rintro n c M2 hc ⟨i1, i2, i3, i4⟩
    left
    obtain ⟨M3, t1, t2, t3⟩ := c_dayGo (X := X) (d := d + 1) hs57 i2.1 hF (WW_dayN hF hV c) i1 (by rw [dayN_1]; omega)
    rw [q_5_56_at2, if_pos (by omega), t1, cV_V, wr_succ (by omega)]
    exact ⟨M3, rfl, t2, i2.sf t3 eC_57, i3.tr (kC_57 t3), t3.1.trans i4⟩
  · rintro n M2 ⟨i1, i2, i3, i4⟩
    rw [q_5_56_at2, if_neg (by omega)]
    exact ⟨M2, rfl, i1, i2, i3, i4⟩
theorem m_fork (h : MW 91 0 n W M) : ∃ M', fn X (d + 1) 249 [rv 59] M = oV M' ∧ MW 91 27 n W M' ∧ sf (PM 27) M M' := by
  rw [q_249_59]
  refine loop_st (σ := rM) (fun c M1 => (∀ j, j < c → M1.2.1 91 (27 + j) = M.2.1 91 j) ∧ sf (PM 27) M M1) (fun m c M1 => kb X d 249 m 2 [some (rv 59), some (iv (c : Int))] [] M1) (fun r => ∃ M', r = oV M' ∧ MW 91 27 n W M' ∧ sf (PM 27) M M') 27 ?_ ?_ 27 0 FU M (by omega) (FU_lt (by omega)) ⟨fun j hj => by omega, sf.rf⟩
  · rintro m c M1 hc ⟨i1, i2⟩
    left
    have e1 : wr (27 + (c : Int)) = ((27 + c : Nat) : Int) := by
      rw [wri (by omega) (by omega)]
      omega
    rw [q_249_59_at2, if_pos (by omega), gdx (by omega) (by omega), e1, gdx (by omega) (by omega), Int.toNat_natCast, Int.toNat_natCast, wr_succ (by omega), (i2.2 91 c (by simp [PM]; omega)).1]
    refine ⟨_, rfl, fun j hj => ?_, i2.pu (PM_in hc) _⟩
    by_cases e : j = c
    · rw [e, puI_eq]
    · rw [puI_nj (by omega)]
      exact i1 j (by omega)
  · rintro m M1 ⟨i1, i2⟩
    rw [q_249_59_at2, if_neg (by omega)]
    refine ⟨M1, rfl, fun j hj => ?_, i2⟩
    have := h j hj
    rw [Nat.zero_add] at this
    rw [i1 j (okj hj)]
    exact this
theorem m_pass (hF : WF (aS A)) (h : MH A M) (hW : MW 91 27 (nC (aS A)) W M) (hV : WW (aS A) W) {m : Nat} (hm : m ≤ 60) (hd : W 1 ≤ 99999) : ∃ M', fn X (d + 3) 286 [rv 59, iv (m : Int)] M = oV M' ∧ MW 91 27 (nC (aS A)) (dayN (aS A) m W) M' ∧ sf (PM 27) M M' := by
  rw [q_286_59]
  refine loop_st (σ := rM) (fun c M2 => MW 91 27 (nC (aS A)) (dayN (aS A) c W) M2 ∧ sf (PM 27) M M2) (fun n c M2 => kb X (d + 2) 286 n 2 [some (rv 59), some (iv (m : Int)), some (iv (c : Int))] [] M2) (fun r => ∃ M', r = oV M' ∧ MW 91 27 (nC (aS A)) (dayN (aS A) m W) M' ∧ sf (PM 27) M M') m ?_ ?_ m 0 FU M (by omega) (FU_lt (by omega)) ⟨hW, sf.rf⟩
  · rintro n c M2 hc ⟨i1, i2⟩
    left
    obtain ⟨M3, t1, t2, t3⟩ := m_dayGo (X := X) (d := d) (off := 27) (by omega) (h.sf i2 eM_27).1 hF (WW_dayN hF hV c) i1 (by rw [dayN_1]; omega)
    have t1 : fn X (d + 2) 261 [rv 59, iv 27] M2 = oV M3 := t1
    rw [q_286_59_at2, if_pos (by omega), t1, cV_V, wr_succ (by omega)]
    exact ⟨M3, rfl, t2, i2.tr t3⟩
  · rintro n M2 ⟨i1, i2⟩
    rw [q_286_59_at2, if_neg (by omega)]
    exact ⟨M2, rfl, i1, i2⟩
/-! stolen -/
def stlV (A : AS) (a : Int) : Int := (fates (aS A) (dayN (aS A) a.toNat (aW A)) 2 : Int)
theorem c_ahead {a lo : Int} : fn X (d + 1) 205 [rv 0, iv a, iv lo] M = if lo ≤ a ∧ a ≤ 60 then oV M else oX 1 (thr M) := by
  rw [q_205_0]
  by_cases h1 : a < lo
  · rw [if_pos h1, if_neg (by omega)]
  · rw [if_neg h1]
    by_cases h2 : 60 < a
    · rw [if_pos h2, if_neg (by omega)]
    · rw [if_neg h2, if_pos (by omega)]
theorem c_stolenF (hA : OKA A) (h : CH A M) {m : Nat} (hm : m ≤ 60) : ∃ M', fn X (d + 6) 1 [rv 56, iv (m : Int)] M = oI (fates (aS A) (dayN (aS A) m (aW A)) 2 : Int) M' ∧ CH A M' ∧ kC M M' ∧ M'.1 = M.1 := by
  obtain ⟨hF, hR, hV, hP, -⟩ := hA
  obtain ⟨M1, g1, g2, g3, g4, g5⟩ := c_fork (X := X) (d := d + 4) h
  obtain ⟨M2, f1, f2, f3, f4, f5⟩ := c_pass (X := X) (d := d) hF g3 g2 hV.1 hm (by have := hV.2; omega)
  have b := c_bits (X := X) (d := d + 3) hs57 f3.1 hF f2 2
  have b : fn X (d + 5) 105 [rv 57, iv 2] M2 = oI (fates (aS A) (dayN (aS A) m (aW A)) 2 : Int) M2 := b
  rw [q_1_56, g1, cV_V, f1, cV_V, b, cI_I]
  exact ⟨M2, rfl, f3, g4.tr f4, f5.trans g5⟩
theorem c_stolen (hA : OKA A) (h : CH A M) (a : Int) : wOut A (ans (0 ≤ a ∧ a ≤ 60) 0).1 (stlV A a) M (fn X (d + 8) 334 [rv 0, iv a, rv 111] M) := by
  rw [q_334_0_111, q_167_0, c_ahead]
  unfold ans
  by_cases hc : 0 ≤ a ∧ a ≤ 60
  · obtain ⟨m, hm, rfl⟩ := nat_le (n := 60) hc
    obtain ⟨M1, g1, g2, g3, g4⟩ := c_stolenF (X := X) (d := d) hA h hm
    rw [if_pos hc, if_pos hc, cV_V, g1, cI_I]
    exact w_ok (M1 := M1) rfl g2 g3 g4
  · rw [if_neg hc, if_neg hc, cV_X]
    exact w_x (q := 1) (k := 1) (M1 := thr M) rfl rfl (by omega) h kC.rf rfl
theorem m_stolen (hA : OKA A) (h : MH A M) (a : Int) : mOut A (ans (0 ≤ a ∧ a ≤ 60) 0).1 (if 0 ≤ a ∧ a ≤ 60 then stlV A a else 0) M (fn X (d + 4) 287 [rv 59, iv a] M) := by
  obtain ⟨hF, hR, hV, hP, -⟩ := hA
  obtain ⟨h0, z0, k0⟩ := m_0 h
  rw [q_287_59]
  generalize puI M 59 0 0 = M0 at *
  rw [m_within, cI_I]
  unfold ans
  by_cases hc : 0 ≤ a ∧ a ≤ 60
  · obtain ⟨m, hm, rfl⟩ := nat_le (n := 60) hc
    simp only [if_pos hc]
    obtain ⟨M1, g1, g2, g3⟩ := m_fork (X := X) (d := d + 2) h0.W
    have hg := h0.sf g3 eM_27
    obtain ⟨M2, f1, f2, f3⟩ := m_pass (X := X) (d := d) hF hg g2 hV.1 hm (by have := hV.2; omega)
    have hf := hg.sf f3 eM_27
    have b := m_those (X := X) (d := d + 2) hf.1 hF (off := 27) (by omega) f2 2
    have b : fn X (d + 3) 252 [rv 59, iv 27, iv 2] M2 = oI (fates (aS A) (dayN (aS A) m (aW A)) 2 : Int) M2 := b
    rw [m_right1 z0, cI_I, if_neg n10, g1, cV_V, f1, cV_V, b, cI_I]
    refine ⟨M2, rfl, ?_, hf, k0.tr ((kM_27 g3).tr (kM_27 f3))⟩
    rw [(f3.2 59 0 (by simp [PM])).1, (g3.2 59 0 (by simp [PM])).1, z0]
    rfl
  · simp only [if_neg hc]
    rw [m_right0 z0 (by omega), cI_I, if_pos (show (0 : Int) = 0 from rfl)]
    exact ⟨_, rfl, puI_eq _ _ _ _, h0.p0 1, k0.pu (by omega) _ _⟩
end C58
