/-! ===== toGuard ===== -/
section C61
variable {X : Nat × (Nat → Int32)} {d n : Nat} {M M1 M2 M' : rM} {A A' : AS} {S : SK} {W V : WD}
/-- g: the guarded one and one more, or 0 -/
def kptW (S : SK) (W : WD) (m g : Nat) : Nat := prS S (fun c => dayN S m (up W 2 g) (21 + c) == 1) (nC S)
theorem CW.pz {k n g : Nat} (h : CW k 0 n W M) : CW k 0 n (up W 2 g) (puI M k 2 ((g : Int) - 1)) := by
  intro i hi
  by_cases e : i = 2
  · subst e
    rw [show 0 + cl 2 = 2 from rfl, puI_eq]
    unfold wv
    rw [if_pos rfl, up_eq]
  · rw [puI_nj (fun z => e (cl_inj hi (Or.inl (by omega) : okI n 2) (by rw [show cl 2 = 2 from rfl]; omega)))]
    have := h i hi
    rw [this]
    unfold wv
    rw [if_neg e, if_neg e, up_ne e]
theorem MW.pz {n g : Nat} (h : MW 91 27 n W M) : MW 91 27 n (up W 2 g) (puI M 91 29 ((g : Int) - 1)) := by
  intro i hi
  by_cases e : i = 2
  · subst e
    rw [show 27 + 2 = 29 from rfl, puI_eq]
    unfold wv
    rw [if_pos rfl, up_eq]
  · rw [puI_nj (by omega)]
    have := h i hi
    rw [this]
    unfold wv
    rw [if_neg e, if_neg e, up_ne e]
theorem WW_g {g : Nat} (h : WW S W) (hg : g ≤ nC S) : WW S (up W 2 g) := WW_up h (by omega) (fun _ => hg) (fun c _ => by omega)
theorem c_kept (hA : OKA A) (h : CH A M) {m g : Nat} (hm : m ≤ 60) (hg : g ≤ nC (aS A)) : ∃ M', fn X (d + 6) 4 [rv 56, iv ((g : Int) - 1), iv (m : Int)] M = oI (kptW (aS A) (aW A) m g : Int) M' ∧ CH A M' ∧ kC M M' ∧ M'.1 = M.1 := by
  obtain ⟨hF, hR, hV, hP, -⟩ := hA
  obtain ⟨M1, g1, g2, g3, g4, g5⟩ := c_fork (X := X) (d := d + 4) h
  have f : sf (Pst 57) M1 (puI M1 (57 + 1) 2 ((g : Int) - 1)) := sf.rf.pu (by simp [Pst]) _
  obtain ⟨M2, f1, f2, f3, f4, f5⟩ := c_pass (X := X) (d := d) hF (g3.sf f eC_57) (g2.pz (g := g)) (WW_g hV.1 hg) hm (by rw [up_ne (by omega)]; have := hV.2; omega)
  have b := c_bits (X := X) (d := d + 3) hs57 f3.1 hF f2 1
  have b : fn X (d + 5) 105 [rv 57, iv 1] M2 = oI (fates (aS A) (dayN (aS A) m (up (aW A) 2 g)) 1 : Int) M2 := b
  rw [q_4_56, g1, cV_V, q_97_s _ _ hs57, cV_V, f1, cV_V, b, cI_I, c_price f3.1 hF (fates_31 hF _), cI_I, prS_f]
  exact ⟨M2, rfl, f3, (g4.tr (kC_57 f)).tr f4, f5.trans g5⟩
theorem m_kept (hA : OKA A) (h : MH A M) {m g : Nat} (hm : m ≤ 60) (hg : g ≤ nC (aS A)) : ∃ M', fn X (d + 4) 290 [rv 59, iv ((g : Int) - 1), iv (m : Int)] M = oI (kptW (aS A) (aW A) m g : Int) M' ∧ sf (PM 27) M M' := by
  obtain ⟨hF, hR, hV, hP, -⟩ := hA
  have h6 := hF.1
  obtain ⟨M1, g1, g2, g3⟩ := m_fork (X := X) (d := d + 2) h.W
  have f : sf (PM 27) M1 (puI M1 91 29 ((g : Int) - 1)) := sf.rf.pu (PM_in (off := 27) (j := 2) (by omega)) _
  have hh := h.sf (g3.tr f) eM_27
  obtain ⟨M2, f1, f2, f3⟩ := m_pass (X := X) (d := d) hF hh (g2.pz (g := g)) (WW_g hV.1 hg) hm (by rw [up_ne (by omega)]; have := hV.2; omega)
  have hf := hh.sf f3 eM_27
  have b : kb X (d + 3) 290 FU 22 [some (rv 59), none, none, some (iv 0), some (iv 0)] [] M2 = oI (kptW (aS A) (aW A) m g : Int) M2 := by
    refine loop_up (P := fun n c => kb X (d + 3) 290 n 22 [some (rv 59), none, none, some (iv ((prS (aS A) (fun c => dayN (aS A) m (up (aW A) 2 g) (21 + c) == 1) c : Nat) : Int)), some (iv (c : Int))] [] M2) (nC (aS A)) ?_ ?_ (nC (aS A)) 0 FU (by omega) (FU_lt (by omega))
    · intro n c hc
      left
      have hl := prS_le hF (fun c => dayN (aS A) m (up (aW A) 2 g) (21 + c) == 1) c (by omega)
      have h99 := (hF.2.2.2.2.1 c hc).2.2.2.1
      have h61 := (hf.1.2.2.2.2.1 c hc).2.1
      have e : wr (48 + (c : Int)) = ((27 + (21 + c) : Nat) : Int) := by
        rw [wri (by omega) (by omega)]
        omega
      rw [q_290_59_at22, hf.1.1, if_pos (by omega), e, gdx (by omega) (by omega), Int.toNat_natCast, f2.b3 hc h6, gdx (by omega) (by omega), Int.toNat_natCast, h61, wr_succ (by omega), wri (x := _ + 0) (by omega) (by omega), wri (by omega) (by omega)]
      simp only [prS]
      by_cases hw : dayN (aS A) m (up (aW A) 2 g) (21 + c) = 1
      · rw [if_pos (by omega), if_pos (by simpa using hw), ← Int.natCast_add]
      · rw [if_neg (by omega), if_neg (by simpa using hw), Int.add_zero]
        rfl
    · intro n
      rw [q_290_59_at22, hf.1.1, if_neg (by omega)]
      rfl
  rw [q_290_59, g1, cV_V, f1, cV_V, b]
  exact ⟨M2, rfl, (g3.tr f).tr f3⟩
/-- the best so far, and what it keeps -/
def bstG (S : SK) (W : WD) (m : Nat) : Nat → Nat × Nat
  | 0 => (0, kptW S W m 0)
  | c + 1 => if W (21 + c) = 1 ∧ (bstG S W m c).2 < kptW S W m (c + 1) then (c + 1, kptW S W m (c + 1)) else bstG S W m c
def tgdV (A : AS) (a : Int) : Int := ((bstG (aS A) (aW A) a.toNat (nC (aS A))).1 : Int) - 1
theorem c_toGuard (hA : OKA A) (h : CH A M) (a : Int) : wOut A (ans (1 ≤ a ∧ a ≤ 60) 0).1 (tgdV A a) M (fn X (d + 9) 337 [rv 0, iv a, rv 111] M) := by
  have hF := hA.1
  have h6 := hF.1
  rw [q_337_0_111, q_170_0, c_ahead]
  unfold ans
  by_cases hc : 1 ≤ a ∧ a ≤ 60
  · obtain ⟨m, hm, rfl⟩ := nat_le (a := a) (n := 60) ⟨by omega, hc.2⟩
    rw [if_pos hc, if_pos hc, cV_V, q_3_56]
    obtain ⟨M1, g1, g2, g3, g4⟩ := c_kept (X := X) (d := d) hA h (g := 0) hm (by omega)
    have g1 : fn X (d + 6) 4 [rv 56, iv (-1), iv (m : Int)] M = oI (kptW (aS A) (aW A) m 0 : Int) M1 := g1
    rw [g1, cI_I]
    have lp : ∃ M', kb X (d + 6) 3 FU 12 [some (rv 56), some (iv (m : Int)), some (iv (-1)), some (iv (kptW (aS A) (aW A) m 0 : Int)), some (iv 0), none] [] M1 = oI (tgdV A (m : Int)) M' ∧ CH A M' ∧ kC M M' ∧ M'.1 = M.1 := by
      refine loop_st (σ := rM) (fun c M2 => CH A M2 ∧ kC M M2 ∧ M2.1 = M.1) (fun n c M2 => kb X (d + 6) 3 n 12 [some (rv 56), some (iv (m : Int)), some (iv (((bstG (aS A) (aW A) m c).1 : Int) - 1)), some (iv ((bstG (aS A) (aW A) m c).2 : Int)), some (iv (c : Int)), none] [] M2) (fun r => ∃ M', r = oI (tgdV A (m : Int)) M' ∧ CH A M' ∧ kC M M' ∧ M'.1 = M.1) (nC (aS A)) ?_ ?_ (nC (aS A)) 0 FU M1 (by omega) (FU_lt (by omega)) ⟨g2, g3, g4⟩
      · rintro n c M2 hc ⟨i1, i2, i3⟩
        left
        rw [q_3_56_at12, q_112_4, cI_I, i1.1.1, if_pos (show (c : Int) < (nC (aS A) : Int) by omega), c_fat hs34 hF i1.W hc, cI_I, wr_succ (by omega)]
        simp only [bstG]
        by_cases hw : aW A (21 + c) = 1
        · obtain ⟨M3, t1, t2, t3, t4⟩ := c_kept (X := X) (d := d) hA i1 (m := m) (g := c + 1) hm (by omega)
          rw [show ((c + 1 : Nat) : Int) - 1 = (c : Int) by omega] at t1
          rw [if_pos (show (aW A (21 + c) : Int) = 1 by omega), t1, cI_I]
          by_cases hb : (bstG (aS A) (aW A) m c).2 < kptW (aS A) (aW A) m (c + 1)
          · rw [if_pos (show ((bstG (aS A) (aW A) m c).2 : Int) < (kptW (aS A) (aW A) m (c + 1) : Int) by omega), if_pos ⟨hw, hb⟩]
            refine ⟨M3, ?_, t2, i2.tr t3, t4.trans i3⟩
            rw [show ((c + 1 : Nat) : Int) - 1 = (c : Int) by omega]
          · rw [if_neg (show ¬ ((bstG (aS A) (aW A) m c).2 : Int) < (kptW (aS A) (aW A) m (c + 1) : Int) by omega), if_neg (fun z => hb z.2)]
            exact ⟨M3, rfl, t2, i2.tr t3, t4.trans i3⟩
        · rw [if_neg (show ¬ (aW A (21 + c) : Int) = 1 by omega), if_neg (fun z => hw z.1)]
          exact ⟨M2, rfl, i1, i2, i3⟩
      · rintro n M2 ⟨i1, i2, i3⟩
        rw [q_3_56_at12, q_112_4, cI_I, i1.1.1, if_neg (by omega)]
        exact ⟨M2, rfl, i1, i2, i3⟩
    obtain ⟨M2, l1, l2, l3, l4⟩ := lp
    rw [l1, cI_I]
    exact w_ok (M1 := M2) rfl l2 l3 l4
  · rw [if_neg hc, if_neg hc, cV_X]
    exact w_x (q := 1) (k := 1) (M1 := thr M) rfl rfl (by omega) h kC.rf rfl
theorem m_toGuard (hA : OKA A) (h : MH A M) (a : Int) : mOut A (ans (1 ≤ a ∧ a ≤ 60) 0).1 (if 1 ≤ a ∧ a ≤ 60 then tgdV A a else 0) M (fn X (d + 5) 291 [rv 59, iv a] M) := by
  have hF := hA.1
  have h6 := hF.1
  obtain ⟨h0, z0, k0⟩ := m_0 h
  rw [q_291_59]
  generalize puI M 59 0 0 = M0 at *
  rw [m_within, cI_I]
  unfold ans
  by_cases hc : 1 ≤ a ∧ a ≤ 60
  · obtain ⟨m, hm, rfl⟩ := nat_le (a := a) (n := 60) ⟨by omega, hc.2⟩
    simp only [if_pos hc]
    obtain ⟨M1, g1, g2⟩ := m_kept (X := X) (d := d) hA h0 (g := 0) hm (by omega)
    have g1 : fn X (d + 4) 290 [rv 59, iv (-1), iv (m : Int)] M0 = oI (kptW (aS A) (aW A) m 0 : Int) M1 := g1
    rw [m_right1 z0, cI_I, if_neg n10, g1, cI_I]
    refine loop_st (σ := rM) (fun c M2 => sf (PM 27) M0 M2) (fun n c M2 => kb X (d + 4) 291 n 34 [some (rv 59), some (iv (m : Int)), some (iv (((bstG (aS A) (aW A) m c).1 : Int) - 1)), some (iv ((bstG (aS A) (aW A) m c).2 : Int)), some (iv (c : Int)), none] [] M2) (fun r => mOut A 0 (tgdV A (m : Int)) M r) (nC (aS A)) ?_ ?_ (nC (aS A)) 0 FU M1 (by omega) (FU_lt (by omega)) g2
    · rintro n c M2 hc i2
      left
      have i1 := h0.sf i2 eM_27
      have e : wr (21 + (c : Int)) = ((0 + (21 + c) : Nat) : Int) := by
        rw [wri (by omega) (by omega)]
        omega
      rw [q_291_59_at34, i1.1.1, if_pos (show (c : Int) < (nC (aS A) : Int) by omega), e, gdx (by omega) (by omega), Int.toNat_natCast, i1.W.b3 hc h6, wr_succ (by omega)]
      simp only [bstG]
      by_cases hw : aW A (21 + c) = 1
      · obtain ⟨M3, t1, t2⟩ := m_kept (X := X) (d := d) hA i1 (m := m) (g := c + 1) hm (by omega)
        rw [show ((c + 1 : Nat) : Int) - 1 = (c : Int) by omega] at t1
        rw [if_pos (show (aW A (21 + c) : Int) = 1 by omega), t1, cI_I]
        by_cases hb : (bstG (aS A) (aW A) m c).2 < kptW (aS A) (aW A) m (c + 1)
        · rw [if_pos (show ((bstG (aS A) (aW A) m c).2 : Int) < (kptW (aS A) (aW A) m (c + 1) : Int) by omega), if_pos ⟨hw, hb⟩]
          refine ⟨M3, ?_, i2.tr t2⟩
          rw [show ((c + 1 : Nat) : Int) - 1 = (c : Int) by omega]
        · rw [if_neg (show ¬ ((bstG (aS A) (aW A) m c).2 : Int) < (kptW (aS A) (aW A) m (c + 1) : Int) by omega), if_neg (fun z => hb z.2)]
          exact ⟨M3, rfl, i2.tr t2⟩
      · rw [if_neg (show ¬ (aW A (21 + c) : Int) = 1 by omega), if_neg (fun z => hw z.1)]
        exact ⟨M2, rfl, i2⟩
    · rintro n M2 i2
      have i1 := h0.sf i2 eM_27
      rw [q_291_59_at34, i1.1.1, if_neg (by omega)]
      refine ⟨M2, rfl, ?_, i1, k0.tr (kM_27 i2)⟩
      rw [(i2.2 59 0 (by simp [PM])).1, z0]
      rfl
  · simp only [if_neg hc]
    rw [m_right0 z0 (by omega), cI_I, if_pos (show (0 : Int) = 0 from rfl)]
    exact ⟨_, rfl, puI_eq _ _ _ _, h0.p0 1, k0.pu (by omega) _ _⟩
end C61
