/-! ===== cord, when ===== -/
theorem prey_1 {S : SK} {W : WD} : ∀ {n b : Nat}, prey S W n = some b → W (21 + b) = 1
  | 0, b, h => by cases h
  | n + 1, b, h => by
    unfold prey at h
    split at h
    · rename_i z
      cases h
      exact z.1
    · exact prey_1 h
theorem day_crd {S : SK} {W : WD} {c : Nat} (hc : c < nC S) (h6 : nC S ≤ 6) : dayW S W (15 + c) = if W (21 + c) = 0 then W (15 + c) - 1 else W (15 + c) := by
  have e : cordsN W (nC S) (15 + c) = if W (21 + c) = 0 then W (15 + c) - 1 else W (15 + c) := by
    unfold cordsN
    rw [show 15 + c + 6 = 21 + c by omega]
    by_cases h : W (21 + c) = 0
    · rw [if_pos ⟨by omega, by omega, h⟩, if_pos h]
    · rw [if_neg (fun z => h z.2.2), if_neg h]
  unfold dayW
  rw [up_ne (by omega)]
  split
  · rw [stealW_lo (by omega)]
    exact e
  · exact e
theorem day_fre {S : SK} {W : WD} {c : Nat} (hc : c < nC S) (h6 : nC S ≤ 6) : dayW S W (21 + c) = 0 ↔ W (21 + c) = 0 := by
  have e : cordsN W (nC S) (21 + c) = W (21 + c) := cords_at (by omega)
  unfold dayW
  rw [up_ne (by omega)]
  split
  · unfold stealW
    cases hp : prey S (cordsN W (nC S)) (nC S) with
    | none =>
      show cordsN W (nC S) (21 + c) = 0 ↔ _
      rw [e]
    | some b =>
      show up (cordsN W (nC S)) (21 + b) 2 (21 + c) = 0 ↔ _
      by_cases hb : c = b
      · subst hb
        have := prey_1 hp
        rw [e] at this
        rw [up_eq]
        omega
      · rw [up_ne (by omega), e]
  · rw [e]
theorem dayN_fre {S : SK} {W : WD} {c : Nat} (hc : c < nC S) (h6 : nC S ≤ 6) : ∀ m, dayN S m W (21 + c) = 0 ↔ W (21 + c) = 0
  | 0 => Iff.rfl
  | m + 1 => (day_fre hc h6).trans (dayN_fre hc h6 m)
theorem dayN_crd {S : SK} {W : WD} {c : Nat} (hc : c < nC S) (h6 : nC S ≤ 6) : ∀ m, dayN S m W (15 + c) = if W (21 + c) = 0 then W (15 + c) - m else W (15 + c)
  | 0 => by
    show W (15 + c) = _
    split <;> omega
  | m + 1 => by
    show dayW S (dayN S m W) (15 + c) = _
    have h1 := dayN_fre (W := W) hc h6 m
    rw [day_crd hc h6, dayN_crd hc h6 m]
    by_cases h : W (21 + c) = 0
    · rw [if_pos (h1.2 h), if_pos h, if_pos h]
      omega
    · rw [if_neg (fun z => h (h1.1 z)), if_neg h, if_neg h]
section C59
variable {X : Nat × (Nat → Int32)} {d n : Nat} {M M1 M2 M' : rM} {A A' : AS} {W V : WD}
def crdK (A : AS) (a b : Int) : Nat := if 0 ≤ a ∧ a < (nC (aS A) : Int) then (if 0 ≤ b ∧ b ≤ 60 then 0 else 2) else 1
def crdV (A : AS) (a b : Int) : Int := (dayN (aS A) b.toNat (aW A) (15 + a.toNat) : Int)
theorem c_cord (hA : OKA A) (h : CH A M) (a b : Int) : wOut A (crdK A a b) (crdV A a b) M (fn X (d + 5) 335 [rv 0, iv a, iv b, rv 111] M) := by
  obtain ⟨hF, hR, hV, hP, -⟩ := hA
  have hS := h.1
  have h6 := hF.1
  rw [q_335_0_111, q_168_0, c_chkC hS]
  unfold crdK
  by_cases hc : 0 ≤ a ∧ a < (nC (aS A) : Int)
  · rw [if_pos hc, if_pos hc, cV_V, c_ahead]
    by_cases hr : 0 ≤ b ∧ b ≤ 60
    · obtain ⟨c, hc1, rfl⟩ := nat_of hc
      obtain ⟨m, hm, rfl⟩ := nat_le (n := 60) hr
      have h60 := (hV.1.2.2 c hc1).2.2.1
      have hcr : crdV A (c : Int) (m : Int) = ((if aW A (21 + c) = 0 then aW A (15 + c) - m else aW A (15 + c) : Nat) : Int) := by
        unfold crdV
        rw [Int.toNat_natCast, Int.toNat_natCast, dayN_crd hc1 h6]
      rw [if_pos hr, if_pos hr, cV_V, c_crd hs34 hF h.W hc1, cI_I, c_isFree hS hF h.W hc1, cI_I, hcr]
      by_cases hf : aW A (21 + c) = 0
      · have nb : ¬ b01 (decide (aW A (21 + c) = 0)) = 0 := by
          rw [b01_0]
          simp [hf]
        have e : max 0 (wr ((aW A (15 + c) : Int) - (m : Int))) = ((aW A (15 + c) - m : Nat) : Int) := by
          rw [wri (by omega) (by omega)]
          omega
        rw [if_neg nb, if_pos hf, e]
        exact w_ok (M1 := M) rfl h kC.rf rfl
      · have nb : b01 (decide (aW A (21 + c) = 0)) = 0 := by
          rw [b01_0]
          simp [hf]
        rw [if_pos nb, if_neg hf]
        exact w_ok (M1 := M) rfl h kC.rf rfl
    · rw [if_neg hr, if_neg hr, cV_X]
      exact w_x (q := 1) (k := 2) (M1 := thr M) rfl rfl (by omega) h kC.rf rfl
  · rw [if_neg hc, if_neg hc, cV_X]
    exact w_x (q := 0) (k := 1) (M1 := thr M) rfl rfl (by omega) h kC.rf rfl
theorem m_cord (hA : OKA A) (h : MH A M) (a b : Int) : mOut A (crdK A a b) (if crdK A a b = 0 then crdV A a b else 0) M (fn X (d + 4) 288 [rv 59, iv a, iv b] M) := by
  obtain ⟨hF, hR, hV, hP, -⟩ := hA
  have h6 := hF.1
  obtain ⟨h0, z0, k0⟩ := m_0 h
  rw [q_288_59]
  generalize puI M 59 0 0 = M0 at *
  rw [m_cre h0.1 z0]
  unfold crdK
  by_cases hc : 0 ≤ a ∧ a < (nC (aS A) : Int)
  · simp only [if_pos hc]
    rw [cI_I, if_neg n10, m_within, cI_I]
    by_cases hr : 0 ≤ b ∧ b ≤ 60
    · obtain ⟨c, hc1, rfl⟩ := nat_of hc
      obtain ⟨m, hm, rfl⟩ := nat_le (n := 60) hr
      simp only [if_pos hr, if_pos (show (0 : Nat) = 0 from rfl)]
      obtain ⟨M1, g1, g2, g3⟩ := m_fork (X := X) (d := d + 2) h0.W
      have hg := h0.sf g3 eM_27
      obtain ⟨M2, f1, f2, f3⟩ := m_pass (X := X) (d := d) hF hg g2 hV.1 hm (by have := hV.2; omega)
      have hf := hg.sf f3 eM_27
      have i42 : wr (42 + (c : Int)) = ((27 + (15 + c) : Nat) : Int) := by
        rw [wri (by omega) (by omega)]
        omega
      rw [m_right1 z0, cI_I, if_neg n10, g1, cV_V, f1, cV_V, i42, gdx (by omega) (by omega), Int.toNat_natCast, f2.b2 hc1 h6]
      refine ⟨M2, rfl, ?_, hf, k0.tr ((kM_27 g3).tr (kM_27 f3))⟩
      rw [(f3.2 59 0 (by simp [PM])).1, (g3.2 59 0 (by simp [PM])).1, z0]
      rfl
    · simp only [if_neg hr, if_neg (show ¬ (2 : Nat) = 0 by omega)]
      rw [m_right0 z0 (by omega), cI_I, if_pos (show (0 : Int) = 0 from rfl)]
      exact ⟨_, rfl, puI_eq _ _ _ _, h0.p0 2, k0.pu (by omega) _ _⟩
  · simp only [if_neg hc, if_neg (show ¬ (1 : Nat) = 0 by omega)]
    rw [cI_I, if_pos (show (0 : Int) = 0 from rfl)]
    exact ⟨_, rfl, puI_eq _ _ _ _, h0.p0 1, k0.pu (by omega) _ _⟩
/-! when -/
def whnV (A : AS) (c : Nat) : Int := fstP (fun m => dayN (aS A) m (aW A) (21 + c) == 2) 61 0
theorem c_when (hA : OKA A) (h : CH A M) (a : Int) : wOut A (ans (0 ≤ a ∧ a < (nC (aS A) : Int)) 0).1 (whnV A a.toNat) M (fn X (d + 7) 336 [rv 0, iv a, rv 111] M) := by
  obtain ⟨hF, hR, hV, hP, -⟩ := hA
  have hS := h.1
  have h6 := hF.1
  have hd := hV.2
  rw [q_336_0_111, q_169_0, c_chkC hS]
  unfold ans
  by_cases hc : 0 ≤ a ∧ a < (nC (aS A) : Int)
  · obtain ⟨c, hc1, rfl⟩ := nat_of hc
    rw [if_pos hc, if_pos hc, cV_V, Int.toNat_natCast, q_2_56]
    obtain ⟨M1, g1, g2, g3, g4, g5⟩ := c_fork (X := X) (d := d + 3) h
    rw [g1, cV_V]
    have lp : ∃ M', kb X (d + 4) 2 FU 13 [some (rv 56), some (iv (c : Int)), some (iv 0)] [] M1 = oI (whnV A c) M' ∧ CH A M' ∧ kC M M' ∧ M'.1 = M.1 := by
      refine loop_st (σ := rM) (fun p M2 => fstP (fun m => dayN (aS A) m (aW A) (21 + c) == 2) (61 - p) p = whnV A c ∧ CW (57 + 1) 0 (nC (aS A)) (dayN (aS A) p (aW A)) M2 ∧ CH A M2 ∧ kC M M2 ∧ M2.1 = M.1) (fun n p M2 => kb X (d + 4) 2 n 13 [some (rv 56), some (iv (c : Int)), some (iv (p : Int))] [] M2) (fun r => ∃ M', r = oI (whnV A c) M' ∧ CH A M' ∧ kC M M' ∧ M'.1 = M.1) 61 ?_ ?_ 61 0 FU M1 (by omega) (FU_lt (by omega)) ⟨rfl, g2, g3, g4, g5⟩
      · rintro n p M2 hp ⟨i0, i1, i2, i3, i4⟩
        have e : 61 - p = (61 - (p + 1)) + 1 := by omega
        rw [e] at i0
        unfold fstP at i0
        rw [q_2_56_at13, if_neg (by omega), c_fat hs57 hF i1 hc1, cI_I]
        by_cases hw : dayN (aS A) p (aW A) (21 + c) = 2
        · right
          rw [if_pos (by simpa using hw)] at i0
          rw [if_pos (by omega), i0]
          exact ⟨M2, rfl, i2, i3, i4⟩
        · left
          rw [if_neg (by simpa using hw)] at i0
          obtain ⟨M3, t1, t2, t3⟩ := c_dayGo (X := X) (d := d + 1) hs57 i2.1 hF (WW_dayN hF hV.1 p) i1 (by rw [dayN_1]; omega)
          rw [if_neg (by omega), t1, cV_V, wr_succ (by omega)]
          exact ⟨M3, rfl, i0, t2, i2.sf t3 eC_57, i3.tr (kC_57 t3), t3.1.trans i4⟩
      · rintro n M2 ⟨i0, i1, i2, i3, i4⟩
        rw [q_2_56_at13, if_pos (by omega), ← i0]
        exact ⟨M2, rfl, i2, i3, i4⟩
    obtain ⟨M2, l1, l2, l3, l4⟩ := lp
    rw [l1, cI_I]
    exact w_ok (M1 := M2) rfl l2 l3 l4
  · rw [if_neg hc, if_neg hc, cV_X]
    exact w_x (q := 0) (k := 1) (M1 := thr M) rfl rfl (by omega) h kC.rf rfl
theorem m_when (hA : OKA A) (h : MH A M) (a : Int) : mOut A (ans (0 ≤ a ∧ a < (nC (aS A) : Int)) 0).1 (if 0 ≤ a ∧ a < (nC (aS A) : Int) then whnV A a.toNat else 0) M (fn X (d + 4) 289 [rv 59, iv a] M) := by
  obtain ⟨hF, hR, hV, hP, -⟩ := hA
  have h6 := hF.1
  have hd := hV.2
  obtain ⟨h0, z0, k0⟩ := m_0 h
  rw [q_289_59]
  generalize puI M 59 0 0 = M0 at *
  rw [m_cre h0.1 z0]
  unfold ans
  by_cases hc : 0 ≤ a ∧ a < (nC (aS A) : Int)
  · obtain ⟨c, hc1, rfl⟩ := nat_of hc
    simp only [if_pos hc]
    obtain ⟨M1, g1, g2, g3⟩ := m_fork (X := X) (d := d + 2) h0.W
    rw [cI_I, if_neg n10, g1, cV_V, Int.toNat_natCast]
    have i48 : wr (48 + (c : Int)) = ((27 + (21 + c) : Nat) : Int) := by
      rw [wri (by omega) (by omega)]
      omega
    have fin : ∀ M2, sf (PM 27) M0 M2 → ∀ v, mOut A 0 v M (oI v M2) := fun M2 f v => ⟨M2, rfl, by rw [(f.2 59 0 (by simp [PM])).1, z0]; rfl, h0.sf f eM_27, k0.tr (kM_27 f)⟩
    refine loop_st (σ := rM) (fun p M2 => fstP (fun m => dayN (aS A) m (aW A) (21 + c) == 2) (61 - p) p = whnV A c ∧ MW 91 27 (nC (aS A)) (dayN (aS A) p (aW A)) M2 ∧ sf (PM 27) M0 M2) (fun n p M2 => kb X (d + 3) 289 n 21 [some (rv 59), some (iv (c : Int)), some (iv (p : Int))] [] M2) (fun r => mOut A 0 (whnV A c) M r) 61 ?_ ?_ 61 0 FU M1 (by omega) (FU_lt (by omega)) ⟨rfl, g2, g3⟩
    · rintro n p M2 hp ⟨i0, i1, i2⟩
      have e : 61 - p = (61 - (p + 1)) + 1 := by omega
      rw [e] at i0
      unfold fstP at i0
      rw [q_289_59_at21, if_neg (by omega), i48, gdx (by omega) (by omega), Int.toNat_natCast, i1.b3 hc1 h6]
      by_cases hw : dayN (aS A) p (aW A) (21 + c) = 2
      · right
        rw [if_pos (by simpa using hw)] at i0
        rw [if_pos (by omega), ← i0]
        exact fin M2 i2 _
      · left
        rw [if_neg (by simpa using hw)] at i0
        obtain ⟨M3, t1, t2, t3⟩ := m_dayGo (X := X) (d := d + 1) (off := 27) (by omega) (h0.sf i2 eM_27).1 hF (WW_dayN hF hV.1 p) i1 (by rw [dayN_1]; omega)
        have t1 : fn X (d + 3) 261 [rv 59, iv 27] M2 = oV M3 := t1
        rw [if_neg (by omega), t1, cV_V, wr_succ (by omega)]
        exact ⟨M3, rfl, i0, t2, i2.tr t3⟩
    · rintro n M2 ⟨i0, i1, i2⟩
      rw [q_289_59_at21, if_pos (by omega), ← i0]
      exact fin M2 i2 _
  · simp only [if_neg hc]
    rw [cI_I, if_pos (show (0 : Int) = 0 from rfl)]
    exact ⟨_, rfl, puI_eq _ _ _ _, h0.p0 1, k0.pu (by omega) _ _⟩
end C59
