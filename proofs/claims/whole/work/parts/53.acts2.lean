/-! ===== guard, tell, undo ===== -/
theorem i2j_01 : i2j 0 = Int64.ofNat 0 ∧ i2j 1 = Int64.ofNat 1 := by
  rw [i2j_df, i2j_df]
  decide
theorem tell_bits : ∀ b, b < 64 → ∀ k, k < 6 → (b.testBit k = false → b ||| 2 ^ k = b ^^^ 2 ^ k ∧ b ||| 2 ^ k ≠ b ∧ b ^^^ (b &&& 2 ^ k) = b) ∧ (b.testBit k = true → b ||| 2 ^ k = b ∧ b ^^^ (b &&& 2 ^ k) = b ^^^ 2 ^ k ∧ b ^^^ (b &&& 2 ^ k) ≠ b) ∧ b ^^^ 2 ^ k < 64 := by decide +kernel
section C53
variable {X : Nat × (Nat → Int32)} {d : Nat} {M M1 M2 M' : rM} {A A' : AS} {W V : WD} {P : List WD}
theorem CW.pg {k n c : Nat} (h : CW k 0 n W M) : CW k 0 n (up W 2 (c + 1)) (puI M k 2 (c : Int)) := by
  intro i hi
  by_cases e : i = 2
  · subst e
    rw [show 0 + cl 2 = 2 from rfl, puI_eq]
    unfold wv
    rw [if_pos rfl, up_eq]
    omega
  · rw [puI_nj (fun z => e (cl_inj hi (Or.inl (by omega) : okI n 2) (by rw [show cl 2 = 2 from rfl]; omega)))]
    have := h i hi
    rw [this]
    unfold wv
    rw [if_neg e, if_neg e, up_ne e]
theorem MW.pg {n c : Nat} (h : MW 91 0 n W M) : MW 91 0 n (up W 2 (c + 1)) (puI M 91 2 (c : Int)) := by
  intro i hi
  by_cases e : i = 2
  · subst e
    rw [show 0 + 2 = 2 from rfl, puI_eq]
    unfold wv
    rw [if_pos rfl, up_eq]
    omega
  · rw [puI_nj (by omega)]
    have := h i hi
    rw [this]
    unfold wv
    rw [if_neg e, if_neg e, up_ne e]
def grd (A : AS) (c : Nat) : Prop := aW A (21 + c) = 1 ∧ aW A 2 ≠ c + 1
noncomputable def grdA (A : AS) (a : Int) : AS := if 0 ≤ a ∧ a < (nC (aS A) : Int) then (if aW A (21 + a.toNat) = 1 ∧ aW A 2 ≠ a.toNat + 1 then aAct A (up (aW A) 2 (a.toNat + 1)) else sRe A 1) else A
def grdV (A : AS) (a : Int) : Int := if aW A (21 + a.toNat) = 1 ∧ aW A 2 ≠ a.toNat + 1 then 1 else 0
theorem OKA.grd (h : OKA A) (a : Int) : OKA (grdA A a) := by
  unfold grdA
  split
  · split
    · exact h.act ⟨WW_up h.2.2.1.1 (by omega) (by omega) (fun c _ => by omega), by rw [up_ne (by omega)]; exact h.2.2.1.2⟩
    · exact h.re 1
  · exact h
theorem w_okz {r : Option rO} {v : Int} {h : Nat → rM → Option rO} (e : r = oI v M1) (hv : v = 0 ∨ v = 1) (h1 : CH A' M1) (h2 : kC M M1) (h3 : M1.1 = M.1) : wOut A' 0 v M (cIh r (fun x2 M1 => if x2 = 0 then oI 0 (puJ M1 111 0 (Int64.ofNat 0)) else oI 0 (puJ M1 111 0 (Int64.ofNat 1))) h) := by
  subst e
  rcases hv with rfl | rfl
  · refine ⟨_, rfl, fun _ => ?_, h1, h2, Or.inl h3⟩
    show va_up M1.2.2 111 (va_up (M1.2.2 111) 0 (Int64.ofNat 0)) 111 0 = i2j 0
    rw [i2j_01.1]
    simp [va_up]
  · refine ⟨_, rfl, fun _ => ?_, h1, h2, Or.inl h3⟩
    show va_up M1.2.2 111 (va_up (M1.2.2 111) 0 (Int64.ofNat 1)) 111 0 = i2j 1
    rw [i2j_01.2]
    simp [va_up]
theorem grd_in {c : Nat} (hc : 0 ≤ (c : Int) ∧ (c : Int) < (nC (aS A) : Int)) : (aW A (21 + c) = 1 ∧ aW A 2 ≠ c + 1 → grdA A (c : Int) = aAct A (up (aW A) 2 (c + 1)) ∧ grdV A (c : Int) = 1) ∧ (¬ (aW A (21 + c) = 1 ∧ aW A 2 ≠ c + 1) → grdA A (c : Int) = sRe A 1 ∧ grdV A (c : Int) = 0) := by
  unfold grdA grdV
  rw [if_pos hc]
  exact ⟨fun z => ⟨if_pos z, if_pos z⟩, fun z => ⟨if_neg z, if_neg z⟩⟩
theorem c_guardX (hA : OKA A) (h : CH A M) (a : Int) : wOut (grdA A a) (ans (0 ≤ a ∧ a < (nC (aS A) : Int)) 0).1 (grdV A a) M (fn X (d + 4) 328 [rv 0, iv a, rv 111] M) := by
  obtain ⟨hF, hR, hV, hP, -⟩ := hA
  have hS := h.1
  rw [q_328_0_111, q_159_0, c_chkC hS]
  unfold ans
  by_cases hc : 0 ≤ a ∧ a < (nC (aS A) : Int)
  · obtain ⟨c, hc1, rfl⟩ := nat_of hc
    obtain ⟨y1, y2⟩ := grd_in hc
    rw [if_pos hc, if_pos hc, cV_V, c_fat hs34 hF h.W hc1, cI_I]
    obtain ⟨Mr, r1, r2, r3, r4⟩ := c_refuse (X := X) (d := d + 1) h
    by_cases h1 : aW A (21 + c) = 1
    · rw [if_pos (show (aW A (21 + c) : Int) = 1 by omega), c_guard hs34 h.W, cI_I]
      by_cases h2 : aW A 2 = c + 1
      · obtain ⟨e1, e2⟩ := y2 (fun z => z.2 h2)
        rw [if_pos (show (aW A 2 : Int) - 1 = (c : Int) by omega), r1, cI_I, e1, e2]
        exact w_okz (M1 := Mr) rfl (Or.inl rfl) r2 r3 r4
      · obtain ⟨e1, e2⟩ := y1 ⟨h1, h2⟩
        obtain ⟨M1, k1, k2, k3, k4, k5⟩ := c_keep (X := X) (d := d + 1) h.2.1 hP.1
        have kc : CW (34 + 1) 0 (nC (aS A)) (aW A) M1 := k2.1
        have f : sf (Pst 34) M1 (puI M1 (34 + 1) 2 (c : Int)) := sf.rf.pu (by simp [Pst]) _
        obtain ⟨g1, g2⟩ := c_after h k2 k3 (kc.pg (c := c)) f
        rw [if_neg (show ¬ (aW A 2 : Int) - 1 = (c : Int) by omega), k1, cV_V, q_97_s _ _ hs34, cV_V, e1, e2]
        exact w_okz (M1 := puI M1 (34 + 1) 2 (c : Int)) rfl (Or.inr rfl) g1 g2 k4
    · obtain ⟨e1, e2⟩ := y2 (fun z => h1 z.1)
      rw [if_neg (show ¬ (aW A (21 + c) : Int) = 1 by omega), r1, cI_I, e1, e2]
      exact w_okz (M1 := Mr) rfl (Or.inl rfl) r2 r3 r4
  · rw [if_neg hc, if_neg hc, cV_X]
    unfold grdA
    rw [if_neg hc]
    exact w_x (q := 0) (k := 1) (M1 := thr M) rfl rfl (by omega) h kC.rf rfl
theorem m_guardX (hA : OKA A) (h : MH A M) (a : Int) : mOut (grdA A a) (ans (0 ≤ a ∧ a < (nC (aS A) : Int)) 0).1 (if 0 ≤ a ∧ a < (nC (aS A) : Int) then grdV A a else 0) M (fn X (d + 4) 271 [rv 59, iv a] M) := by
  obtain ⟨hF, hR, hV, hP, -⟩ := hA
  have h6 := hF.1
  obtain ⟨h0, z0, k0⟩ := m_0 h
  rw [q_271_59]
  generalize puI M 59 0 0 = M1 at *
  have hS := h0.1
  rw [m_cre hS z0]
  unfold ans
  by_cases hc : 0 ≤ a ∧ a < (nC (aS A) : Int)
  · obtain ⟨c, hc1, rfl⟩ := nat_of hc
    obtain ⟨y1, y2⟩ := grd_in hc
    have i21 : wr (21 + (c : Int)) = ((0 + (21 + c) : Nat) : Int) := by
      rw [wri (by omega) (by omega)]
      omega
    have hgd : M1.2.1 91 2 = (aW A 2 : Int) - 1 := h0.W.guard
    obtain ⟨Mr, r1, r2, r3, r4⟩ := m_refuse (X := X) (d := d + 2) h0 (i := 1) (by omega)
    have r1 : fn X (d + 3) 247 [rv 59, iv 1] M1 = oI (-1) Mr := r1
    simp only [if_pos hc]
    rw [cI_I, if_neg n10, i21, gdx (by omega) (by omega), Int.toNat_natCast, h0.W.b3 hc1 h6, hgd, r1, cI_I, if_neg (show ¬ (0 : Int) < -1 by omega)]
    by_cases h1 : aW A (21 + c) = 1
    · rw [if_pos (show (aW A (21 + c) : Int) = 1 by omega)]
      by_cases h2 : aW A 2 = c + 1
      · obtain ⟨e1, e2⟩ := y2 (fun z => z.2 h2)
        rw [if_pos (show (aW A 2 : Int) - 1 = (c : Int) by omega), e1, e2]
        exact ⟨Mr, rfl, r4.trans z0, r2, k0.tr r3⟩
      · obtain ⟨e1, e2⟩ := y1 ⟨h1, h2⟩
        obtain ⟨M2, g1, g2, g3, g4, g5⟩ := m_keep (X := X) (d := d + 2) h0.2.1 hP.1
        have f : sf (PM 0) M2 (puI M2 91 2 (c : Int)) := sf.rf.pu (PM_in (off := 0) (j := 2) (by omega)) _
        obtain ⟨u1, u2, u3⟩ := m_after h0 g2 g3 (g2.1.pg (c := c)) f
        rw [if_neg (show ¬ (aW A 2 : Int) - 1 = (c : Int) by omega), g1, cV_V, e1, e2]
        exact ⟨_, rfl, u3.trans z0, u1, kMp k0 u2 g4 (by rw [show (puI M2 91 2 (c : Int)).2.2 = M2.2.2 from rfl, g5])⟩
    · obtain ⟨e1, e2⟩ := y2 (fun z => h1 z.1)
      rw [if_neg (show ¬ (aW A (21 + c) : Int) = 1 by omega), e1, e2]
      exact ⟨Mr, rfl, r4.trans z0, r2, k0.tr r3⟩
  · unfold grdA
    simp only [if_neg hc]
    rw [cI_I, if_pos rfl]
    exact ⟨_, rfl, puI_eq _ _ _ _, h0.p0 1, k0.pu (by omega) _ _⟩
/-! tell: has is 0 or 1 -/
def tOk (A : AS) (c k : Nat) (x : Int) : Bool := aW A (21 + c) == 0 && ((aW A (3 + c)).testBit k == decide (x = 0))
noncomputable def tllA (A : AS) (a b x : Int) : AS := if (0 ≤ a ∧ a < (nC (aS A) : Int)) ∧ 0 ≤ b ∧ b ≤ 5 then (if tOk A a.toNat b.toNat x = true then aAct A (up (aW A) (3 + a.toNat) (aW A (3 + a.toNat) ^^^ 2 ^ b.toNat)) else sRe A 1) else A
noncomputable def tllV (A : AS) (a b x : Int) : Int := if tOk A a.toNat b.toNat x = true then ((aW A (3 + a.toNat) ^^^ 2 ^ b.toNat : Nat) : Int) else -1
theorem tll_in {c k : Nat} {x : Int} (hc : (0 ≤ (c : Int) ∧ (c : Int) < (nC (aS A) : Int)) ∧ 0 ≤ (k : Int) ∧ (k : Int) ≤ 5) : (tOk A c k x = true → tllA A (c : Int) (k : Int) x = aAct A (up (aW A) (3 + c) (aW A (3 + c) ^^^ 2 ^ k)) ∧ tllV A (c : Int) (k : Int) x = ((aW A (3 + c) ^^^ 2 ^ k : Nat) : Int)) ∧ (¬ tOk A c k x = true → tllA A (c : Int) (k : Int) x = sRe A 1 ∧ tllV A (c : Int) (k : Int) x = -1) := by
  unfold tllA tllV
  rw [if_pos hc]
  exact ⟨fun z => ⟨if_pos z, if_pos z⟩, fun z => ⟨if_neg z, if_neg z⟩⟩
theorem tll_out {a b x : Int} (hc : ¬ ((0 ≤ a ∧ a < (nC (aS A) : Int)) ∧ 0 ≤ b ∧ b ≤ 5)) : tllA A a b x = A := if_neg hc
theorem OKA.tll (h : OKA A) (a b x : Int) : OKA (tllA A a b x) := by
  unfold tllA
  split
  · rename_i hc
    split
    · have h6 := h.1.1
      have hb := (h.2.2.1.1.2.2 a.toNat (by omega)).1
      have := (tell_bits _ (Nat.lt_succ_of_le hb) b.toNat (by omega)).2.2
      exact h.act ⟨WW_up h.2.2.1.1 (by omega) (by omega) (fun c _ => by omega), by rw [up_ne (by omega)]; exact h.2.2.1.2⟩
    · exact h.re 1
  · exact h
theorem c_chkB {a : Int} : fn X (d + 1) 202 [rv 0, iv a] M = if 0 ≤ a ∧ a ≤ 5 then oV M else oX 0 (thr M) := by
  rw [q_202_0]
  by_cases h1 : a < 0
  · rw [if_pos h1, if_neg (by omega)]
  · rw [if_neg h1]
    by_cases h2 : a < 6
    · rw [if_pos h2, if_pos (by omega)]
    · rw [if_neg h2, if_neg (by omega)]
theorem c_tell (hA : OKA A) (h : CH A M) (a b x : Int) (hx : x = 0 ∨ x = 1) : wOut (tllA A a b x) (ans ((0 ≤ a ∧ a < (nC (aS A) : Int)) ∧ 0 ≤ b ∧ b ≤ 5) 0).1 (tllV A a b x) M (fn X (d + 5) 329 [rv 0, iv a, iv b, iv x, rv 111] M) := by
  obtain ⟨hF, hR, hV, hP, -⟩ := hA
  have hS := h.1
  rw [q_329_0_111, q_161_0, c_chkC hS]
  unfold ans
  by_cases hc : 0 ≤ a ∧ a < (nC (aS A) : Int)
  · rw [if_pos hc, cV_V, c_chkB]
    by_cases hr : 0 ≤ b ∧ b ≤ 5
    · obtain ⟨c, hc1, rfl⟩ := nat_of hc
      obtain ⟨k, hk1, rfl⟩ := nat_le (n := 5) hr
      have h6 := hF.1
      have hb := (hV.1.2.2 c hc1).1
      obtain ⟨t1, t2, t3⟩ := tell_bits _ (Nat.lt_succ_of_le hb) k (by omega)
      have h2k : 2 ^ k ≤ 2 ^ 5 := Nat.pow_le_pow_right (by omega) hk1
      obtain ⟨n, hn⟩ : ∃ n, FU = n + 1 := ⟨FU - 1, by have := FU_ge; omega⟩
      have hcr : (0 ≤ (c : Int) ∧ (c : Int) < (nC (aS A) : Int)) ∧ 0 ≤ (k : Int) ∧ (k : Int) ≤ 5 := ⟨hc, hr⟩
      obtain ⟨y1, y2⟩ := tll_in (x := x) hcr
      rw [if_pos hcr]
      rw [if_pos hr, cV_V, c_bel hs34 hF h.W hc1, cI_I, e_bit (by omega), iand_not (by omega) (by omega), ior_nat (by omega) (by omega), hn, q_161_0_at44, q_161_0_at44, c_isFree hS hF h.W hc1, cI_I, cI_I]
      obtain ⟨Mr, r1, r2, r3, r4⟩ := c_refuse (X := X) (d := d + 2) h
      by_cases hf : aW A (21 + c) = 0
      · have nb : ¬ b01 (decide (aW A (21 + c) = 0)) = 0 := by
          rw [b01_0]
          simp [hf]
        rw [if_neg nb, if_neg nb]
        have act : ∀ v : Nat, v = aW A (3 + c) ^^^ 2 ^ k → wOut (aAct A (up (aW A) (3 + c) (aW A (3 + c) ^^^ 2 ^ k))) 0 ((aW A (3 + c) ^^^ 2 ^ k : Nat) : Int) M (cIh (cV (fn X (d + 3) 143 [rv 31] M) (fun M7 => cV (fn X (d + 3) 99 [rv 34, iv (c : Int), iv (v : Int)] M7) (fun M8 => oI (v : Int) M8))) (fun x2 M1 => oI 0 (puJ M1 111 0 (i2j x2))) (fun q4 M3 => if 0 = q4 then oI 1 M3 else none)) := by
          rintro v rfl
          obtain ⟨M1, k1, k2, k3, k4, k5⟩ := c_keep (X := X) (d := d + 2) h.2.1 hP.1
          have kc : CW (34 + 1) 0 (nC (aS A)) (aW A) M1 := k2.1
          have f : sf (Pst 34) M1 (puI M1 (34 + 1) (4 * c + 3) ((aW A (3 + c) ^^^ 2 ^ k : Nat) : Int)) := sf.rf.pu (by simp [Pst]) _
          obtain ⟨g1, g2⟩ := c_after h k2 k3 (kc.p0 hc1 h6 _) f
          rw [k1, cV_V, c_setBel hs34 (by omega), cV_V]
          exact w_ok (M1 := puI M1 (34 + 1) (4 * c + 3) ((aW A (3 + c) ^^^ 2 ^ k : Nat) : Int)) rfl g1 g2 k4
        cases hbit : (aW A (3 + c)).testBit k with
        | false =>
          obtain ⟨s1, s2, s3⟩ := t1 hbit
          rcases hx with rfl | rfl
          · obtain ⟨e1, e2⟩ := y2 (by unfold tOk; simp [hbit])
            rw [if_pos (show (0 : Int) = 0 from rfl), s3, if_pos (show (aW A (3 + c) : Int) = (aW A (3 + c) : Int) from rfl), r1, cI_I, e1, e2]
            exact w_ok (M1 := Mr) rfl r2 r3 r4
          · obtain ⟨e1, e2⟩ := y1 (by unfold tOk; simp [hbit, hf])
            rw [if_neg n10, if_neg (show ¬ ((aW A (3 + c) ||| 2 ^ k : Nat) : Int) = (aW A (3 + c) : Int) by omega), e1, e2]
            exact act _ s1
        | true =>
          obtain ⟨s1, s2, s3⟩ := t2 hbit
          rcases hx with rfl | rfl
          · obtain ⟨e1, e2⟩ := y1 (by unfold tOk; simp [hbit, hf])
            rw [if_pos (show (0 : Int) = 0 from rfl), if_neg (show ¬ ((aW A (3 + c) ^^^ aW A (3 + c) &&& 2 ^ k : Nat) : Int) = (aW A (3 + c) : Int) by omega), e1, e2]
            exact act _ s2
          · obtain ⟨e1, e2⟩ := y2 (by unfold tOk; simp [hbit])
            rw [if_neg n10, s1, if_pos (show (aW A (3 + c) : Int) = (aW A (3 + c) : Int) from rfl), r1, cI_I, e1, e2]
            exact w_ok (M1 := Mr) rfl r2 r3 r4
      · have nb : b01 (decide (aW A (21 + c) = 0)) = 0 := by
          rw [b01_0]
          simp [hf]
        obtain ⟨e1, e2⟩ := y2 (by unfold tOk; simp [hf])
        rw [if_pos nb, if_pos nb, r1, cI_I, ite_self, e1, e2]
        exact w_ok (M1 := Mr) rfl r2 r3 r4
    · have hcr : ¬ ((0 ≤ a ∧ a < (nC (aS A) : Int)) ∧ 0 ≤ b ∧ b ≤ 5) := fun z => hr z.2
      rw [tll_out hcr, if_neg hcr, if_neg hr, cV_X]
      exact w_x (q := 0) (k := 1) (M1 := thr M) rfl rfl (by omega) h kC.rf rfl
  · have hcr : ¬ ((0 ≤ a ∧ a < (nC (aS A) : Int)) ∧ 0 ≤ b ∧ b ≤ 5) := fun z => hc z.1
    rw [tll_out hcr, if_neg hcr, if_neg hc, cV_X]
    exact w_x (q := 0) (k := 1) (M1 := thr M) rfl rfl (by omega) h kC.rf rfl
theorem m_tell (hA : OKA A) (h : MH A M) (a b x : Int) (hx : x = 0 ∨ x = 1) : mOut (tllA A a b x) (ans ((0 ≤ a ∧ a < (nC (aS A) : Int)) ∧ 0 ≤ b ∧ b ≤ 5) 0).1 (if (0 ≤ a ∧ a < (nC (aS A) : Int)) ∧ 0 ≤ b ∧ b ≤ 5 then tllV A a b x else 0) M (fn X (d + 4) 273 [rv 59, iv a, iv b, iv x] M) := by
  obtain ⟨hF, hR, hV, hP, -⟩ := hA
  have h6 := hF.1
  obtain ⟨h0, z0, k0⟩ := m_0 h
  rw [q_273_59]
  generalize puI M 59 0 0 = M1 at *
  have hS := h0.1
  rw [m_cre hS z0]
  unfold ans
  by_cases hc : 0 ≤ a ∧ a < (nC (aS A) : Int)
  · rw [if_pos hc, cI_I, if_neg n10, m_what z0]
    by_cases hr : 0 ≤ b ∧ b ≤ 5
    · obtain ⟨c, hc1, rfl⟩ := nat_of hc
      obtain ⟨k, hk1, rfl⟩ := nat_le (n := 5) hr
      have hb := (hV.1.2.2 c hc1).1
      obtain ⟨-, -, t3⟩ := tell_bits _ (Nat.lt_succ_of_le hb) k (by omega)
      have h2k : 2 ^ k ≤ 2 ^ 5 := Nat.pow_le_pow_right (by omega) hk1
      have i3 : wr (3 + (c : Int)) = ((0 + (3 + c) : Nat) : Int) := by
        rw [wri (by omega) (by omega)]
        omega
      have i21 : wr (21 + (c : Int)) = ((0 + (21 + c) : Nat) : Int) := by
        rw [wri (by omega) (by omega)]
        omega
      obtain ⟨n, hn⟩ : ∃ n, FU = n + 1 := ⟨FU - 1, by have := FU_ge; omega⟩
      obtain ⟨Mr, r1, r2, r3, r4⟩ := m_refuse (X := X) (d := d + 2) h0 (i := 1) (by omega)
      have r1 : fn X (d + 3) 247 [rv 59, iv 1] M1 = oI (-1) Mr := r1
      have hcr : (0 ≤ (c : Int) ∧ (c : Int) < (nC (aS A) : Int)) ∧ 0 ≤ (k : Int) ∧ (k : Int) ≤ 5 := ⟨hc, hr⟩
      obtain ⟨y1, y2⟩ := tll_in (x := x) hcr
      simp only [if_pos hcr]
      rw [if_pos hr, cI_I, if_neg n10, i3, i21, gdx (by omega) (by omega), gdx (by omega) (by omega), Int.toNat_natCast, Int.toNat_natCast, h0.W.b3 hc1 h6, h0.W.b0 hc1 h6, bit_test (by omega) (by omega), r1, cI_I]
      by_cases hf : aW A (21 + c) = 0
      · rw [if_pos (show (aW A (21 + c) : Int) = 0 by omega)]
        have k61 : ∀ t : Int, kb X (d + 3) 273 FU 61 [some (rv 59), some (iv (c : Int)), some (iv (k : Int)), some (iv x), some (iv (aW A (3 + c) : Int))] [iv t] M1 = if t = x then oI (-1) Mr else cV (fn X (d + 3) 246 [rv 59] M1) (fun M3 => oI ((aW A (3 + c) ^^^ 2 ^ k : Nat) : Int) (puI M3 91 (0 + (3 + c)) ((aW A (3 + c) ^^^ 2 ^ k : Nat) : Int))) := by
          intro t
          rw [hn, q_273_59_at61, r1, cI_I, i3]
          simp only [gdx (i := ((0 + (3 + c) : Nat) : Int)) (n := 54) (by omega) (by omega), Int.toNat_natCast, puI_eq]
          rw [e_bit (by omega), ixor_nat (by omega) (by omega)]
        rw [k61, k61]
        have act : mOut (aAct A (up (aW A) (3 + c) (aW A (3 + c) ^^^ 2 ^ k))) 0 ((aW A (3 + c) ^^^ 2 ^ k : Nat) : Int) M (cV (fn X (d + 3) 246 [rv 59] M1) (fun M3 => oI ((aW A (3 + c) ^^^ 2 ^ k : Nat) : Int) (puI M3 91 (0 + (3 + c)) ((aW A (3 + c) ^^^ 2 ^ k : Nat) : Int)))) := by
          obtain ⟨M2, g1, g2, g3, g4, g5⟩ := m_keep (X := X) (d := d + 2) h0.2.1 hP.1
          have f : sf (PM 0) M2 (puI M2 91 (0 + (3 + c)) ((aW A (3 + c) ^^^ 2 ^ k : Nat) : Int)) := sf.rf.pu (PM_in (off := 0) (by omega)) _
          obtain ⟨u1, u2, u3⟩ := m_after h0 g2 g3 (g2.1.pu (j := 3 + c) (by omega)) f
          rw [g1, cV_V]
          exact ⟨_, rfl, u3.trans z0, u1, kMp k0 u2 g4 (by rw [show (puI M2 91 (0 + (3 + c)) ((aW A (3 + c) ^^^ 2 ^ k : Nat) : Int)).2.2 = M2.2.2 from rfl, g5])⟩
        cases hbit : (aW A (3 + c)).testBit k with
        | false =>
          rcases hx with rfl | rfl
          · obtain ⟨e1, e2⟩ := y2 (by unfold tOk; simp [hbit])
            rw [if_neg (show ¬ (if false = true then (1 : Int) else 0) = 1 by simp), if_pos (show (0 : Int) = 0 from rfl), e1, e2]
            exact ⟨Mr, rfl, r4.trans z0, r2, k0.tr r3⟩
          · obtain ⟨e1, e2⟩ := y1 (by unfold tOk; simp [hbit, hf])
            rw [if_neg (show ¬ (if false = true then (1 : Int) else 0) = 1 by simp), if_neg (show ¬ (0 : Int) = 1 by omega), e1, e2]
            exact act
        | true =>
          rcases hx with rfl | rfl
          · obtain ⟨e1, e2⟩ := y1 (by unfold tOk; simp [hbit, hf])
            rw [if_pos (show (if true = true then (1 : Int) else 0) = 1 by simp), if_neg n10, e1, e2]
            exact act
          · obtain ⟨e1, e2⟩ := y2 (by unfold tOk; simp [hbit])
            rw [if_pos (show (if true = true then (1 : Int) else 0) = 1 by simp), if_pos (show (1 : Int) = 1 from rfl), e1, e2]
            exact ⟨Mr, rfl, r4.trans z0, r2, k0.tr r3⟩
      · obtain ⟨e1, e2⟩ := y2 (by unfold tOk; simp [hf])
        rw [if_neg (show ¬ (aW A (21 + c) : Int) = 0 by omega), e1, e2]
        exact ⟨Mr, rfl, r4.trans z0, r2, k0.tr r3⟩
    · have hcr : ¬ ((0 ≤ a ∧ a < (nC (aS A) : Int)) ∧ 0 ≤ b ∧ b ≤ 5) := fun z => hr z.2
      simp only [tll_out hcr, if_neg hcr]
      rw [if_neg hr, cI_I, if_pos rfl]
      exact ⟨_, rfl, puI_eq _ _ _ _, h0.p0 1, k0.pu (by omega) _ _⟩
  · have hcr : ¬ ((0 ≤ a ∧ a < (nC (aS A) : Int)) ∧ 0 ≤ b ∧ b ≤ 5) := fun z => hc z.1
    simp only [tll_out hcr, if_neg hcr]
    rw [if_neg hc, cI_I, if_pos rfl]
    exact ⟨_, rfl, puI_eq _ _ _ _, h0.p0 1, k0.pu (by omega) _ _⟩
end C53
