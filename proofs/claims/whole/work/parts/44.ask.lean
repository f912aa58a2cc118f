/-! ===== count, creature, trick, fooled, lacking ===== -/
/-- what a call of the class comes to, in the law's words: 0 and an answer, or what was thrown -/
def wOut (A' : AS) (k : Nat) (v : Int) (M : rM) (r : Option rO) : Prop := ∃ M', r = oI (k : Int) M' ∧ (k = 0 → M'.2.2 111 0 = i2j v) ∧ CH A' M' ∧ kC M M' ∧ (M'.1 = M.1 ∨ M'.1 = sa_tc M.1)
def mOut (A' : AS) (k : Nat) (v : Int) (M : rM) (r : Option rO) : Prop := ∃ M', r = oI v M' ∧ M'.2.1 59 0 = (k : Int) ∧ MH A' M' ∧ kM M M'
section C44
variable {X : Nat × (Nat → Int32)} {d : Nat} {M M1 M' : rM} {A A' : AS}
theorem w_ok {r : Option rO} {v : Int} {h : Nat → rM → Option rO} (e : r = oI v M1) (h1 : CH A' M1) (h2 : kC M M1) (h3 : M1.1 = M.1) : wOut A' 0 v M (cIh r (fun x M1 => oI 0 (puJ M1 111 0 (i2j x))) h) := by
  subst e
  refine ⟨_, rfl, fun _ => ?_, h1, h2, Or.inl h3⟩
  show va_up M1.2.2 111 (va_up (M1.2.2 111) 0 (i2j v)) 111 0 = i2j v
  simp [va_up]
theorem w_x {r : Option rO} {v : Int} {q k : Nat} {f : Int → rM → Option rO} {h : Nat → rM → Option rO} (e : r = oX q M1) (hh : h q M1 = oI (k : Int) M1) (hk : k ≠ 0) (h1 : CH A' M1) (h2 : kC M M1) (h3 : M1.1 = sa_tc M.1) : wOut A' k v M (cIh r f h) := by
  subst e
  exact ⟨_, hh, fun z => absurd z hk, h1, h2, Or.inr h3⟩
theorem m_0 (h : MH A M) : MH A (puI M 59 0 0) ∧ (puI M 59 0 0).2.1 59 0 = 0 ∧ kM M (puI M 59 0 0) := ⟨h.p0 0, puI_eq _ _ _ _, kM.rf.pu (by omega) _ _⟩
theorem CH.W (h : CH A M) : CW (34 + 1) 0 (nC (aS A)) (aW A) M := h.2.1.1
theorem MH.W (h : MH A M) : MW 91 0 (nC (aS A)) (aW A) M := h.2.1.1
/-! count -/
def cntV (A : AS) (a : Int) : Int := if a = 0 then (nC (aS A) : Int) else if a = 1 then (nT (aS A) : Int) else if a = 2 then (nH (aS A) : Int) else if a = 3 then (nL (aS A) : Int) else if a = 4 then (aW A 0 : Int) else if a = 5 then (aW A 1 : Int) else if a = 6 then (fates (aS A) (aW A) 0 : Int) else if a = 7 then (fates (aS A) (aW A) 1 : Int) else if a = 8 then (fates (aS A) (aW A) 2 : Int) else if a = 9 then (aW A 2 : Int) - 1 else if a = 10 then (helpW (aS A) (aW A) : Int) else if a = 11 then ((aP A).length : Int) else if a = 12 then ((aK A).length : Int) else if a = 13 then ((aT A).length : Int) else aR A (a - 14).toNat
theorem c_count (hA : OKA A) (h : CH A M) (a : Int) : wOut A (if 0 ≤ a ∧ a ≤ 16 then 0 else 1) (cntV A a) M (fn X (d + 4) 324 [rv 0, iv a, rv 111] M) := by
  obtain ⟨hF, -⟩ := hA
  have hS := h.1
  obtain ⟨hW, -, h3, h5, -⟩ := h.2.1
  obtain ⟨-, -, -, t1, -, -, r1, -⟩ := id h
  have hs : (34 : Nat) = 34 ∨ (34 : Nat) = 57 := Or.inl rfl
  rw [q_324_0_111]
  by_cases hr : 0 ≤ a ∧ a ≤ 16
  · rw [if_pos hr]
    refine w_ok (M1 := M) ?_ h kC.rf rfl
    have hx : a = 0 ∨ a = 1 ∨ a = 2 ∨ a = 3 ∨ a = 4 ∨ a = 5 ∨ a = 6 ∨ a = 7 ∨ a = 8 ∨ a = 9 ∨ a = 10 ∨ a = 11 ∨ a = 12 ∨ a = 13 ∨ a = 14 ∨ a = 15 ∨ a = 16 := by omega
    have f0 := c_bits (X := X) (d := d) hs hS hF hW 0
    have f1 := c_bits (X := X) (d := d) hs hS hF hW 1
    have f2 := c_bits (X := X) (d := d) hs hS hF hW 2
    have f3 := c_help (X := X) (d := d) hs hS hF hW
    have g0 := r1 0 (by omega)
    have g1 := r1 1 (by omega)
    have g2 := r1 2 (by omega)
    rw [q_154_0]
    rcases hx with rfl | rfl | rfl | rfl | rfl | rfl | rfl | rfl | rfl | rfl | rfl | rfl | rfl | rfl | rfl | rfl | rfl
    · simp only [Int.reduceEq, reduceIte]
      rw [q_112_4, hS.1]
      rfl
    · simp only [Int.reduceEq, reduceIte]
      rw [q_112_6, hS.2.1]
      rfl
    · simp only [Int.reduceEq, reduceIte]
      rw [q_112_8, hS.2.2.1]
      rfl
    · simp only [Int.reduceEq, reduceIte]
      rw [q_112_10, hS.2.2.2.1]
      rfl
    · simp only [Int.reduceEq, reduceIte]
      rw [c_coins hs hW]
      rfl
    · simp only [Int.reduceEq, reduceIte]
      rw [c_day hs hW]
      rfl
    · simp only [Int.reduceEq, reduceIte]
      erw [f0]
      rfl
    · simp only [Int.reduceEq, reduceIte]
      erw [f1]
      rfl
    · simp only [Int.reduceEq, reduceIte]
      erw [f2]
      rfl
    · simp only [Int.reduceEq, reduceIte]
      rw [c_guard hs hW]
      rfl
    · simp only [Int.reduceEq, reduceIte]
      rw [f3]
      rfl
    · simp only [Int.reduceEq, reduceIte]
      rw [q_142_31, h3]
      rfl
    · simp only [Int.reduceEq, reduceIte]
      rw [q_145_31, h5]
      rfl
    · show oI (M.2.1 0 1) M = _
      rw [t1]
      rfl
    · show oI (M.2.1 2 0) M = _
      rw [g0]
      rfl
    · show oI (M.2.1 2 1) M = _
      rw [g1]
      rfl
    · show oI (M.2.1 2 2) M = _
      rw [g2]
      rfl
  · rw [if_neg hr]
    refine w_x (q := 0) (M1 := thr M) ?_ rfl (by omega) h kC.rf rfl
    rw [q_154_0, if_neg (by omega), if_neg (by omega), if_neg (by omega), if_neg (by omega), if_neg (by omega), if_neg (by omega), if_neg (by omega), if_neg (by omega), if_neg (by omega), if_neg (by omega), if_neg (by omega), if_neg (by omega), if_neg (by omega), if_neg (by omega), if_neg (by omega), if_neg (by omega), if_neg (by omega)]
theorem m_count (hA : OKA A) (h : MH A M) (a : Int) : mOut A (if 0 ≤ a ∧ a ≤ 16 then 0 else 1) (if 0 ≤ a ∧ a ≤ 16 then cntV A a else 0) M (fn X (d + 2) 262 [rv 59, iv a] M) := by
  obtain ⟨hF, -⟩ := hA
  obtain ⟨h0, z0, k0⟩ := m_0 h
  rw [q_262_59, m_within, cI_I]
  generalize puI M 59 0 0 = M1 at *
  by_cases hr : 0 ≤ a ∧ a ≤ 16
  · simp only [if_pos hr]
    rw [m_right1 z0, cI_I, if_neg (by omega)]
    refine ⟨M1, ?_, z0, h0, k0⟩
    have hS := h0.1
    obtain ⟨hW, h3, -, h5, -⟩ := h0.2.1
    obtain ⟨-, -, -, t1, -, -, r1⟩ := id h0
    have hx : a = 0 ∨ a = 1 ∨ a = 2 ∨ a = 3 ∨ a = 4 ∨ a = 5 ∨ a = 6 ∨ a = 7 ∨ a = 8 ∨ a = 9 ∨ a = 10 ∨ a = 11 ∨ a = 12 ∨ a = 13 ∨ a = 14 ∨ a = 15 ∨ a = 16 := by omega
    have e6 : wr ((6 : Int) - 6) = 0 := wri (by omega) (by omega)
    have e7 : wr ((7 : Int) - 6) = 1 := wri (by omega) (by omega)
    have e8 : wr ((8 : Int) - 6) = 2 := wri (by omega) (by omega)
    have e14 : wr ((14 : Int) - 14) = 0 := wri (by omega) (by omega)
    have e15 : wr ((15 : Int) - 14) = 1 := wri (by omega) (by omega)
    have e16 : wr ((16 : Int) - 14) = 2 := wri (by omega) (by omega)
    have f0 := m_those (X := X) (d := d) hS hF (off := 0) (by omega) hW 0
    have f1 := m_those (X := X) (d := d) hS hF (off := 0) (by omega) hW 1
    have f2 := m_those (X := X) (d := d) hS hF (off := 0) (by omega) hW 2
    have f3 := m_help (X := X) (d := d) (W := aW A) hS hF
    have g0 := r1 0 (by omega)
    have g1 := r1 1 (by omega)
    have g2 := r1 2 (by omega)
    rcases hx with rfl | rfl | rfl | rfl | rfl | rfl | rfl | rfl | rfl | rfl | rfl | rfl | rfl | rfl | rfl | rfl | rfl
    · show oI (M1.2.1 59 1) M1 = _
      rw [hS.1]
      rfl
    · show oI (M1.2.1 59 2) M1 = _
      rw [hS.2.1]
      rfl
    · show oI (M1.2.1 59 3) M1 = _
      rw [hS.2.2.1]
      rfl
    · show oI (M1.2.1 59 4) M1 = _
      rw [hS.2.2.2.1]
      rfl
    · show oI (M1.2.1 91 0) M1 = _
      rw [hW.coins]
      rfl
    · show oI (M1.2.1 91 (0 + 1)) M1 = _
      rw [hW.day]
      rfl
    · show cI (fn X (d + 1) 252 [rv 59, iv 0, iv (wr ((6 : Int) - 6))] M1) _ = _
      rw [e6]
      erw [f0]
      rfl
    · show cI (fn X (d + 1) 252 [rv 59, iv 0, iv (wr ((7 : Int) - 6))] M1) _ = _
      rw [e7]
      erw [f1]
      rfl
    · show cI (fn X (d + 1) 252 [rv 59, iv 0, iv (wr ((8 : Int) - 6))] M1) _ = _
      rw [e8]
      erw [f2]
      rfl
    · show oI (M1.2.1 91 (0 + 2)) M1 = _
      rw [hW.guard]
      rfl
    · show cI (fn X (d + 1) 252 [rv 59, iv 0, iv 1] M1) _ = _
      erw [f1]
      rw [cI_I, f3, cI_I]
      rfl
    · show oI (M1.2.1 59 61) M1 = _
      rw [h3]
      rfl
    · show oI (M1.2.1 59 76) M1 = _
      rw [h5]
      rfl
    · show oI (M1.2.1 59 21) M1 = _
      rw [t1]
      rfl
    · show gd (0 ≤ wr ((14 : Int) - 14) ∧ wr ((14 : Int) - 14) < 3) (oI (M1.2.1 74 ((wr ((14 : Int) - 14)).toNat)) M1) = _
      rw [e14, gdx (by omega) (by omega), show (0 : Int).toNat = 0 from rfl, g0]
      rfl
    · show gd (0 ≤ wr ((15 : Int) - 14) ∧ wr ((15 : Int) - 14) < 3) (oI (M1.2.1 74 ((wr ((15 : Int) - 14)).toNat)) M1) = _
      rw [e15, gdx (by omega) (by omega), show (1 : Int).toNat = 1 from rfl, g1]
      rfl
    · show gd (0 ≤ wr ((16 : Int) - 14) ∧ wr ((16 : Int) - 14) < 3) (oI (M1.2.1 74 ((wr ((16 : Int) - 14)).toNat)) M1) = _
      rw [e16, gdx (by omega) (by omega), show (2 : Int).toNat = 2 from rfl, g2]
      rfl
  · simp only [if_neg hr]
    rw [m_right0 z0 (by omega), cI_I, if_pos rfl]
    exact ⟨_, rfl, puI_eq _ _ _ _, h0.p0 1, k0.pu (by omega) _ _⟩
end C44
