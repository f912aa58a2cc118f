/-! ===== days, both sides; the model's try ===== -/
def cordsN (W : WD) (n : Nat) : WD := fun j => if 15 ≤ j ∧ j < 15 + n ∧ W (j + 6) = 0 then W j - 1 else W j
theorem up_self (W : WD) (j : Nat) : up W j (W j) = W := by
  funext i
  unfold up
  split
  · rename_i h
    rw [h]
  · rfl
theorem cords_0 (W : WD) : cordsN W 0 = W := by
  funext j
  unfold cordsN
  rw [if_neg (by omega)]
theorem cords_at {W : WD} {n j : Nat} (h : 15 + n ≤ j) : cordsN W n j = W j := by
  unfold cordsN
  rw [if_neg (by omega)]
theorem cords_lo {W : WD} {n j : Nat} (h : j < 15) : cordsN W n j = W j := by
  unfold cordsN
  rw [if_neg (by omega)]
theorem cords_succ (W : WD) (c : Nat) : cordsN W (c + 1) = up (cordsN W c) (15 + c) (if W (21 + c) = 0 then W (15 + c) - 1 else W (15 + c)) := by
  funext j
  unfold up
  by_cases h : j = 15 + c
  · subst h
    rw [if_pos rfl]
    unfold cordsN
    rw [show 15 + c + 6 = 21 + c by omega]
    by_cases h2 : W (21 + c) = 0
    · rw [if_pos ⟨by omega, by omega, h2⟩, if_pos h2]
    · rw [if_neg (fun z => h2 z.2.2), if_neg h2]
  · rw [if_neg h]
    unfold cordsN
    by_cases h2 : 15 ≤ j ∧ j < 15 + c ∧ W (j + 6) = 0
    · rw [if_pos h2, if_pos ⟨h2.1, by omega, h2.2.2⟩]
    · rw [if_neg h2, if_neg (fun z => h2 ⟨z.1, by omega, z.2.2⟩)]
def dearer (S : SK) (p : Option Nat) (c : Nat) : Bool := match p with
  | none => true
  | some b => decide (cre S b 3 < cre S c 3)
def prey (S : SK) (W : WD) : Nat → Option Nat
  | 0 => none
  | c + 1 => if W (21 + c) = 1 ∧ W 2 ≠ c + 1 ∧ dearer S (prey S W c) c = true then some c else prey S W c
theorem prey_lt {S : SK} {W : WD} : ∀ {n b : Nat}, prey S W n = some b → b < n
  | 0, b, h => by cases h
  | n + 1, b, h => by
    unfold prey at h
    split at h
    · cases h
      omega
    · have := prey_lt h
      omega
def pyI (p : Option Nat) : Int := match p with
  | none => -1
  | some b => (b : Int)
theorem prey_congr {S : SK} {W V : WD} (h2 : W 2 = V 2) : ∀ {n : Nat}, (∀ c, c < n → W (21 + c) = V (21 + c)) → prey S W n = prey S V n
  | 0, _ => rfl
  | n + 1, h => by
    unfold prey
    rw [h n (by omega), h2, prey_congr h2 (fun c hc => h c (by omega))]
def stealW (S : SK) (W : WD) : WD := match prey S W (nC S) with
  | none => W
  | some b => up W (21 + b) 2
theorem stealW_lo {S : SK} {W : WD} {j : Nat} (h : j < 21) : stealW S W j = W j := by
  unfold stealW
  cases prey S W (nC S) with
  | none => rfl
  | some b => exact up_ne (by omega)
/-- a day goes by -/
def dayW (S : SK) (W : WD) : WD := up (if riv S ≠ 0 ∧ (W 1 + 1) % riv S = 0 then stealW S (cordsN W (nC S)) else cordsN W (nC S)) 1 (W 1 + 1)
section C41
variable {X : Nat × (Nat → Int32)} {d : Nat} {M M' : rM} {S : SK} {W : WD} {s : Nat}
theorem c_steal (hs : s = 34 ∨ s = 57) (hS : CS S M) (hF : WF S) (hW : CW (s + 1) 0 (nC S) W M) (hd : W 1 < 1000000) : ∃ M', fn X (d + 2) 110 [rv s] M = oV M' ∧ CW (s + 1) 0 (nC S) (if riv S ≠ 0 ∧ (W 1 + 1) % riv S = 0 then stealW S W else W) M' ∧ sf (Pst s) M M' := by
  have h6 := hF.1
  have h30 := hF.2.2.2.2.2.2.2.2
  have hr := hS.2.2.2.2.2.2.2.2.1
  have e1 : wr ((W 1 : Int) + 1) = ((W 1 + 1 : Nat) : Int) := wr_succ (by omega)
  rw [q_110_s _ hs, c_day hs hW, cI_I, e1, q_69_3, hr]
  by_cases h0 : riv S = 0
  · rw [if_neg (by omega), cI_I, if_pos rfl, if_neg (fun z => z.1 h0)]
    exact ⟨M, rfl, hW, sf.rf⟩
  · rw [if_pos (by omega), if_neg (by omega), irm_nat (by omega) (by omega)]
    by_cases h1 : (W 1 + 1) % riv S = 0
    · rw [if_pos (by omega), cI_I, if_neg (by omega), if_pos ⟨h0, h1⟩]
      have key := loop_up (P := fun n c => kb X (d + 1) 110 n 21 [some (rv s), some (iv (pyI (prey S W c))), some (iv (c : Int))] [] M) (R := match prey S W (nC S) with
        | none => oV M
        | some b => oV (puI M (s + 1) (4 * b + 6) 2)) (nC S) ?_ ?_ (nC S) 0 FU (by omega) (FU_lt (by omega))
      · cases hp : prey S W (nC S) with
        | none =>
          rw [hp] at key
          refine ⟨M, key, ?_, sf.rf⟩
          unfold stealW
          rw [hp]
          exact hW
        | some b =>
          rw [hp] at key
          refine ⟨_, key, ?_, sf.rf.pu (by simp [Pst]) _⟩
          unfold stealW
          rw [hp]
          exact hW.p3 (prey_lt hp) h6 2
      · intro n c hc
        left
        have g3 := c_get4 (X := X) (d := d) hS hF hc (j := 3) (by omega)
        rw [q_110_s_at21 _ _ _ hs, q_112_4, cI_I, hS.1, if_pos (by omega), c_fat hs hF hW hc, cI_I, wr_succ (by omega), c_guard hs hW, cI_I]
        simp only [prey]
        by_cases a1 : W (21 + c) = 1
        · rw [if_pos (by omega)]
          by_cases a2 : W 2 = c + 1
          · rw [if_pos (by omega), if_neg (fun z => z.2.1 a2)]
          · rw [if_neg (by omega)]
            cases hp : prey S W c with
            | none =>
              rw [if_pos (show pyI none = -1 from rfl), if_pos ⟨a1, a2, rfl⟩]
              rfl
            | some b =>
              have hb := prey_lt hp
              have gb := c_get4 (X := X) (d := d) hS hF (show b < nC S by omega) (j := 3) (by omega)
              rw [if_neg (show ¬ pyI (some b) = -1 by show ¬ (b : Int) = -1; omega)]
              erw [g3]
              rw [cI_I]
              erw [gb]
              rw [cI_I]
              by_cases a3 : cre S b 3 < cre S c 3
              · rw [if_pos (by omega), if_pos ⟨a1, a2, decide_eq_true a3⟩]
                rfl
              · rw [if_neg (by omega), if_neg (fun z => a3 (of_decide_eq_true z.2.2))]
        · rw [if_neg (by omega), if_neg (fun z => a1 z.1)]
      · intro n
        rw [q_110_s_at21 _ _ _ hs, q_112_4, cI_I, hS.1, if_neg (by omega)]
        cases hp : prey S W (nC S) with
        | none => rw [if_pos (show pyI none = -1 from rfl)]
        | some b =>
          have hb := prey_lt hp
          rw [if_neg (show ¬ pyI (some b) = -1 by show ¬ (b : Int) = -1; omega)]
          show cV (fn X (d + 1) 104 [rv s, iv (b : Int), iv 2] M) _ = _
          rw [c_setFat hs (by omega), cV_V]
    · rw [if_neg (by omega), cI_I, if_pos rfl, if_neg (fun z => h1 z.2)]
      exact ⟨M, rfl, hW, sf.rf⟩
theorem c_dayGo (hs : s = 34 ∨ s = 57) (hS : CS S M) (hF : WF S) (hV : WW S W) (hW : CW (s + 1) 0 (nC S) W M) (hd : W 1 < 1000000) : ∃ M', fn X (d + 3) 109 [rv s] M = oV M' ∧ CW (s + 1) 0 (nC S) (dayW S W) M' ∧ sf (Pst s) M M' := by
  have h6 := hF.1
  have hP : ∀ j, Pst s (s + 1) j = true := fun j => by simp [Pst]
  rw [q_109_s _ hs]
  refine loop_st (σ := rM) (fun c M1 => CW (s + 1) 0 (nC S) (cordsN W c) M1 ∧ CS S M1 ∧ sf (Pst s) M M1) (fun n c M1 => kb X (d + 2) 109 n 2 [some (rv s), some (iv (c : Int))] [] M1) (fun r => ∃ M', r = oV M' ∧ CW (s + 1) 0 (nC S) (dayW S W) M' ∧ sf (Pst s) M M') (nC S) ?_ ?_ (nC S) 0 FU M (by omega) (FU_lt (by omega)) ⟨by rw [cords_0]; exact hW, hS, sf.rf⟩
  · rintro n c M1 hc ⟨i1, i2, i3⟩
    left
    have vc := (hV.2.2 c hc).2.2.1
    have r1 := c_fat (X := X) (d := d + 1) hs hF i1 hc
    have r2 := c_crd (X := X) (d := d + 1) hs hF i1 hc
    rw [cords_at (by omega)] at r1 r2
    rw [q_109_s_at2 _ _ hs, q_112_4, cI_I, i2.1, if_pos (by omega), r1, cI_I, wr_succ (by omega)]
    simp only [r2, cI_I]
    rw [cords_succ]
    by_cases a1 : W (21 + c) = 0
    · rw [if_pos (by omega), if_pos a1]
      by_cases a2 : 0 < W (15 + c)
      · have e : wr ((W (15 + c) : Int) - 1) = ((W (15 + c) - 1 : Nat) : Int) := by
          rw [wri (by omega) (by omega)]
          omega
        rw [if_pos (by omega), c_setCrd hs (by omega), cV_V, e]
        exact ⟨_, rfl, i1.p2 hc h6 _, i2.pu (by omega) _ _, i3.pu (hP _) _⟩
      · rw [if_neg (by omega)]
        refine ⟨M1, rfl, ?_, i2, i3⟩
        have : W (15 + c) - 1 = cordsN W c (15 + c) := by
          rw [cords_at (by omega)]
          omega
        rw [this, up_self]
        exact i1
    · rw [if_neg (by omega), if_neg a1]
      refine ⟨M1, rfl, ?_, i2, i3⟩
      have : W (15 + c) = cordsN W c (15 + c) := by rw [cords_at (by omega)]
      rw [this, up_self]
      exact i1
  · rintro n M1 ⟨i1, i2, i3⟩
    obtain ⟨M2, k1, k2, k3⟩ := c_steal (X := X) (d := d) hs i2 hF i1 (by rw [cords_lo (by omega)]; exact hd)
    rw [cords_lo (by omega)] at k2
    rw [q_109_s_at2 _ _ hs, q_112_4, cI_I, i2.1, if_neg (by omega), k1, cV_V]
    have hd2 := k2.day
    rw [Nat.zero_add] at hd2
    have hd3 : (if riv S ≠ 0 ∧ (W 1 + 1) % riv S = 0 then stealW S (cordsN W (nC S)) else cordsN W (nC S)) 1 = W 1 := by
      split
      · rw [stealW_lo (by omega)]
        exact cords_lo (by omega)
      · exact cords_lo (by omega)
    rw [hd3] at hd2
    rw [hd2, wr_succ (by omega)]
    exact ⟨_, rfl, k2.pu (j := 1) (v := W 1 + 1) (Or.inl (by omega)) (by omega), (i3.tr k3).pu (hP _) _⟩
end C41
