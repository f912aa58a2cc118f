section C87b
variable {X : Nat × (Nat → Int32)} {d : Nat} {b : Nat → Nat} {n B : Nat} {sub : Nat → List Int → PZ} {dep : Int}
theorem opA_cs {L q : Nat} {a : Int} (h : opA L q = some a) : (L = 1 ∧ q = 108 ∧ a = -10) ∨ (L = 2 ∧ q = 109 ∧ a = -11) ∨ (L = 4 ∧ q = 60 ∧ a = -13) ∨ (L = 4 ∧ q = 61 ∧ a = -14) ∨ (L = 5 ∧ q = 43 ∧ a = -15) ∨ (L = 5 ∧ q = 45 ∧ a = -16) ∨ (L = 6 ∧ q = 42 ∧ a = -17) ∨ (L = 6 ∧ q = 47 ∧ a = -18) := by
  unfold opA at h
  repeat' split at h
  all_goals first
    | (cases h; done)
    | (cases h; omega)
theorem opA_nn {L q : Nat} (h : opA L q = none) : (L = 1 → q ≠ 108) ∧ (L = 2 → q ≠ 109) ∧ (L = 4 → q ≠ 60 ∧ q ≠ 61) ∧ (L = 5 → q ≠ 43 ∧ q ≠ 45) ∧ (L = 6 → q ≠ 42 ∧ q ≠ 47) := by
  refine ⟨fun z y => ?_, fun z y => ?_, fun z => ⟨fun y => ?_, fun y => ?_⟩, fun z => ⟨fun y => ?_, fun y => ?_⟩, fun z => ⟨fun y => ?_, fun y => ?_⟩⟩ <;> subst z <;> subst y <;> exact absurd h (by decide)
theorem CF_ne {f k : Nat} {M : rM} (h : CF b n f k M) : ¬ M.2.1 29 2 = 0 := by
  rw [h.2.1]
  have := h.2.2.2.1
  omega
theorem c_30 (hT : Tok (tks b n)) (hp : Hp B sub) (hs : Rd b n (fun M => fn X (d + 8) 31 [rv 29, iv dep] M) sub) : Rd b n (fun M => fn X (d + 9) 30 [rv 29, iv dep] M) (pCh (tks b n) 6 sub) := by
  intro k r M hg hr hk
  obtain ⟨M1, b1, b2, b3⟩ := hs k r M hg hr hk
  replace b1 : fn X (d + 8) 31 [rv 29, iv dep] M = oV M1 := b1
  show ∃ M', fn X (d + 8 + 1) 30 [rv 29, iv dep] M = oV M' ∧ _
  rw [q_30_29, b1, cV_V]
  obtain ⟨F, hF⟩ : ∃ F, FU = F + 1 := ⟨FU - 1, by have := FU_lt (k := 10) (by omega); omega⟩
  have hflt : ∀ (m i : Nat) (M : rM) (f k : Nat), CF b n f k M → kb X (d + 8) 30 (m + 1) 7 [some (rv 29), some (iv dep), some (iv (i : Int)), none] [] M = oV M := fun m i M f k h => by
    rw [q_30_29_at7, if_neg (CF_ne h)]
    exact ite_self _
  unfold pCh
  cases hq : sub k r with
  | inl x =>
    obtain ⟨x1, x2⟩ := x
    rw [hq] at b2
    refine ⟨M1, ?_, b2, b3⟩
    rw [hF]
    exact hflt F 0 M1 x1 x2 (b2.1 x1 x2 rfl)
  | inr v =>
    obtain ⟨k2, r2⟩ := v
    rw [hq] at b2
    obtain ⟨⟨nw, z1, z2, z3, z4⟩, z5⟩ := hp _ _ _ _ hq
    have hl : r2.length ≤ k2 := by
      rw [z1, List.length_append]
      omega
    have hlp := ch_loopC (X := X) (d := d) (L := 6) (Pl := fun m i M => kb X (d + 8) 30 m 7 [some (rv 29), some (iv dep), some (iv (i : Int)), none] [] M) (Sb := fun M => fn X (d + 8) 31 [rv 29, iv dep] M) hT hp hs
      (fun m i M k r h hi ho => by
        have := opA_nn ho
        show kb X (d + 8) 30 (m + 1) 7 [some (rv 29), some (iv dep), some (iv (i : Int)), none] [] M = _
        rw [q_30_29_at7, if_pos (by omega), if_pos h.2.2.1, c_kd h.1, cI_I, if_neg (show ¬ (tkK (tks b n) k : Int) = 42 by omega), if_neg (show ¬ (tkK (tks b n) k : Int) = 47 by omega)])
      ?_ hflt (fun m M => by
        show kb X (d + 8) 30 (m + 1) 7 [some (rv 29), some (iv dep), some (iv ((700 : Nat) : Int)), none] [] M = _
        rw [q_30_29_at7, if_neg (by omega)]) 700 0 FU k2 r2 M1 rfl (FU_lt (by omega)) (b2.2 k2 r2 rfl) hl z5
    · obtain ⟨M4, d1, d2, d3⟩ := hlp
      exact ⟨M4, d1, d2, b3.tr d3⟩
    · intro m i M k r a h hi ho
      have := opA_cs ho
      show kb X (d + 8) 30 (m + 1) 7 [some (rv 29), some (iv dep), some (iv (i : Int)), none] [] M = _
      rw [q_30_29_at7, if_pos (by omega), if_pos h.2.2.1, c_kd h.1, cI_I, wr_succ (by omega)]
      by_cases e : (tkK (tks b n) k : Int) = 42
      · obtain rfl : a = -17 := by omega
        simp only [if_pos e]
      · have e2 : (tkK (tks b n) k : Int) = 47 := by omega
        obtain rfl : a = -18 := by omega
        simp only [if_neg e, if_pos e2]
theorem c_29 (hT : Tok (tks b n)) (hp : Hp B sub) (hs : Rd b n (fun M => fn X (d + 8) 30 [rv 29, iv dep] M) sub) : Rd b n (fun M => fn X (d + 9) 29 [rv 29, iv dep] M) (pCh (tks b n) 5 sub) := by
  intro k r M hg hr hk
  obtain ⟨M1, b1, b2, b3⟩ := hs k r M hg hr hk
  replace b1 : fn X (d + 8) 30 [rv 29, iv dep] M = oV M1 := b1
  show ∃ M', fn X (d + 8 + 1) 29 [rv 29, iv dep] M = oV M' ∧ _
  rw [q_29_29, b1, cV_V]
  obtain ⟨F, hF⟩ : ∃ F, FU = F + 1 := ⟨FU - 1, by have := FU_lt (k := 10) (by omega); omega⟩
  have hflt : ∀ (m i : Nat) (M : rM) (f k : Nat), CF b n f k M → kb X (d + 8) 29 (m + 1) 7 [some (rv 29), some (iv dep), some (iv (i : Int)), none] [] M = oV M := fun m i M f k h => by
    rw [q_29_29_at7, if_neg (CF_ne h)]
    exact ite_self _
  unfold pCh
  cases hq : sub k r with
  | inl x =>
    obtain ⟨x1, x2⟩ := x
    rw [hq] at b2
    refine ⟨M1, ?_, b2, b3⟩
    rw [hF]
    exact hflt F 0 M1 x1 x2 (b2.1 x1 x2 rfl)
  | inr v =>
    obtain ⟨k2, r2⟩ := v
    rw [hq] at b2
    obtain ⟨⟨nw, z1, z2, z3, z4⟩, z5⟩ := hp _ _ _ _ hq
    have hl : r2.length ≤ k2 := by
      rw [z1, List.length_append]
      omega
    have hlp := ch_loopC (X := X) (d := d) (L := 5) (Pl := fun m i M => kb X (d + 8) 29 m 7 [some (rv 29), some (iv dep), some (iv (i : Int)), none] [] M) (Sb := fun M => fn X (d + 8) 30 [rv 29, iv dep] M) hT hp hs
      (fun m i M k r h hi ho => by
        have := opA_nn ho
        show kb X (d + 8) 29 (m + 1) 7 [some (rv 29), some (iv dep), some (iv (i : Int)), none] [] M = _
        rw [q_29_29_at7, if_pos (by omega), if_pos h.2.2.1, c_kd h.1, cI_I, if_neg (show ¬ (tkK (tks b n) k : Int) = 43 by omega), if_neg (show ¬ (tkK (tks b n) k : Int) = 45 by omega)])
      ?_ hflt (fun m M => by
        show kb X (d + 8) 29 (m + 1) 7 [some (rv 29), some (iv dep), some (iv ((700 : Nat) : Int)), none] [] M = _
        rw [q_29_29_at7, if_neg (by omega)]) 700 0 FU k2 r2 M1 rfl (FU_lt (by omega)) (b2.2 k2 r2 rfl) hl z5
    · obtain ⟨M4, d1, d2, d3⟩ := hlp
      exact ⟨M4, d1, d2, b3.tr d3⟩
    · intro m i M k r a h hi ho
      have := opA_cs ho
      show kb X (d + 8) 29 (m + 1) 7 [some (rv 29), some (iv dep), some (iv (i : Int)), none] [] M = _
      rw [q_29_29_at7, if_pos (by omega), if_pos h.2.2.1, c_kd h.1, cI_I, wr_succ (by omega)]
      by_cases e : (tkK (tks b n) k : Int) = 43
      · obtain rfl : a = -15 := by omega
        simp only [if_pos e]
      · have e2 : (tkK (tks b n) k : Int) = 45 := by omega
        obtain rfl : a = -16 := by omega
        simp only [if_neg e, if_pos e2]
theorem c_26 (hT : Tok (tks b n)) (hp : Hp B sub) (hs : Rd b n (fun M => fn X (d + 8) 27 [rv 29, iv dep] M) sub) : Rd b n (fun M => fn X (d + 9) 26 [rv 29, iv dep] M) (pCh (tks b n) 2 sub) := by
  intro k r M hg hr hk
  obtain ⟨M1, b1, b2, b3⟩ := hs k r M hg hr hk
  replace b1 : fn X (d + 8) 27 [rv 29, iv dep] M = oV M1 := b1
  show ∃ M', fn X (d + 8 + 1) 26 [rv 29, iv dep] M = oV M' ∧ _
  rw [q_26_29, b1, cV_V]
  obtain ⟨F, hF⟩ : ∃ F, FU = F + 1 := ⟨FU - 1, by have := FU_lt (k := 10) (by omega); omega⟩
  have hflt : ∀ (m i : Nat) (M : rM) (f k : Nat), CF b n f k M → kb X (d + 8) 26 (m + 1) 7 [some (rv 29), some (iv dep), some (iv (i : Int))] [] M = oV M := fun m i M f k h => by
    rw [q_26_29_at7, if_neg (CF_ne h)]
    exact ite_self _
  unfold pCh
  cases hq : sub k r with
  | inl x =>
    obtain ⟨x1, x2⟩ := x
    rw [hq] at b2
    refine ⟨M1, ?_, b2, b3⟩
    rw [hF]
    exact hflt F 0 M1 x1 x2 (b2.1 x1 x2 rfl)
  | inr v =>
    obtain ⟨k2, r2⟩ := v
    rw [hq] at b2
    obtain ⟨⟨nw, z1, z2, z3, z4⟩, z5⟩ := hp _ _ _ _ hq
    have hl : r2.length ≤ k2 := by
      rw [z1, List.length_append]
      omega
    have hlp := ch_loopC (X := X) (d := d) (L := 2) (Pl := fun m i M => kb X (d + 8) 26 m 7 [some (rv 29), some (iv dep), some (iv (i : Int))] [] M) (Sb := fun M => fn X (d + 8) 27 [rv 29, iv dep] M) hT hp hs
      (fun m i M k r h hi ho => by
        have := opA_nn ho
        show kb X (d + 8) 26 (m + 1) 7 [some (rv 29), some (iv dep), some (iv (i : Int))] [] M = _
        rw [q_26_29_at7, if_pos (by omega), if_pos h.2.2.1, c_kd h.1, cI_I, if_neg (show ¬ (tkK (tks b n) k : Int) = 109 by omega)])
      ?_ hflt (fun m M => by
        show kb X (d + 8) 26 (m + 1) 7 [some (rv 29), some (iv dep), some (iv ((700 : Nat) : Int))] [] M = _
        rw [q_26_29_at7, if_neg (by omega)]) 700 0 FU k2 r2 M1 rfl (FU_lt (by omega)) (b2.2 k2 r2 rfl) hl z5
    · obtain ⟨M4, d1, d2, d3⟩ := hlp
      exact ⟨M4, d1, d2, b3.tr d3⟩
    · intro m i M k r a h hi ho
      have := opA_cs ho
      show kb X (d + 8) 26 (m + 1) 7 [some (rv 29), some (iv dep), some (iv (i : Int))] [] M = _
      rw [q_26_29_at7, if_pos (by omega), if_pos h.2.2.1, c_kd h.1, cI_I, wr_succ (by omega)]
      have e : (tkK (tks b n) k : Int) = 109 := by omega
      obtain rfl : a = -11 := by omega
      rw [if_pos e]
theorem c_24 (hT : Tok (tks b n)) (hp : Hp B sub) (hd : dep < 6) (hs : Rd b n (fun M => fn X (d + 8) 26 [rv 29, iv dep] M) sub) : Rd b n (fun M => fn X (d + 9) 24 [rv 29, iv dep] M) (pCh (tks b n) 1 sub) := by
  intro k r M hg hr hk
  obtain ⟨M1, b1, b2, b3⟩ := hs k r M hg hr hk
  replace b1 : fn X (d + 8) 26 [rv 29, iv dep] M = oV M1 := b1
  show ∃ M', fn X (d + 8 + 1) 24 [rv 29, iv dep] M = oV M' ∧ _
  rw [q_24_29, if_pos hd, b1, cV_V]
  obtain ⟨F, hF⟩ : ∃ F, FU = F + 1 := ⟨FU - 1, by have := FU_lt (k := 10) (by omega); omega⟩
  have hflt : ∀ (m i : Nat) (M : rM) (f k : Nat), CF b n f k M → kb X (d + 8) 24 (m + 1) 30 [some (rv 29), some (iv dep), some (iv (i : Int))] [] M = oV M := fun m i M f k h => by
    rw [q_24_29_at30, if_neg (CF_ne h)]
    exact ite_self _
  unfold pCh
  cases hq : sub k r with
  | inl x =>
    obtain ⟨x1, x2⟩ := x
    rw [hq] at b2
    refine ⟨M1, ?_, b2, b3⟩
    rw [hF]
    exact hflt F 0 M1 x1 x2 (b2.1 x1 x2 rfl)
  | inr v =>
    obtain ⟨k2, r2⟩ := v
    rw [hq] at b2
    obtain ⟨⟨nw, z1, z2, z3, z4⟩, z5⟩ := hp _ _ _ _ hq
    have hl : r2.length ≤ k2 := by
      rw [z1, List.length_append]
      omega
    have hlp := ch_loopC (X := X) (d := d) (L := 1) (Pl := fun m i M => kb X (d + 8) 24 m 30 [some (rv 29), some (iv dep), some (iv (i : Int))] [] M) (Sb := fun M => fn X (d + 8) 26 [rv 29, iv dep] M) hT hp hs
      (fun m i M k r h hi ho => by
        have := opA_nn ho
        show kb X (d + 8) 24 (m + 1) 30 [some (rv 29), some (iv dep), some (iv (i : Int))] [] M = _
        rw [q_24_29_at30, if_pos (by omega), if_pos h.2.2.1, c_kd h.1, cI_I, if_neg (show ¬ (tkK (tks b n) k : Int) = 108 by omega)])
      ?_ hflt (fun m M => by
        show kb X (d + 8) 24 (m + 1) 30 [some (rv 29), some (iv dep), some (iv ((700 : Nat) : Int))] [] M = _
        rw [q_24_29_at30, if_neg (by omega)]) 700 0 FU k2 r2 M1 rfl (FU_lt (by omega)) (b2.2 k2 r2 rfl) hl z5
    · obtain ⟨M4, d1, d2, d3⟩ := hlp
      exact ⟨M4, d1, d2, b3.tr d3⟩
    · intro m i M k r a h hi ho
      have := opA_cs ho
      show kb X (d + 8) 24 (m + 1) 30 [some (rv 29), some (iv dep), some (iv (i : Int))] [] M = _
      rw [q_24_29_at30, if_pos (by omega), if_pos h.2.2.1, c_kd h.1, cI_I, wr_succ (by omega)]
      have e : (tkK (tks b n) k : Int) = 108 := by omega
      obtain rfl : a = -10 := by omega
      rw [if_pos e]
end C87b
