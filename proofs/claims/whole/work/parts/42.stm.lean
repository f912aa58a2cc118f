/-! ===== a try and a day of the model; what stays well ===== -/
def PM (off k j : Nat) : Bool := (k == 91 && decide (off ≤ j) && decide (j < off + 27)) || k == 93 || k == 94
section C42
variable {X : Nat × (Nat → Int32)} {d : Nat} {M M' : rM} {S : SK} {W : WD} {off : Nat}
theorem MW.b0 {k n c : Nat} (h : MW k off n W M) (hc : c < n) (h6 : n ≤ 6) : M.2.1 k (off + (3 + c)) = (W (3 + c) : Int) := h.cell (q := 0) hc h6 (by omega)
theorem MW.b1 {k n c : Nat} (h : MW k off n W M) (hc : c < n) (h6 : n ≤ 6) : M.2.1 k (off + (9 + c)) = (W (9 + c) : Int) := h.cell (q := 1) hc h6 (by omega)
theorem MW.b2 {k n c : Nat} (h : MW k off n W M) (hc : c < n) (h6 : n ≤ 6) : M.2.1 k (off + (15 + c)) = (W (15 + c) : Int) := h.cell (q := 2) hc h6 (by omega)
theorem MW.b3 {k n c : Nat} (h : MW k off n W M) (hc : c < n) (h6 : n ≤ 6) : M.2.1 k (off + (21 + c)) = (W (21 + c) : Int) := h.cell (q := 3) hc h6 (by omega)
theorem ixo {c k : Nat} (ho : off ≤ 27) (hc : c < 6) (hk : k ≤ 21) : wr (wr ((off : Int) + (k : Int)) + (c : Int)) = ((off + (k + c) : Nat) : Int) := by
  rw [wri (x := (off : Int) + (k : Int)) (by omega) (by omega), wri (by omega) (by omega)]
  omega
theorem PM_in {j : Nat} (h : j < 27) : PM off 91 (off + j) = true := by
  unfold PM
  simp
  omega
theorem m_may (ho : off ≤ 27) (hS : MS S M) (hF : WF S) (hW : MW 91 off (nC S) W M) {c t : Nat} (hc : c < nC S) (ht : t < nT S) : fn X (d + 1) 259 [rv 59, iv (off : Int), iv (c : Int), iv (t : Int)] M = oI (b01 (decide (W (21 + c) = 0) && decide (tri S t 5 ≤ W 0))) M := by
  have h6 := hF.1
  have h8 := hF.2.1
  have i3 : wr (wr ((off : Int) + 21) + (c : Int)) = ((off + (21 + c) : Nat) : Int) := ixo (k := 21) ho (by omega) (by omega)
  have i0 : wr ((off : Int) + 0) = (off : Int) := by
    rw [wri (by omega) (by omega)]
    omega
  rw [q_259_59, i3, i0, gdx (by omega) (by omega), Int.toNat_natCast, hW.b3 hc h6, gdx (by omega) (by omega), gdx (by omega) (by omega), Int.toNat_natCast, Int.toNat_natCast, hW.coins, (hS.2.2.2.2.2.1 t ht).2.2.2.2.2]
  by_cases a1 : W (21 + c) = 0
  · rw [if_pos (by omega)]
    by_cases a2 : tri S t 5 ≤ W 0
    · rw [if_neg (by omega)]
      simp [a1, a2, b01]
    · rw [if_pos (by omega)]
      simp [a2, b01]
  · rw [if_neg (by omega)]
    simp [a1, b01]
theorem c_may {s : Nat} (hs : s = 34 ∨ s = 57) (hS : CS S M) (hF : WF S) (hW : CW (s + 1) 0 (nC S) W M) {c t : Nat} (hc : c < nC S) (ht : t < nT S) : fn X (d + 2) 107 [rv s, iv (c : Int), iv (t : Int)] M = oI (b01 (decide (W (21 + c) = 0) && decide (tri S t 5 ≤ W 0))) M := by
  have g5 := c_get6 (X := X) (d := d) hS hF ht (j := 5) (by omega)
  rw [q_107_s _ _ _ hs, c_fat hs hF hW hc, cI_I]
  by_cases a1 : W (21 + c) = 0
  · rw [if_pos (by omega), c_coins hs hW, cI_I]
    erw [g5]
    rw [cI_I]
    by_cases a2 : tri S t 5 ≤ W 0
    · rw [if_neg (by omega)]
      simp [a1, a2, b01]
    · rw [if_pos (by omega)]
      simp [a2, b01]
  · rw [if_neg (by omega)]
    simp [a1, b01]
theorem m_try (ho : off ≤ 27) (hS : MS S M) (hF : WF S) (hR : WR S) (hW : MW 91 off (nC S) W M) (hV : WW S W) {c t : Nat} (hc : c < nC S) (ht : t < nT S) (hco : tri S t 5 ≤ W 0) : ∃ M', fn X (d + 4) 258 [rv 59, iv (off : Int), iv (c : Int), iv (t : Int)] M = oI ((tryW S W c t).1 : Int) M' ∧ MW 91 off (nC S) (tryW S W c t).2 M' ∧ sf (PM off) M M' := by
  have h6 := hF.1
  have h8 := hF.2.1
  obtain ⟨v0, -, v3⟩ := hV
  obtain ⟨vb, vw, vc, -⟩ := v3 c hc
  have i0 : wr ((off : Int) + 0) = (off : Int) := by
    rw [wri (by omega) (by omega)]
    omega
  have i1 : wr (wr ((off : Int) + 3) + (c : Int)) = ((off + (3 + c) : Nat) : Int) := ixo (k := 3) ho (by omega) (by omega)
  have i2 : wr (wr ((off : Int) + 9) + (c : Int)) = ((off + (9 + c) : Nat) : Int) := ixo (k := 9) ho (by omega) (by omega)
  have i3 : wr (wr ((off : Int) + 15) + (c : Int)) = ((off + (15 + c) : Nat) : Int) := ixo (k := 15) ho (by omega) (by omega)
  have i4 : wr (wr ((off : Int) + 21) + (c : Int)) = ((off + (21 + c) : Nat) : Int) := ixo (k := 21) ho (by omega) (by omega)
  have e0 : wr ((W 0 : Int) - (tri S t 5 : Int)) = ((W 0 - tri S t 5 : Nat) : Int) := by
    rw [wri (by omega) (by omega)]
    omega
  have th := m_those (X := X) (d := d + 2) hS hF ho hW 1
  rw [q_258_59]
  erw [th]
  rw [cI_I, m_help hS hF, cI_I]
  simp only [i0, i1, i2, i3, i4, Int.toNat_natCast, gdx (i := (off : Int)) (n := 54) (by omega) (by omega), gdx (i := (t : Int)) (n := 8) (by omega) (by omega), gdx (i := ((off + (3 + c) : Nat) : Int)) (n := 54) (by omega) (by omega), gdx (i := ((off + (9 + c) : Nat) : Int)) (n := 54) (by omega) (by omega), gdx (i := ((off + (15 + c) : Nat) : Int)) (n := 54) (by omega) (by omega), gdx (i := ((off + (21 + c) : Nat) : Int)) (n := 54) (by omega) (by omega), hW.coins, (hS.2.2.2.2.2.1 t ht).2.2.2.2.2, e0]
  have hW1 := hW.pu (j := 0) (v := W 0 - tri S t 5) (by omega)
  rw [Nat.add_zero] at hW1
  have hS1 : MS S (puI M 91 off ((W 0 - tri S t 5 : Nat) : Int)) := hS.pu (by omega) _ _
  have f1 : sf (PM off) M (puI M 91 off ((W 0 - tri S t 5 : Nat) : Int)) := sf.rf.pu (PM_in (j := 0) (by omega)) _
  generalize puI M 91 off ((W 0 - tri S t 5 : Nat) : Int) = M1 at *
  rw [hW1.b0 hc h6, up_ne (by omega), m_works hS1 hF ht vb, cI_I]
  unfold tryW
  by_cases hk : wk S t (W (3 + c)) = true
  · rw [if_neg (by rw [b01_0, hk]; simp), if_pos hk, hW1.b0 hc h6, up_ne (by omega), m_bb hS1 hF ht vb, cI_I]
    have hW2 := hW1.pu (j := 3 + c) (v := bb S t (W (3 + c))) (by omega)
    have hS2 : MS S (puI M1 91 (off + (3 + c)) (bb S t (W (3 + c)) : Int)) := hS1.pu (by omega) _ _
    have f2 : sf (PM off) M (puI M1 91 (off + (3 + c)) (bb S t (W (3 + c)) : Int)) := f1.pu (PM_in (by omega)) _
    generalize puI M1 91 (off + (3 + c)) (bb S t (W (3 + c)) : Int) = M2 at *
    have hh := helpW_le (W := W) hF
    rw [hW2.b2 hc h6, up_ne (by omega), up_ne (by omega), m_cb hS2 hF ht vc (by omega), cI_I]
    have hW3 := hW2.pu (j := 15 + c) (v := cb S t (W (15 + c)) (helpW S W)) (by omega)
    have hS3 : MS S (puI M2 91 (off + (15 + c)) (cb S t (W (15 + c)) (helpW S W) : Int)) := hS2.pu (by omega) _ _
    have f3 : sf (PM off) M (puI M2 91 (off + (15 + c)) (cb S t (W (15 + c)) (helpW S W) : Int)) := f2.pu (PM_in (by omega)) _
    generalize puI M2 91 (off + (15 + c)) (cb S t (W (15 + c)) (helpW S W) : Int) = M3 at *
    obtain ⟨M4, k1, k2⟩ := m_bound (X := X) (d := d) hS3 hF hR (wary := W (9 + c)) (cord := cb S t (W (15 + c)) (helpW S W)) (h := helpW S W) hc (bb_le hF ht vb)
    have f4 : sf (PM off) M M4 := f3.tr (k2.mo (fun k j hq => by simp only [PM, P9394, Bool.or_eq_false_iff] at hq ⊢; exact ⟨hq.1.2, hq.2⟩))
    have hW4 : MW 91 off (nC S) _ M4 := hW3.fr (fun j _ _ => (k2.2 91 j (by simp [P9394])).1)
    rw [hW3.b0 hc h6, up_ne (by omega), up_eq, hW3.b1 hc h6, up_ne (by omega), up_ne (by omega), up_ne (by omega), hW3.b2 hc h6, up_eq, k1, cI_I]
    by_cases hb : bd S c (W (9 + c)) (bb S t (W (3 + c))) (cb S t (W (15 + c)) (helpW S W)) (helpW S W) = true
    · rw [if_neg (by rw [b01_0, hb]; simp), if_pos hb]
      exact ⟨_, rfl, hW4.pu (j := 21 + c) (v := 1) (by omega), f4.pu (PM_in (by omega)) _⟩
    · rw [if_pos (by rw [b01_0]; simpa using hb), if_neg hb]
      exact ⟨_, rfl, hW4, f4⟩
  · rw [if_pos (by rw [b01_0]; simpa using hk), if_neg hk]
    have e9 : min (9 : Int) (wr ((W (9 + c) : Int) + 1)) = ((min 9 (W (9 + c) + 1) : Nat) : Int) := by
      rw [wri (by omega) (by omega)]
      omega
    rw [hW1.b1 hc h6, up_ne (by omega), m_lesser, cI_I, e9]
    exact ⟨_, rfl, (hW1.pu (j := 9 + c) (v := min 9 (W (9 + c) + 1)) (by omega)).pu (j := 15 + c) (v := 0) (by omega), (f1.pu (PM_in (by omega)) _).pu (PM_in (by omega)) _⟩
theorem m_steal (ho : off ≤ 27) (hS : MS S M) (hF : WF S) (hW : MW 91 off (nC S) W M) : ∃ M', fn X (d + 1) 260 [rv 59, iv (off : Int)] M = oV M' ∧ MW 91 off (nC S) (stealW S W) M' ∧ sf (PM off) M M' := by
  have h6 := hF.1
  have i2 : wr ((off : Int) + 2) = ((off + 2 : Nat) : Int) := by
    rw [wri (by omega) (by omega)]
    omega
  rw [q_260_59]
  have key := loop_up (P := fun n c => kb X d 260 n 4 [some (rv 59), some (iv (off : Int)), some (iv (pyI (prey S W c))), some (iv (c : Int))] [] M) (R := match prey S W (nC S) with
    | none => oV M
    | some b => oV (puI M 91 (off + (21 + b)) 2)) (nC S) ?_ ?_ (nC S) 0 FU (by omega) (FU_lt (by omega))
  · cases hp : prey S W (nC S) with
    | none =>
      rw [hp] at key
      refine ⟨M, key, ?_, sf.rf⟩
      unfold stealW
      rw [hp]
      exact hW
    | some b =>
      have := prey_lt hp
      rw [hp] at key
      refine ⟨_, key, ?_, sf.rf.pu (PM_in (by omega)) _⟩
      unfold stealW
      rw [hp]
      exact hW.pu (j := 21 + b) (v := 2) (by omega)
  · intro n c hc
    left
    have i3 : wr (wr ((off : Int) + 21) + (c : Int)) = ((off + (21 + c) : Nat) : Int) := ixo (k := 21) ho (by omega) (by omega)
    rw [q_260_59_at4, hS.1, if_pos (by omega), i3, i2, gdx (by omega) (by omega), Int.toNat_natCast, hW.b3 hc h6, wr_succ (by omega), gdx (i := ((off + 2 : Nat) : Int)) (by omega) (by omega), Int.toNat_natCast, hW.guard]
    simp only [prey]
    by_cases a1 : W (21 + c) = 1
    · rw [if_pos (by omega)]
      by_cases a2 : W 2 = c + 1
      · rw [if_pos (by omega), if_neg (fun z => z.2.1 a2)]
      · rw [if_neg (by omega)]
        cases hp : prey S W c with
        | none =>
          rw [if_pos (show pyI none = -1 from rfl), if_pos ⟨a1, a2, rfl⟩]
          rfl
        | some b =>
          have hb := prey_lt hp
          have hpy : pyI (some b) = (b : Int) := rfl
          rw [hpy, if_neg (by omega), gdx (by omega) (by omega), gdx (by omega) (by omega), Int.toNat_natCast, Int.toNat_natCast, (hS.2.2.2.2.1 c hc).2.1, (hS.2.2.2.2.1 b (by omega)).2.1]
          by_cases a3 : cre S b 3 < cre S c 3
          · rw [if_pos (by omega), if_pos ⟨a1, a2, decide_eq_true a3⟩]
            rfl
          · rw [if_neg (by omega), if_neg (fun z => a3 (of_decide_eq_true z.2.2))]
            rfl
    · rw [if_neg (by omega), if_neg (fun z => a1 z.1)]
  · intro n
    rw [q_260_59_at4, hS.1, if_neg (by omega)]
    cases hp : prey S W (nC S) with
    | none => rw [if_pos (show pyI none = -1 from rfl)]
    | some b =>
      have hb := prey_lt hp
      have hpy : pyI (some b) = (b : Int) := rfl
      have i3 : wr (wr ((off : Int) + 21) + (b : Int)) = ((off + (21 + b) : Nat) : Int) := ixo (k := 21) ho (by omega) (by omega)
      rw [hpy, if_neg (by omega), i3, gdx (by omega) (by omega), Int.toNat_natCast]
theorem m_dayGo (ho : off ≤ 27) (hS : MS S M) (hF : WF S) (hV : WW S W) (hW : MW 91 off (nC S) W M) (hd : W 1 < 1000000) : ∃ M', fn X (d + 2) 261 [rv 59, iv (off : Int)] M = oV M' ∧ MW 91 off (nC S) (dayW S W) M' ∧ sf (PM off) M M' := by
  have h6 := hF.1
  have h30 := hF.2.2.2.2.2.2.2.2
  have i1 : wr ((off : Int) + 1) = ((off + 1 : Nat) : Int) := wr_succ (by omega)
  -- the day's number, behind all else
  have fin : ∀ (M1 : rM) (V : WD) (n : Nat), MW 91 off (nC S) V M1 → V 1 = W 1 → sf (PM off) M M1 → ∃ M', kb X (d + 1) 261 (n + 1) 101 [some (rv 59), some (iv (off : Int)), none] [] M1 = oV M' ∧ MW 91 off (nC S) (up V 1 (W 1 + 1)) M' ∧ sf (PM off) M M' := by
    intro M1 V n g1 g2 g3
    have := g1.day
    rw [g2] at this
    rw [q_261_59_at101, i1, gdx (by omega) (by omega), gdx (by omega) (by omega), Int.toNat_natCast, this, wr_succ (by omega)]
    exact ⟨_, rfl, g1.pu (j := 1) (by omega), g3.pu (PM_in (by omega)) _⟩
  rw [q_261_59]
  refine loop_st (σ := rM) (fun c M1 => MW 91 off (nC S) (cordsN W c) M1 ∧ MS S M1 ∧ sf (PM off) M M1) (fun n c M1 => kb X (d + 1) 261 (n + 1) 2 [some (rv 59), some (iv (off : Int)), some (iv (c : Int))] [] M1) (fun r => ∃ M', r = oV M' ∧ MW 91 off (nC S) (dayW S W) M' ∧ sf (PM off) M M') (nC S) ?_ ?_ (nC S) 0 (FU - 1) M (by omega) (by have := FU_ge; omega) ⟨by rw [cords_0]; exact hW, hS, sf.rf⟩ |> fun h => by
    obtain ⟨m, hm⟩ : ∃ m, FU = m + 1 := ⟨FU - 1, by have := FU_ge; omega⟩
    rw [hm] at h ⊢
    exact h
  · rintro n c M1 hc ⟨j1, j2, j3⟩
    left
    have vc := (hV.2.2 c hc).2.2.1
    have a15 : wr (wr ((off : Int) + 15) + (c : Int)) = ((off + (15 + c) : Nat) : Int) := ixo (k := 15) ho (by omega) (by omega)
    have a21 : wr (wr ((off : Int) + 21) + (c : Int)) = ((off + (21 + c) : Nat) : Int) := ixo (k := 21) ho (by omega) (by omega)
    have r1 := j1.b3 hc h6
    have r2 := j1.b2 hc h6
    rw [cords_at (by omega)] at r1 r2
    rw [q_261_59_at2, j2.1, if_pos (by omega), wr_succ (by omega), cords_succ]
    simp only [a15, a21, Int.toNat_natCast, gdx (i := ((off + (15 + c) : Nat) : Int)) (n := 54) (by omega) (by omega), gdx (i := ((off + (21 + c) : Nat) : Int)) (n := 54) (by omega) (by omega), r1, r2]
    have e0 : wr ((W (15 + c) : Int) - 0) = (W (15 + c) : Int) := by
      rw [wri (by omega) (by omega)]
      omega
    by_cases a1 : W (21 + c) = 0
    · rw [if_pos (by omega), if_pos a1]
      by_cases a2 : 0 < W (15 + c)
      · have e : wr ((W (15 + c) : Int) - 1) = ((W (15 + c) - 1 : Nat) : Int) := by
          rw [wri (by omega) (by omega)]
          omega
        rw [if_pos (by omega), e]
        exact ⟨_, rfl, j1.pu (j := 15 + c) (by omega), j2.pu (by omega) _ _, j3.pu (PM_in (by omega)) _⟩
      · rw [if_neg (by omega), e0, show W (15 + c) - 1 = W (15 + c) by omega]
        exact ⟨_, rfl, j1.pu (j := 15 + c) (by omega), j2.pu (by omega) _ _, j3.pu (PM_in (by omega)) _⟩
    · rw [if_neg (by omega), if_neg a1, e0]
      exact ⟨_, rfl, j1.pu (j := 15 + c) (by omega), j2.pu (by omega) _ _, j3.pu (PM_in (by omega)) _⟩
  · rintro n M1 ⟨j1, j2, j3⟩
    have hd2 := j1.day
    rw [cords_lo (by omega)] at hd2
    rw [q_261_59_at2, j2.1, if_neg (by omega), i1, gdx (by omega) (by omega), Int.toNat_natCast, hd2, wr_succ (by omega)]
    unfold dayW
    rcases j2.2.2.2.2.2.2.2.2.1 with ⟨z0, z1 | z1⟩ | ⟨z0, z1⟩
    · rw [if_pos z1, if_neg (fun z => z.1 z0)]
      exact fin M1 _ n j1 (cords_lo (by omega)) j3
    · rw [z1, if_neg (by omega), if_pos rfl, if_neg (fun z => z.1 z0)]
      exact fin M1 _ n j1 (cords_lo (by omega)) j3
    · rw [z1, if_neg (by omega), if_neg (by omega), if_neg (by omega), irm_nat (by omega) (by omega)]
      by_cases h1 : (W 1 + 1) % riv S = 0
      · obtain ⟨M2, k1, k2, k3⟩ := m_steal (X := X) (d := d) ho j2 hF j1
        rw [if_pos (by omega), if_pos ⟨z0, h1⟩, k1, cV_V]
        exact fin M2 _ n k2 (by rw [stealW_lo (by omega)]; exact cords_lo (by omega)) (j3.tr k3)
      · rw [if_neg (by omega), if_neg (fun z => h1 z.2)]
        exact fin M1 _ n j1 (cords_lo (by omega)) j3
/-! what stays well -/
theorem WW_up {j v : Nat} (h : WW S W) (h0 : j = 0 → v ≤ 999) (h2 : j = 2 → v ≤ nC S) (h3 : ∀ c, c < nC S → (j = 3 + c → v ≤ 63) ∧ (j = 9 + c → v ≤ 9) ∧ (j = 15 + c → v ≤ 60) ∧ (j = 21 + c → v ≤ 2)) : WW S (up W j v) := by
  obtain ⟨a, b, e⟩ := h
  refine ⟨?_, ?_, fun c hc => ?_⟩
  · unfold up
    split
    · exact h0 (by omega)
    · exact a
  · unfold up
    split
    · exact h2 (by omega)
    · exact b
  · obtain ⟨e1, e2, e3, e4⟩ := e c hc
    obtain ⟨g1, g2, g3, g4⟩ := h3 c hc
    unfold up
    refine ⟨?_, ?_, ?_, ?_⟩
    · split
      · exact g1 (by omega)
      · exact e1
    · split
      · exact g2 (by omega)
      · exact e2
    · split
      · exact g3 (by omega)
      · exact e3
    · split
      · exact g4 (by omega)
      · exact e4
theorem WW_try (hF : WF S) (h : WW S W) {c t : Nat} (hc : c < nC S) (ht : t < nT S) : WW S (tryW S W c t).2 := by
  have h6 := hF.1
  have hb := bb_le hF ht (h.2.2 c hc).1
  have hk := cb_le (S := S) (t := t) (h := helpW S W) (h.2.2 c hc).2.2.1
  have v0 := h.1
  have w1 : WW S (up W 0 (W 0 - tri S t 5)) := WW_up h (fun _ => by omega) (by omega) (fun c _ => by omega)
  have w2 : WW S (up (up W 0 (W 0 - tri S t 5)) (3 + c) (bb S t (W (3 + c)))) := WW_up w1 (by omega) (by omega) (fun c' _ => by omega)
  have w3 : WW S (up (up (up W 0 (W 0 - tri S t 5)) (3 + c) (bb S t (W (3 + c)))) (15 + c) (cb S t (W (15 + c)) (helpW S W))) := WW_up w2 (by omega) (by omega) (fun c' _ => by omega)
  unfold tryW
  split
  · split
    · exact WW_up w3 (by omega) (by omega) (fun c' _ => by omega)
    · exact w3
  · exact WW_up (WW_up w1 (by omega) (by omega) (fun c' _ => by omega)) (by omega) (by omega) (fun c' _ => by omega)
theorem WW_day (hF : WF S) (h : WW S W) : WW S (dayW S W) := by
  have h6 := hF.1
  have w1 : WW S (cordsN W (nC S)) := by
    obtain ⟨a, b, e⟩ := h
    refine ⟨by rw [cords_lo (by omega)]; exact a, by rw [cords_lo (by omega)]; exact b, fun c hc => ?_⟩
    obtain ⟨e1, e2, e3, e4⟩ := e c hc
    refine ⟨by rw [cords_lo (by omega)]; exact e1, by rw [cords_lo (by omega)]; exact e2, ?_, by rw [cords_at (by omega)]; exact e4⟩
    unfold cordsN
    split <;> omega
  have w2 : WW S (stealW S (cordsN W (nC S))) := by
    unfold stealW
    cases prey S (cordsN W (nC S)) (nC S) with
    | none => exact w1
    | some b => exact WW_up w1 (by omega) (by omega) (fun c' _ => by omega)
  unfold dayW
  split
  · exact WW_up w2 (by omega) (by omega) (fun c' _ => by omega)
  · exact WW_up w1 (by omega) (by omega) (fun c' _ => by omega)
theorem day_1 : dayW S W 1 = W 1 + 1 := up_eq _ _ _
end C42
