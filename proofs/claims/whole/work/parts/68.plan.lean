/-! ===== plan, nearest ===== -/
noncomputable def fwA (A : AS) (c : Nat) : Option (List Nat) := (stF (aS A) c (aW A (9 + c)) (helpW (aS A) (aW A)) (aW A (3 + c)) (aW A (15 + c))).2.1
section C68
variable {X : Nat × (Nat → Int32)} {d n : Nat} {M M1 M2 M' : rM} {A A' : AS} {S : SK} {W V : WD} {cr wa h : Nat} {s : BS} {Q : List QE}
theorem fwA_ok (hA : OKA A) {c : Nat} (hc : c < nC (aS A)) {r : List Nat} (h : fwA A c = some r) : r ≠ [] ∧ r.length ≤ 3904 ∧ ∀ t ∈ r, t < 8 := by
  obtain ⟨hF, hR, hV, -⟩ := hA
  obtain ⟨vb, -, vc, -⟩ := hV.1.2.2 c hc
  have hB := stF_BI (S := aS A) (cr := c) (wa := aW A (9 + c)) (h := helpW (aS A) (aW A)) hF vb vc
  obtain ⟨h1, h2, h3⟩ := hB.2.2.2.1 r h
  exact ⟨h1, Nat.le_trans h2 hB.1.le, h3⟩
theorem c_fnow (hA : OKA A) (h : CH A M) {c : Nat} (hc : c < nC (aS A)) : ∃ M' s', fn X (d + 6) 194 [rv 0, iv (c : Int)] M = oI ((((fwA A c).getD []).length : Nat) : Int) M' ∧ CQ (aS A) c (aW A (9 + c)) (helpW (aS A) (aW A)) s' M' ∧ s'.2.1 = fwA A c ∧ BI s' ∧ sf PQ M M' := by
  obtain ⟨hF, hR, hV, -⟩ := hA
  obtain ⟨vb, -, vc, -⟩ := hV.1.2.2 c hc
  have hh := helpW_le (W := aW A) hF
  obtain ⟨M1, g1, g2, g3⟩ := c_startAt (X := X) (d := d + 3) (h := helpW (aS A) (aW A)) hF h.W hc
  obtain ⟨M2, s', k1, k2, k3, k4, k5⟩ := c_fewest (X := X) (d := d) (h.1.sf g3 PQ_lo) hF hR hc (by omega) vb vc g2
  rw [q_194_0, c_help hs34 h.1 hF h.W, cI_I, g1, cV_V, k1, cI_I]
  exact ⟨M2, s', rfl, k2, k3, k4, g3.tr k5⟩
noncomputable def plnK (A : AS) (a i : Int) : Nat := if (0 ≤ a ∧ a < (nC (aS A) : Int)) ∧ -1 ≤ i then (if aW A (21 + a.toNat) = 0 then (match fwA A a.toNat with
    | none => 0
    | some r => if i < (r.length : Int) then 0 else 1) else 0) else 1
noncomputable def plnV (A : AS) (a i : Int) : Int := if aW A (21 + a.toNat) = 0 then (match fwA A a.toNat with
    | none => -2
    | some r => if i = -1 then (r.length : Int) else (r.getD i.toNat 0 : Int)) else -2
theorem c_plan (hA : OKA A) (h : CH A M) (a i : Int) : wOut A (plnK A a i) (plnV A a i) M (fn X (d + 8) 330 [rv 0, iv a, iv i, rv 111] M) := by
  have hF := hA.1
  rw [q_330_0_111, q_163_0, c_chkC h.1]
  unfold plnK plnV
  by_cases hc : 0 ≤ a ∧ a < (nC (aS A) : Int)
  · obtain ⟨c, hcl, rfl⟩ := nat_of hc
    rw [if_pos hc, cV_V, Int.toNat_natCast]
    by_cases hi : -1 ≤ i
    · rw [if_pos (show (0 ≤ (c : Int) ∧ (c : Int) < (nC (aS A) : Int)) ∧ -1 ≤ i from ⟨hc, hi⟩), if_neg (show ¬ i < -1 by omega), c_isFree h.1 hF h.W hcl, cI_I]
      by_cases hf : aW A (21 + c) = 0
      · obtain ⟨M1, s', g1, g2, g3, g4, g5⟩ := c_fnow (X := X) (d := d) hA h hcl
        have h1 : CH A M1 := h.sf g5 eC_Q
        rw [if_pos hf, if_pos hf, if_neg (show ¬ b01 (decide (aW A (21 + c) = 0)) = 0 by rw [b01_0]; simp [hf]), g1, cI_I]
        cases hr : fwA A c with
        | none =>
          rw [if_pos (show (((none : Option (List Nat)).getD []).length : Int) = 0 from rfl)]
          exact w_ok (M1 := M1) rfl h1 (kC_Q g5) g5.1
        | some r =>
          obtain ⟨r1, r2, r3⟩ := fwA_ok hA hcl hr
          have r0 : r.length ≠ 0 := fun z => r1 (List.length_eq_zero_iff.1 z)
          have e : ((some r).getD []).length = r.length := rfl
          rw [e, if_neg (by omega)]
          dsimp only
          by_cases hl : i < (r.length : Int)
          · rw [if_pos hl, if_pos hl]
            by_cases hm : i = -1
            · rw [if_pos hm, if_pos hm]
              exact w_ok (M1 := M1) rfl h1 (kC_Q g5) g5.1
            · obtain ⟨j, hj, rfl⟩ := nat_of (a := i) (n := r.length) ⟨by omega, hl⟩
              rw [if_neg hm, if_neg hm, c_trickOf g2 g4 (g3.trans hr) hj, cI_I, Int.toNat_natCast]
              exact w_ok (M1 := M1) rfl h1 (kC_Q g5) g5.1
          · rw [if_neg hl, if_neg hl]
            exact w_x (q := 0) (k := 1) (M1 := thr M1) rfl rfl (by omega) h1 (show kC M (thr M1) from (kC_Q g5 : kC M M1)) (by show sa_tc M1.1 = _; rw [g5.1])
      · rw [if_neg hf, if_neg hf, if_pos (show b01 (decide (aW A (21 + c) = 0)) = 0 by rw [b01_0]; simp [hf])]
        exact w_ok (M1 := M) rfl h kC.rf rfl
    · rw [if_neg (show ¬ ((0 ≤ (c : Int) ∧ (c : Int) < (nC (aS A) : Int)) ∧ -1 ≤ i) from fun z => hi z.2), if_pos (show i < -1 by omega)]
      exact w_x (q := 0) (k := 1) (M1 := thr M) rfl rfl (by omega) h kC.rf rfl
  · rw [if_neg hc, if_neg (show ¬ ((0 ≤ a ∧ a < (nC (aS A) : Int)) ∧ -1 ≤ i) from fun z => hc z.1), cV_X]
    exact w_x (q := 0) (k := 1) (M1 := thr M) rfl rfl (by omega) h kC.rf rfl
theorem m_fnow (hA : OKA A) (h : MH A M) {c : Nat} (hc : c < nC (aS A)) : ∃ M', fn X (d + 5) 278 [rv 59, iv (c : Int), iv (helpW (aS A) (aW A) : Int)] M = oI (match fwA A c with
    | none => 99999
    | some r => (r.length : Int)) M' ∧ (∀ r, fwA A c = some r → ∀ i, i < r.length → M'.2.1 100 i = (r.getD i 0 : Int)) ∧ sf PB M M' := by
  obtain ⟨hF, hR, hV, -⟩ := hA
  have hh := helpW_le (W := aW A) hF
  exact m_fewest h.1 hF hR h.W hV.1 hc (by omega)
theorem z_B (f : sf PB M M') : M'.2.1 59 0 = M.2.1 59 0 := (f.2 59 0 (by decide)).1
theorem m_plan (hA : OKA A) (h : MH A M) (a i : Int) : mOut A (plnK A a i) (if plnK A a i = 0 then plnV A a i else 0) M (fn X (d + 6) 279 [rv 59, iv a, iv i] M) := by
  have hF := hA.1
  have h6 := hF.1
  obtain ⟨h0, z0, k0⟩ := m_0 h
  obtain ⟨n, hn⟩ : ∃ n, FU = n + 1 := ⟨FU - 1, by have := FU_ge; omega⟩
  rw [q_279_59]
  generalize puI M 59 0 0 = M0 at *
  rw [m_cre h0.1 z0]
  unfold plnK plnV
  by_cases hc : 0 ≤ a ∧ a < (nC (aS A) : Int)
  · obtain ⟨c, hcl, rfl⟩ := nat_of hc
    rw [if_pos hc, cI_I, if_neg n10, Int.toNat_natCast]
    by_cases hi : -1 ≤ i
    · have i21 : wr (21 + (c : Int)) = ((0 + (21 + c) : Nat) : Int) := by
        rw [wri (by omega) (by omega)]
        omega
      simp only [if_pos (show (0 ≤ (c : Int) ∧ (c : Int) < (nC (aS A) : Int)) ∧ -1 ≤ i from ⟨hc, hi⟩)]
      rw [if_neg (show ¬ i < -1 by omega), hn, q_279_59_at24, m_right1 z0, cI_I, if_neg n10, i21, gdx (by omega) (by omega), Int.toNat_natCast, h0.W.b3 hcl h6]
      by_cases hf : aW A (21 + c) = 0
      · obtain ⟨M1, g1, g2, g3⟩ := m_fnow (X := X) (d := d) hA h0 hcl
        have h1 : MH A M1 := h0.sf g3 eM_B
        have z1 := (z_B g3).trans z0
        have th := m_those (X := X) (d := d + 4) h0.1 hF (off := 0) (by omega) h0.W 1
        have th : fn X (d + 5) 252 [rv 59, iv 0, iv 1] M0 = _ := th
        simp only [if_pos hf]
        rw [if_pos (show (aW A (21 + c) : Int) = 0 by omega), th, cI_I, m_help h0.1 hF, cI_I, g1, cI_I]
        cases hr : fwA A c with
        | none =>
          dsimp only
          rw [if_pos (show (99999 : Int) = 99999 from rfl), if_pos (show (0 : Nat) = 0 from rfl)]
          exact ⟨M1, rfl, z1, h1, k0.tr (kM_B g3)⟩
        | some r =>
          obtain ⟨r1, r2, r3⟩ := fwA_ok hA hcl hr
          dsimp only
          rw [if_neg (show ¬ (r.length : Int) = 99999 by omega)]
          by_cases hm : i = -1
          · simp only [if_pos hm, if_pos (show i < (r.length : Int) by omega)]
            rw [if_pos True.intro]
            exact ⟨M1, rfl, z1, h1, k0.tr (kM_B g3)⟩
          · rw [if_neg hm, if_neg hm]
            by_cases hl : i < (r.length : Int)
            · obtain ⟨j, hj, rfl⟩ := nat_of (a := i) (n := r.length) ⟨by omega, hl⟩
              simp only [if_pos hl]
              rw [if_pos True.intro, m_right1 z1, cI_I, if_neg n10, gdx (by omega) (by omega), Int.toNat_natCast, g2 r hr j hj]
              exact ⟨M1, rfl, z1, h1, k0.tr (kM_B g3)⟩
            · simp only [if_neg hl]
              rw [m_right0 z1 (by omega), cI_I, if_pos (show (0 : Int) = 0 from rfl), if_neg (show ¬ (1 : Nat) = 0 by omega)]
              exact ⟨_, rfl, puI_eq _ _ _ _, h1.p0 1, (k0.tr (kM_B g3)).pu (by omega) _ _⟩
      · simp only [if_neg hf]
        rw [if_neg (show ¬ (aW A (21 + c) : Int) = 0 by omega), if_pos True.intro]
        exact ⟨M0, rfl, z0, h0, k0⟩
    · simp only [if_neg (show ¬ ((0 ≤ (c : Int) ∧ (c : Int) < (nC (aS A) : Int)) ∧ -1 ≤ i) from fun z => hi z.2)]
      rw [if_pos (show i < -1 by omega), hn, q_279_59_at24, m_right0 z0 (by omega), cI_I, if_pos (show (0 : Int) = 0 from rfl), if_neg (show ¬ (1 : Nat) = 0 by omega)]
      exact ⟨_, rfl, puI_eq _ _ _ _, h0.p0 1, k0.pu (by omega) _ _⟩
  · simp only [if_neg (show ¬ ((0 ≤ a ∧ a < (nC (aS A) : Int)) ∧ -1 ≤ i) from fun z => hc z.1)]
    rw [if_neg hc, cI_I, if_pos (show (0 : Int) = 0 from rfl), if_neg (show ¬ (1 : Nat) = 0 by omega)]
    exact ⟨_, rfl, puI_eq _ _ _ _, h0.p0 1, k0.pu (by omega) _ _⟩
/-! nearest -/
noncomputable def frA (A : AS) (c : Nat) : Option (List Nat) := if aW A (21 + c) = 0 then fwA A c else none
noncomputable def nea (A : AS) : Nat → Option (Nat × Nat)
  | 0 => none
  | c + 1 => match frA A c with
    | none => nea A c
    | some r => match nea A c with
      | none => some (c, r.length)
      | some (b, f) => if r.length < f then some (c, r.length) else some (b, f)
noncomputable def neaV (A : AS) : Int := match nea A (nC (aS A)) with
  | none => -1
  | some (b, _) => (b : Int)
def nb (p : Option (Nat × Nat)) : Int := match p with
  | none => -1
  | some (b, _) => (b : Int)
def nf (p : Option (Nat × Nat)) (k : Int) : Int := match p with
  | none => k
  | some (_, f) => (f : Int)
theorem nea_le (hA : OKA A) : ∀ {c b f : Nat}, c ≤ nC (aS A) → nea A c = some (b, f) → f ≤ 3904
  | 0, b, f, _, h => by cases h
  | c + 1, b, f, hc, h => by
    unfold nea at h
    have hr : ∀ r, frA A c = some r → r.length ≤ 3904 := fun r hr => by
      unfold frA at hr
      split at hr
      · exact (fwA_ok hA (by omega) hr).2.1
      · cases hr
    cases hx : frA A c with
    | none =>
      rw [hx] at h
      exact nea_le hA (by omega) h
    | some r =>
      rw [hx] at h
      cases hy : nea A c with
      | none =>
        rw [hy] at h
        dsimp only at h
        injection h with h
        injection h with _ h
        have := hr r hx
        omega
      | some p =>
        obtain ⟨b', f'⟩ := p
        rw [hy] at h
        dsimp only at h
        have := nea_le hA (by omega) hy
        have := hr r hx
        split at h
        · injection h with h
          injection h with _ h
          omega
        · injection h with h
          injection h with _ h
          omega
theorem c_nearest (hA : OKA A) (h : CH A M) : ∃ M', fn X (d + 7) 189 [rv 0] M = oI (neaV A) M' ∧ CH A M' ∧ kC M M' ∧ M'.1 = M.1 := by
  have hF := hA.1
  have h6 := hF.1
  rw [q_189_0]
  refine loop_st (σ := rM) (fun c M2 => sf PQ M M2) (fun m c M2 => kb X (d + 6) 189 (2 * m + (FU - 2 * 10)) 6 [some (rv 0), some (iv (nb (nea A c))), some (iv (nf (nea A c) 0)), some (iv (c : Int)), none] [] M2) (fun z => ∃ M', z = oI (neaV A) M' ∧ CH A M' ∧ kC M M' ∧ M'.1 = M.1) (nC (aS A)) ?_ ?_ (nC (aS A)) 0 10 M (by omega) (by omega) sf.rf |> fun z => by
    rw [show 2 * 10 + (FU - 2 * 10) = FU by have := FU_ge; omega] at z
    exact z
  · rintro m c M2 hc i2
    left
    have h2 : CH A M2 := h.sf i2 eC_Q
    rw [show 2 * (m + 1) + (FU - 2 * 10) = ((2 * m + (FU - 2 * 10)) + 1) + 1 by omega, q_189_0_at6, q_112_4, cI_I, h2.1.1, if_pos (by omega), c_isFree h2.1 hF h2.W hc, cI_I]
    have en : nea A (c + 1) = (match frA A c with
      | none => nea A c
      | some r => match nea A c with
        | none => some (c, r.length)
        | some (b, f) => if r.length < f then some (c, r.length) else some (b, f)) := rfl
    rw [en]
    unfold frA
    by_cases hf : aW A (21 + c) = 0
    · obtain ⟨M1, s', g1, g2, g3, g4, g5⟩ := c_fnow (X := X) (d := d) hA h2 hc
      rw [if_neg (by rw [b01_0]; simp [hf]), if_pos hf, g1, cI_I, q_189_0_at37, wr_succ (by omega)]
      refine ⟨M1, ?_, i2.tr g5⟩
      cases hr : fwA A c with
      | none =>
        rw [if_neg (show ¬ (0 : Int) < (((none : Option (List Nat)).getD []).length : Nat) by simp)]
      | some r =>
        obtain ⟨r1, r2, r3⟩ := fwA_ok hA hc hr
        have r0 : r.length ≠ 0 := fun z => r1 (List.length_eq_zero_iff.1 z)
        have e : ((some r).getD []).length = r.length := rfl
        rw [e, if_pos (by omega)]
        cases hy : nea A c with
        | none =>
          rw [if_pos (show nb none = -1 from rfl)]
          rfl
        | some p =>
          obtain ⟨b, f⟩ := p
          have e1 : nb (some (b, f)) = (b : Int) := rfl
          have e2 : nf (some (b, f)) 0 = (f : Int) := rfl
          rw [e1, e2, if_neg (by omega)]
          dsimp only
          by_cases hl : r.length < f
          · rw [if_pos (by omega), if_pos hl]
            rfl
          · rw [if_neg (by omega), if_neg hl]
            rfl
    · rw [if_pos (by rw [b01_0]; simp [hf]), if_neg hf, q_189_0_at37, if_neg (by omega), wr_succ (by omega)]
      exact ⟨M2, rfl, i2⟩
  · rintro m M2 i2
    have h2 : CH A M2 := h.sf i2 eC_Q
    rw [show 2 * (m + 1) + (FU - 2 * 10) = ((2 * m + (FU - 2 * 10)) + 1) + 1 by omega, q_189_0_at6, q_112_4, cI_I, h2.1.1, if_neg (by omega)]
    exact ⟨M2, rfl, h2, kC_Q i2, i2.1⟩
theorem m_nearest (hA : OKA A) (h : MH A M) : ∃ M', fn X (d + 6) 283 [rv 59] M = oI (neaV A) M' ∧ MH A M' ∧ kM M M' := by
  have hF := hA.1
  have h6 := hF.1
  obtain ⟨h0, z0, k0⟩ := m_0 h
  have th := m_those (X := X) (d := d + 4) h0.1 hF (off := 0) (by omega) h0.W 1
  have th : fn X (d + 5) 252 [rv 59, iv 0, iv 1] (puI M 59 0 0) = _ := th
  rw [q_283_59, th, cI_I, m_help h0.1 hF, cI_I]
  generalize puI M 59 0 0 = M0 at *
  refine loop_st (σ := rM) (fun c M2 => sf PB M0 M2) (fun m c M2 => kb X (d + 5) 283 m 25 [some (rv 59), some (iv (helpW (aS A) (aW A) : Int)), some (iv (nb (nea A c))), some (iv (nf (nea A c) 99999)), some (iv (c : Int)), none] [] M2) (fun z => ∃ M', z = oI (neaV A) M' ∧ MH A M' ∧ kM M M') (nC (aS A)) ?_ ?_ (nC (aS A)) 0 FU M0 (by omega) (FU_lt (by omega)) sf.rf
  · rintro m c M2 hc i2
    left
    have h2 : MH A M2 := h0.sf i2 eM_B
    have i21 : wr (21 + (c : Int)) = ((0 + (21 + c) : Nat) : Int) := by
      rw [wri (by omega) (by omega)]
      omega
    have en : nea A (c + 1) = (match frA A c with
      | none => nea A c
      | some r => match nea A c with
        | none => some (c, r.length)
        | some (b, f) => if r.length < f then some (c, r.length) else some (b, f)) := rfl
    rw [q_283_59_at25, h2.1.1, if_pos (by omega), i21, gdx (by omega) (by omega), Int.toNat_natCast, h2.W.b3 hc h6, en]
    unfold frA
    have lef : ∀ p, nea A c = some p → p.2 ≤ 3904 := fun p hp => nea_le hA (by omega) (show nea A c = some (p.1, p.2) from hp)
    by_cases hf : aW A (21 + c) = 0
    · obtain ⟨M1, g1, g2, g3⟩ := m_fnow (X := X) (d := d) hA h2 hc
      rw [if_pos (show (aW A (21 + c) : Int) = 0 by omega), if_pos hf, g1, cI_I, wr_succ (by omega)]
      refine ⟨M1, ?_, i2.tr g3⟩
      cases hr : fwA A c with
      | none =>
        dsimp only
        cases hy : nea A c with
        | none => rw [if_neg (show ¬ (99999 : Int) < nf none 99999 by simp [nf])]
        | some p =>
          have := lef p hy
          rw [if_neg (show ¬ (99999 : Int) < nf (some p) 99999 by show ¬ (99999 : Int) < (p.2 : Int); omega)]
      | some r =>
        obtain ⟨r1, r2, r3⟩ := fwA_ok hA hc hr
        dsimp only
        cases hy : nea A c with
        | none =>
          rw [if_pos (show (r.length : Int) < nf none 99999 by show (r.length : Int) < 99999; omega)]
          rfl
        | some p =>
          obtain ⟨b, f⟩ := p
          have e1 : nb (some (b, f)) = (b : Int) := rfl
          have e2 : nf (some (b, f)) 99999 = (f : Int) := rfl
          rw [e1, e2]
          dsimp only
          by_cases hl : r.length < f
          · rw [if_pos (by omega), if_pos hl]
            rfl
          · rw [if_neg (by omega), if_neg hl]
            rfl
    · rw [if_neg (show ¬ (aW A (21 + c) : Int) = 0 by omega), if_neg hf, wr_succ (by omega)]
      refine ⟨M2, ?_, i2⟩
      cases hy : nea A c with
      | none => rw [if_neg (show ¬ (99999 : Int) < nf none 99999 by simp [nf])]
      | some p =>
        have := lef p hy
        rw [if_neg (show ¬ (99999 : Int) < nf (some p) 99999 by show ¬ (99999 : Int) < (p.2 : Int); omega)]
  · rintro m M2 i2
    have h2 : MH A M2 := h0.sf i2 eM_B
    rw [q_283_59_at25, h2.1.1, if_neg (by omega)]
    exact ⟨M2, rfl, h2, k0.tr (kM_B i2)⟩
end C68
