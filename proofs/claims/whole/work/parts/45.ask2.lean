/-! ===== creature, trick, fooled, lacking ===== -/
def keysS (S : SK) (b : Nat) : Nat := setN (fun t => wk S t b) (nT S)
theorem nat_of {a : Int} {n : Nat} (h : 0 ≤ a ∧ a < (n : Int)) : ∃ c : Nat, c < n ∧ a = (c : Int) := ⟨a.toNat, by omega, by omega⟩
theorem nat_le {a : Int} {n : Nat} (h : 0 ≤ a ∧ a ≤ (n : Int)) : ∃ c : Nat, c ≤ n ∧ a = (c : Int) := ⟨a.toNat, by omega, by omega⟩
theorem bb1_0 : ∀ b : Bool, (b01 b = 0) = (b = false) := by
  intro b
  cases b <;> simp [b01]
theorem n10 : ¬ (1 : Int) = 0 := by omega
section C45
variable {X : Nat × (Nat → Int32)} {d : Nat} {M M1 M' : rM} {A A' : AS} {S : SK} {W : WD}
theorem hs34 : (34 : Nat) = 34 ∨ (34 : Nat) = 57 := Or.inl rfl
theorem c_keys (hS : CS S M) (hF : WF S) {b : Nat} (hb : b ≤ 63) : fn X (d + 3) 71 [rv 3, iv (b : Int)] M = oI (keysS S b : Int) M := by
  have h8 := hF.2.1
  rw [q_71_3]
  refine loop_up (P := fun n t => kb X (d + 2) 71 n 4 [some (rv 3), some (iv (b : Int)), some (iv ((setN (fun t => wk S t b) t : Nat) : Int)), some (iv (t : Int))] [] M) (nT S) ?_ ?_ (nT S) 0 FU (by omega) (FU_lt (by omega))
  · intro n t ht
    left
    have hx : setN (fun t => wk S t b) t < 2 ^ 31 := Nat.lt_trans (setN_lt _ t) (Nat.pow_lt_pow_right (by omega) (by omega))
    rw [q_71_3_at4, q_112_6, cI_I, hS.2.1, if_pos (by omega), c_works hS hF ht hb, cI_I, wr_succ (by omega), set_or hx (by omega)]
    simp only [setN]
    by_cases h : wk S t b = true
    · rw [if_neg (by rw [b01_0, h]; simp), if_pos h]
    · rw [if_pos (by rw [b01_0]; simpa using h), if_neg h]
  · intro n
    rw [q_71_3_at4, q_112_6, cI_I, hS.2.1, if_neg (by omega)]
    rfl
theorem m_keys (hS : MS S M) (hF : WF S) (hW : MW 91 0 (nC S) W M) (hV : WW S W) {c : Nat} (hc : c < nC S) : fn X (d + 2) 266 [rv 59, iv (c : Int)] M = oI ((if W (21 + c) = 0 then keysS S (W (3 + c)) else 0 : Nat) : Int) M := by
  have h6 := hF.1
  have h8 := hF.2.1
  have hb := (hV.2.2 c hc).1
  have i3 : wr (3 + (c : Int)) = ((0 + (3 + c) : Nat) : Int) := by
    rw [wri (by omega) (by omega)]
    omega
  have i21 : wr (21 + (c : Int)) = ((0 + (21 + c) : Nat) : Int) := by
    rw [wri (by omega) (by omega)]
    omega
  rw [q_266_59]
  by_cases h0 : W (21 + c) = 0
  · rw [if_pos h0]
    refine loop_up (P := fun n t => kb X (d + 1) 266 n 4 [some (rv 59), some (iv (c : Int)), some (iv ((setN (fun t => wk S t (W (3 + c))) t : Nat) : Int)), some (iv (t : Int))] [] M) (nT S) ?_ ?_ (nT S) 0 FU (by omega) (FU_lt (by omega))
    · intro n t ht
      left
      have hx : setN (fun t => wk S t (W (3 + c))) t < 2 ^ 31 := Nat.lt_trans (setN_lt _ t) (Nat.pow_lt_pow_right (by omega) (by omega))
      rw [q_266_59_at4, hS.2.1, if_pos (by omega), i21, i3, gdx (by omega) (by omega), Int.toNat_natCast, hW.b3 hc h6, if_pos (by omega), gdx (by omega) (by omega), Int.toNat_natCast, hW.b0 hc h6, m_works hS hF ht hb, cI_I, wr_succ (by omega), set_or hx (by omega), ior_0 hx]
      simp only [setN]
      by_cases h : wk S t (W (3 + c)) = true
      · rw [if_neg (by rw [b01_0, h]; simp), if_pos h]
      · rw [if_pos (by rw [b01_0]; simpa using h), if_neg h]
    · intro n
      rw [q_266_59_at4, hS.2.1, if_neg (by omega)]
      rfl
  · rw [if_neg h0]
    obtain ⟨n, hn⟩ : ∃ n, FU = n + 1 := ⟨FU - 1, by have := FU_ge; omega⟩
    rw [hn, q_266_59_at4, i21, gdx (by omega) (by omega), Int.toNat_natCast, hW.b3 hc h6, if_neg (show ¬ (W (21 + c) : Int) = 0 by omega), ite_self]
    rfl
def creV (A : AS) (c : Nat) (a : Int) : Int := if a = 0 then (cre (aS A) c 0 : Int) else if a = 1 then (aW A (3 + c) : Int) else if a = 2 then (aW A (9 + c) : Int) else if a = 3 then (cre (aS A) c 3 : Int) else if a = 4 then (cre (aS A) c 4 : Int) else if a = 5 then (aW A (15 + c) : Int) else if a = 6 then (aW A (21 + c) : Int) else ((if aW A (21 + c) = 0 then keysS (aS A) (aW A (3 + c)) else 0 : Nat) : Int)
/-- an answer where the calls are right, a throw elsewhere -/
def ans (p : Prop) [Decidable p] (v : Int) : Nat × Int := if p then (0, v) else (1, 0)
theorem c_isFree (hS : CS S M) (hF : WF S) (hW : CW (34 + 1) 0 (nC S) W M) {c : Nat} (hc : c < nC S) : fn X (d + 2) 192 [rv 0, iv (c : Int)] M = oI (b01 (decide (W (21 + c) = 0))) M := by
  rw [q_192_0, c_fat hs34 hF hW hc, cI_I]
  by_cases h : W (21 + c) = 0
  · rw [if_pos (by omega)]
    simp [h, b01]
  · rw [if_neg (by omega)]
    simp [h, b01]
theorem c_creature (hA : OKA A) (h : CH A M) (a b : Int) : wOut A (ans ((0 ≤ a ∧ a < (nC (aS A) : Int)) ∧ 0 ≤ b ∧ b ≤ 7) (creV A a.toNat b)).1 (creV A a.toNat b) M (fn X (d + 5) 325 [rv 0, iv a, iv b, rv 111] M) := by
  obtain ⟨hF, -, hV, -⟩ := hA
  have hS := h.1
  have hW := h.W
  rw [q_325_0_111, q_155_0, c_chkC hS]
  unfold ans
  by_cases hc : 0 ≤ a ∧ a < (nC (aS A) : Int)
  · obtain ⟨c, hcl, rfl⟩ := nat_of hc
    have hb := (hV.1.2.2 c hcl).1
    rw [if_pos hc, cV_V, Int.toNat_natCast]
    by_cases hr : 0 ≤ b ∧ b ≤ 7
    · rw [if_pos ⟨hc, hr⟩]
      refine w_ok (M1 := M) ?_ h kC.rf rfl
      have g0 := c_get4 (X := X) (d := d + 2) hS hF hcl (j := 0) (by omega)
      have g3 := c_get4 (X := X) (d := d + 2) hS hF hcl (j := 3) (by omega)
      have g4 := c_get4 (X := X) (d := d + 2) hS hF hcl (j := 4) (by omega)
      have hx : b = 0 ∨ b = 1 ∨ b = 2 ∨ b = 3 ∨ b = 4 ∨ b = 5 ∨ b = 6 ∨ b = 7 := by omega
      rcases hx with rfl | rfl | rfl | rfl | rfl | rfl | rfl | rfl
      · simp only [Int.reduceEq, reduceIte]
        erw [g0]
        rfl
      · simp only [Int.reduceEq, reduceIte]
        rw [c_bel hs34 hF hW hcl]
        rfl
      · simp only [Int.reduceEq, reduceIte]
        rw [c_war hs34 hF hW hcl]
        rfl
      · simp only [Int.reduceEq, reduceIte]
        erw [g3]
        rfl
      · simp only [Int.reduceEq, reduceIte]
        erw [g4]
        rfl
      · simp only [Int.reduceEq, reduceIte]
        rw [c_crd hs34 hF hW hcl]
        rfl
      · simp only [Int.reduceEq, reduceIte]
        rw [c_fat hs34 hF hW hcl]
        rfl
      · simp only [Int.reduceEq, reduceIte]
        rw [c_isFree hS hF hW hcl, cI_I]
        unfold creV
        simp only [Int.reduceEq, reduceIte]
        by_cases hf : aW A (21 + c) = 0
        · rw [if_neg (by rw [b01_0]; simp [hf]), if_pos hf, c_bel hs34 hF hW hcl, cI_I, c_keys hS hF hb, cI_I]
        · rw [if_pos (by rw [b01_0]; simp [hf]), if_neg hf]
          rfl
    · rw [if_neg (fun z => hr z.2), if_neg (by omega), if_neg (by omega), if_neg (by omega), if_neg (by omega), if_neg (by omega), if_neg (by omega), if_neg (by omega), if_neg (by omega)]
      exact w_x (q := 0) (k := 1) (M1 := thr M) rfl rfl (by omega) h kC.rf rfl
  · rw [if_neg hc, if_neg (fun z => hc z.1), cV_X]
    exact w_x (q := 0) (k := 1) (M1 := thr M) rfl rfl (by omega) h kC.rf rfl
theorem m_creature (hA : OKA A) (h : MH A M) (a b : Int) : mOut A (ans ((0 ≤ a ∧ a < (nC (aS A) : Int)) ∧ 0 ≤ b ∧ b ≤ 7) (creV A a.toNat b)).1 (ans ((0 ≤ a ∧ a < (nC (aS A) : Int)) ∧ 0 ≤ b ∧ b ≤ 7) (creV A a.toNat b)).2 M (fn X (d + 3) 267 [rv 59, iv a, iv b] M) := by
  obtain ⟨hF, -, hV, -⟩ := hA
  have h6 := hF.1
  obtain ⟨h0, z0, k0⟩ := m_0 h
  rw [q_267_59]
  generalize puI M 59 0 0 = M1 at *
  have hS := h0.1
  have hW := h0.W
  rw [m_cre hS z0]
  unfold ans
  by_cases hc : 0 ≤ a ∧ a < (nC (aS A) : Int)
  · obtain ⟨c, hcl, rfl⟩ := nat_of hc
    rw [if_pos hc, cI_I, if_neg n10, m_what z0, Int.toNat_natCast]
    by_cases hr : 0 ≤ b ∧ b ≤ 7
    · rw [if_pos hr, cI_I, if_neg n10, if_pos ⟨hc, hr⟩]
      refine ⟨M1, ?_, z0, h0, k0⟩
      have i3 : wr (3 + (c : Int)) = ((0 + (3 + c) : Nat) : Int) := by
        rw [wri (by omega) (by omega)]
        omega
      have i9 : wr (9 + (c : Int)) = ((0 + (9 + c) : Nat) : Int) := by
        rw [wri (by omega) (by omega)]
        omega
      have i15 : wr (15 + (c : Int)) = ((0 + (15 + c) : Nat) : Int) := by
        rw [wri (by omega) (by omega)]
        omega
      have i21 : wr (21 + (c : Int)) = ((0 + (21 + c) : Nat) : Int) := by
        rw [wri (by omega) (by omega)]
        omega
      obtain ⟨e0, e3, e4⟩ := hS.2.2.2.2.1 c hcl
      have hx : b = 0 ∨ b = 1 ∨ b = 2 ∨ b = 3 ∨ b = 4 ∨ b = 5 ∨ b = 6 ∨ b = 7 := by omega
      rcases hx with rfl | rfl | rfl | rfl | rfl | rfl | rfl | rfl
      · simp only [Int.reduceEq, reduceIte]
        rw [gdx (by omega) (by omega), e0]
        rfl
      · simp only [Int.reduceEq, reduceIte]
        rw [i3, gdx (by omega) (by omega), Int.toNat_natCast, hW.b0 hcl h6]
        rfl
      · simp only [Int.reduceEq, reduceIte]
        rw [i9, gdx (by omega) (by omega), Int.toNat_natCast, hW.b1 hcl h6]
        rfl
      · simp only [Int.reduceEq, reduceIte]
        rw [gdx (by omega) (by omega), e3]
        rfl
      · simp only [Int.reduceEq, reduceIte]
        rw [gdx (by omega) (by omega), e4]
        rfl
      · simp only [Int.reduceEq, reduceIte]
        rw [i15, gdx (by omega) (by omega), Int.toNat_natCast, hW.b2 hcl h6]
        rfl
      · simp only [Int.reduceEq, reduceIte]
        rw [i21, gdx (by omega) (by omega), Int.toNat_natCast, hW.b3 hcl h6]
        rfl
      · simp only [Int.reduceEq, reduceIte]
        rw [m_keys hS hF hW hV.1 hcl, cI_I]
        rfl
    · rw [if_neg hr, cI_I, if_pos rfl, if_neg (fun z => hr z.2)]
      exact ⟨_, rfl, puI_eq _ _ _ _, h0.p0 1, k0.pu (by omega) _ _⟩
  · rw [if_neg hc, cI_I, if_pos rfl, if_neg (fun z => hc z.1)]
    exact ⟨_, rfl, puI_eq _ _ _ _, h0.p0 1, k0.pu (by omega) _ _⟩
def triV (A : AS) (t j : Nat) : Int := (tri (aS A) t j : Int)
theorem c_trick (hA : OKA A) (h : CH A M) (a b : Int) : wOut A (ans ((0 ≤ a ∧ a < (nT (aS A) : Int)) ∧ 0 ≤ b ∧ b ≤ 5) (triV A a.toNat b.toNat)).1 (triV A a.toNat b.toNat) M (fn X (d + 4) 326 [rv 0, iv a, iv b, rv 111] M) := by
  obtain ⟨hF, -⟩ := hA
  have hS := h.1
  rw [q_326_0_111, q_156_0, c_chkT hS]
  unfold ans
  by_cases hc : 0 ≤ a ∧ a < (nT (aS A) : Int)
  · obtain ⟨c, hcl, rfl⟩ := nat_of hc
    rw [if_pos hc, cV_V, Int.toNat_natCast]
    by_cases hr : 0 ≤ b ∧ b ≤ 5
    · obtain ⟨j, hj, rfl⟩ := nat_le (n := 5) hr
      rw [if_pos ⟨hc, hr⟩, if_neg (by omega), if_neg (by omega), c_get6 hS hF hcl (by omega), cI_I, Int.toNat_natCast]
      exact w_ok (M1 := M) rfl h kC.rf rfl
    · rw [if_neg (fun z => hr z.2)]
      by_cases h1 : b < 0
      · rw [if_pos h1]
        exact w_x (q := 0) (k := 1) (M1 := thr M) rfl rfl (by omega) h kC.rf rfl
      · rw [if_neg h1, if_pos (by omega)]
        exact w_x (q := 0) (k := 1) (M1 := thr M) rfl rfl (by omega) h kC.rf rfl
  · rw [if_neg hc, if_neg (fun z => hc z.1), cV_X]
    exact w_x (q := 0) (k := 1) (M1 := thr M) rfl rfl (by omega) h kC.rf rfl
theorem m_trick (hA : OKA A) (h : MH A M) (a b : Int) : mOut A (ans ((0 ≤ a ∧ a < (nT (aS A) : Int)) ∧ 0 ≤ b ∧ b ≤ 5) (triV A a.toNat b.toNat)).1 (ans ((0 ≤ a ∧ a < (nT (aS A) : Int)) ∧ 0 ≤ b ∧ b ≤ 5) (triV A a.toNat b.toNat)).2 M (fn X (d + 3) 268 [rv 59, iv a, iv b] M) := by
  obtain ⟨hF, -⟩ := hA
  have h8 := hF.2.1
  obtain ⟨h0, z0, k0⟩ := m_0 h
  rw [q_268_59]
  generalize puI M 59 0 0 = M1 at *
  have hS := h0.1
  rw [m_tri hS z0]
  unfold ans
  by_cases hc : 0 ≤ a ∧ a < (nT (aS A) : Int)
  · obtain ⟨c, hcl, rfl⟩ := nat_of hc
    rw [if_pos hc, cI_I, if_neg n10, m_what z0, Int.toNat_natCast]
    by_cases hr : 0 ≤ b ∧ b ≤ 5
    · rw [if_pos hr, cI_I, if_neg n10, if_pos ⟨hc, hr⟩]
      refine ⟨M1, ?_, z0, h0, k0⟩
      obtain ⟨e0, e1, e2, e3, e4, e5⟩ := hS.2.2.2.2.2.1 c hcl
      have hx : b = 0 ∨ b = 1 ∨ b = 2 ∨ b = 3 ∨ b = 4 ∨ b = 5 := by omega
      rcases hx with rfl | rfl | rfl | rfl | rfl | rfl
      · simp only [Int.reduceEq, reduceIte]
        rw [gdx (by omega) (by omega), e0]
        rfl
      · simp only [Int.reduceEq, reduceIte]
        rw [gdx (by omega) (by omega), e1]
        rfl
      · simp only [Int.reduceEq, reduceIte]
        rw [gdx (by omega) (by omega), e2]
        rfl
      · simp only [Int.reduceEq, reduceIte]
        rw [gdx (by omega) (by omega), e3]
        rfl
      · simp only [Int.reduceEq, reduceIte]
        rw [gdx (by omega) (by omega), e4]
        rfl
      · simp only [Int.reduceEq, reduceIte]
        rw [gdx (by omega) (by omega), e5]
        rfl
    · rw [if_neg hr, cI_I, if_pos rfl, if_neg (fun z => hr z.2)]
      exact ⟨_, rfl, puI_eq _ _ _ _, h0.p0 1, k0.pu (by omega) _ _⟩
  · rw [if_neg hc, cI_I, if_pos rfl, if_neg (fun z => hc z.1)]
    exact ⟨_, rfl, puI_eq _ _ _ _, h0.p0 1, k0.pu (by omega) _ _⟩
noncomputable def lacV (A : AS) (c t : Nat) : Int := ior (iand (tri (aS A) t 0 : Int) (ixor (aW A (3 + c) : Int) (-1))) (ishl (iand (tri (aS A) t 1 : Int) (aW A (3 + c) : Int)) 6)
theorem c_lacking (hA : OKA A) (h : CH A M) (a b : Int) : wOut A (ans ((0 ≤ a ∧ a < (nC (aS A) : Int)) ∧ 0 ≤ b ∧ b < (nT (aS A) : Int)) (lacV A a.toNat b.toNat)).1 (lacV A a.toNat b.toNat) M (fn X (d + 4) 347 [rv 0, iv a, iv b, rv 111] M) := by
  obtain ⟨hF, -⟩ := hA
  have hS := h.1
  rw [q_347_0_111, q_182_0, c_chkC hS]
  unfold ans
  by_cases hc : 0 ≤ a ∧ a < (nC (aS A) : Int)
  · obtain ⟨c, hcl, rfl⟩ := nat_of hc
    rw [if_pos hc, cV_V, Int.toNat_natCast, c_chkT hS]
    by_cases hr : 0 ≤ b ∧ b < (nT (aS A) : Int)
    · obtain ⟨t, ht, rfl⟩ := nat_of hr
      have g0 := c_get6 (X := X) (d := d + 1) hS hF ht (j := 0) (by omega)
      have g1 := c_get6 (X := X) (d := d + 1) hS hF ht (j := 1) (by omega)
      rw [if_pos ⟨hc, hr⟩, if_pos hr, cV_V, c_bel hs34 hF h.W hcl, cI_I, Int.toNat_natCast]
      erw [g0]
      rw [cI_I]
      erw [g1]
      rw [cI_I]
      exact w_ok (M1 := M) rfl h kC.rf rfl
    · rw [if_neg (fun z => hr z.2), if_neg hr, cV_X]
      exact w_x (q := 0) (k := 1) (M1 := thr M) rfl rfl (by omega) h kC.rf rfl
  · rw [if_neg hc, if_neg (fun z => hc z.1), cV_X]
    exact w_x (q := 0) (k := 1) (M1 := thr M) rfl rfl (by omega) h kC.rf rfl
theorem m_lacking (hA : OKA A) (h : MH A M) (a b : Int) : mOut A (ans ((0 ≤ a ∧ a < (nC (aS A) : Int)) ∧ 0 ≤ b ∧ b < (nT (aS A) : Int)) (lacV A a.toNat b.toNat)).1 (ans ((0 ≤ a ∧ a < (nC (aS A) : Int)) ∧ 0 ≤ b ∧ b < (nT (aS A) : Int)) (lacV A a.toNat b.toNat)).2 M (fn X (d + 3) 313 [rv 59, iv a, iv b] M) := by
  obtain ⟨hF, -⟩ := hA
  have h6 := hF.1
  have h8 := hF.2.1
  obtain ⟨h0, z0, k0⟩ := m_0 h
  rw [q_313_59]
  generalize puI M 59 0 0 = M1 at *
  have hS := h0.1
  rw [m_cre hS z0]
  unfold ans
  by_cases hc : 0 ≤ a ∧ a < (nC (aS A) : Int)
  · obtain ⟨c, hcl, rfl⟩ := nat_of hc
    rw [if_pos hc, cI_I, if_neg n10, m_tri hS z0, Int.toNat_natCast]
    by_cases hr : 0 ≤ b ∧ b < (nT (aS A) : Int)
    · obtain ⟨t, ht, rfl⟩ := nat_of hr
      have i3 : wr (3 + (c : Int)) = ((0 + (3 + c) : Nat) : Int) := by
        rw [wri (by omega) (by omega)]
        omega
      obtain ⟨e0, e1, -⟩ := hS.2.2.2.2.2.1 t ht
      rw [if_pos hr, cI_I, if_neg n10, if_pos ⟨hc, hr⟩, i3, gdx (by omega) (by omega), gdx (by omega) (by omega), gdx (by omega) (by omega), gdx (by omega) (by omega), Int.toNat_natCast, Int.toNat_natCast, h0.W.b0 hcl h6, e0, e1]
      exact ⟨M1, rfl, z0, h0, k0⟩
    · rw [if_neg hr, cI_I, if_pos rfl, if_neg (fun z => hr z.2)]
      exact ⟨_, rfl, puI_eq _ _ _ _, h0.p0 1, k0.pu (by omega) _ _⟩
  · rw [if_neg hc, cI_I, if_pos rfl, if_neg (fun z => hc z.1)]
    exact ⟨_, rfl, puI_eq _ _ _ _, h0.p0 1, k0.pu (by omega) _ _⟩
end C45
