/-! ===== a try, both sides ===== -/
def up (W : WD) (j v : Nat) : WD := fun i => if i = j then v else W i
theorem up_eq (W : WD) (j v : Nat) : up W j v j = v := if_pos rfl
theorem up_ne {W : WD} {j v i : Nat} (h : i ≠ j) : up W j v i = W i := if_neg h
theorem wv_up {W : WD} {j v i : Nat} (h2 : j ≠ 2) : wv (up W j v) i = if i = j then (v : Int) else wv W i := by
  unfold wv up
  by_cases h : i = j
  · subst h
    rw [if_neg h2, if_pos rfl, if_pos rfl]
  · rw [if_neg (show ¬ (2 : Nat) = j from fun z => h2 z.symm), if_neg h, if_neg h]
theorem cl_inj {n i j : Nat} (h1 : okI n i) (h2 : okI n j) (h : cl i = cl j) : i = j := by
  unfold okI at h1 h2
  unfold cl at h
  split at h <;> split at h <;> omega
section C40
variable {X : Nat × (Nat → Int32)} {d : Nat} {M M' : rM} {S : SK} {W : WD} {s : Nat}
theorem CS.fr (h : CS S M) (e : ∀ k, 3 ≤ k → k ≤ 13 → M'.2.1 k = M.2.1 k) : CS S M' := by
  unfold CS at h ⊢
  rw [e 3 (by omega) (by omega), e 4 (by omega) (by omega), e 5 (by omega) (by omega), e 6 (by omega) (by omega), e 7 (by omega) (by omega), e 8 (by omega) (by omega), e 9 (by omega) (by omega), e 10 (by omega) (by omega), e 11 (by omega) (by omega), e 12 (by omega) (by omega), e 13 (by omega) (by omega)]
  exact h
theorem CS.pu (h : CS S M) {k : Nat} (hk : k < 3 ∨ 13 < k) (j : Nat) (x : Int) : CS S (puI M k j x) := h.fr (fun a h1 h2 => puI_k (by omega))
theorem MS.fr (h : MS S M) (e : ∀ k, 60 ≤ k → k ≤ 72 → M'.2.1 k = M.2.1 k) (e9 : ∀ j, 1 ≤ j → j ≤ 6 → M'.2.1 59 j = M.2.1 59 j) : MS S M' := by
  unfold MS at h ⊢
  rw [e9 1 (by omega) (by omega), e9 2 (by omega) (by omega), e9 3 (by omega) (by omega), e9 4 (by omega) (by omega), e9 5 (by omega) (by omega), e9 6 (by omega) (by omega), e 60 (by omega) (by omega), e 61 (by omega) (by omega), e 62 (by omega) (by omega), e 63 (by omega) (by omega), e 64 (by omega) (by omega), e 65 (by omega) (by omega), e 66 (by omega) (by omega), e 67 (by omega) (by omega), e 68 (by omega) (by omega), e 69 (by omega) (by omega), e 70 (by omega) (by omega), e 71 (by omega) (by omega), e 72 (by omega) (by omega)]
  exact h
theorem MS.pu (h : MS S M) {k : Nat} (hk : k < 59 ∨ 72 < k) (j : Nat) (x : Int) : MS S (puI M k j x) := h.fr (fun a h1 h2 => puI_k (by omega)) (fun j h1 h2 => puI_ne (by omega))
theorem MS.pf (h : MS S M) {j : Nat} (hj : j < 1 ∨ 6 < j) (x : Int) : MS S (puI M 59 j x) := h.fr (fun a h1 h2 => puI_k (by omega)) (fun i h1 h2 => puI_nj (by omega))
theorem CW.fr {k off n : Nat} (h : CW k off n W M) (e : M'.2.1 k = M.2.1 k) : CW k off n W M' := fun j hj => by rw [e]; exact h j hj
theorem MW.fr {k off n : Nat} (h : MW k off n W M) (e : ∀ j, off ≤ j → j < off + 27 → M'.2.1 k j = M.2.1 k j) : MW k off n W M' := fun j hj => by
  rw [e (off + j) (by omega) (by unfold okI at hj; omega)]
  exact h j hj
theorem CW.pu {k off n : Nat} (h : CW k off n W M) {j v : Nat} (hj : okI n j) (h2 : j ≠ 2) : CW k off n (up W j v) (puI M k (off + cl j) (v : Int)) := by
  intro i hi
  rw [wv_up h2]
  by_cases e : i = j
  · subst e
    rw [puI_eq, if_pos rfl]
  · rw [if_neg e, puI_nj (fun z => e (cl_inj hi hj (by omega)))]
    exact h i hi
theorem MW.pu {k off n : Nat} (h : MW k off n W M) {j v : Nat} (h2 : j ≠ 2) : MW k off n (up W j v) (puI M k (off + j) (v : Int)) := by
  intro i hi
  rw [wv_up h2]
  by_cases e : i = j
  · subst e
    rw [puI_eq, if_pos rfl]
  · rw [if_neg e, puI_nj (by omega)]
    exact h i hi
theorem okc {n c q : Nat} (hc : c < n) (h6 : n ≤ 6) (hq : q < 4) : okI n (3 + 6 * q + c) := Or.inr ⟨by omega, by omega, by omega⟩
theorem CW.pc0 {k n : Nat} (h : CW k 0 n W M) (v : Nat) : CW k 0 n (up W 0 v) (puI M k 0 (v : Int)) := h.pu (j := 0) (Or.inl (by omega)) (by omega)
theorem CW.p0 {k n c : Nat} (h : CW k 0 n W M) (hc : c < n) (h6 : n ≤ 6) (v : Nat) : CW k 0 n (up W (3 + c) v) (puI M k (4 * c + 3) (v : Int)) := by
  have := h.pu (j := 3 + c) (v := v) (by have := okc (q := 0) hc h6 (by omega); rwa [show 3 + 6 * 0 + c = 3 + c by omega] at this) (by omega)
  rwa [show 0 + cl (3 + c) = 4 * c + 3 by unfold cl; rw [if_neg (by omega)]; omega] at this
theorem CW.p1 {k n c : Nat} (h : CW k 0 n W M) (hc : c < n) (h6 : n ≤ 6) (v : Nat) : CW k 0 n (up W (9 + c) v) (puI M k (4 * c + 4) (v : Int)) := by
  have := h.pu (j := 9 + c) (v := v) (by have := okc (q := 1) hc h6 (by omega); rwa [show 3 + 6 * 1 + c = 9 + c by omega] at this) (by omega)
  rwa [show 0 + cl (9 + c) = 4 * c + 4 by unfold cl; rw [if_neg (by omega)]; omega] at this
theorem CW.p2 {k n c : Nat} (h : CW k 0 n W M) (hc : c < n) (h6 : n ≤ 6) (v : Nat) : CW k 0 n (up W (15 + c) v) (puI M k (4 * c + 5) (v : Int)) := by
  have := h.pu (j := 15 + c) (v := v) (by have := okc (q := 2) hc h6 (by omega); rwa [show 3 + 6 * 2 + c = 15 + c by omega] at this) (by omega)
  rwa [show 0 + cl (15 + c) = 4 * c + 5 by unfold cl; rw [if_neg (by omega)]; omega] at this
theorem CW.p3 {k n c : Nat} (h : CW k 0 n W M) (hc : c < n) (h6 : n ≤ 6) (v : Nat) : CW k 0 n (up W (21 + c) v) (puI M k (4 * c + 6) (v : Int)) := by
  have := h.pu (j := 21 + c) (v := v) (by have := okc (q := 3) hc h6 (by omega); rwa [show 3 + 6 * 3 + c = 21 + c by omega] at this) (by omega)
  rwa [show 0 + cl (21 + c) = 4 * c + 6 by unfold cl; rw [if_neg (by omega)]; omega] at this
theorem c_coins (hs : s = 34 ∨ s = 57) (hW : CW (s + 1) 0 (nC S) W M) : fn X (d + 1) 93 [rv s] M = oI (W 0 : Int) M := by
  rw [q_93_s _ hs, hW.coins]
theorem c_day (hs : s = 34 ∨ s = 57) (hW : CW (s + 1) 0 (nC S) W M) : fn X (d + 1) 95 [rv s] M = oI (W 1 : Int) M := by
  have := hW.day
  rw [Nat.zero_add] at this
  rw [q_95_s _ hs, this]
theorem c_guard (hs : s = 34 ∨ s = 57) (hW : CW (s + 1) 0 (nC S) W M) : fn X (d + 1) 96 [rv s] M = oI ((W 2 : Int) - 1) M := by
  have := hW.guard
  rw [Nat.zero_add] at this
  rw [q_96_s _ hs, this]
theorem c_setBel (hs : s = 34 ∨ s = 57) {c : Nat} (hc : c < 6) (x : Int) : fn X (d + 1) 99 [rv s, iv (c : Int), iv x] M = oV (puI M (s + 1) (4 * c + 3) x) := by
  rw [q_99_s _ _ _ hs, ix4 hc (by omega) (by omega), gdx (by omega) (by omega), Int.toNat_natCast]
  rfl
theorem c_setCrd (hs : s = 34 ∨ s = 57) {c : Nat} (hc : c < 6) (x : Int) : fn X (d + 1) 103 [rv s, iv (c : Int), iv x] M = oV (puI M (s + 1) (4 * c + 5) x) := by
  rw [q_103_s _ _ _ hs, ix4 hc (by omega) (by omega), gdx (by omega) (by omega), Int.toNat_natCast]
  rfl
theorem c_setFat (hs : s = 34 ∨ s = 57) {c : Nat} (hc : c < 6) (x : Int) : fn X (d + 1) 104 [rv s, iv (c : Int), iv x] M = oV (puI M (s + 1) (4 * c + 6) x) := by
  rw [q_104_s _ _ _ hs, ix4 hc (by omega) (by omega), gdx (by omega) (by omega), Int.toNat_natCast]
  rfl
/-- a try: what comes of it, the state behind it -/
noncomputable def tryW (S : SK) (W : WD) (c t : Nat) : Nat × WD :=
  if wk S t (W (3 + c)) then
    (if bd S c (W (9 + c)) (bb S t (W (3 + c))) (cb S t (W (15 + c)) (helpW S W)) (helpW S W)
      then (2, up (up (up (up W 0 (W 0 - tri S t 5)) (3 + c) (bb S t (W (3 + c)))) (15 + c) (cb S t (W (15 + c)) (helpW S W))) (21 + c) 1)
      else (1, up (up (up W 0 (W 0 - tri S t 5)) (3 + c) (bb S t (W (3 + c)))) (15 + c) (cb S t (W (15 + c)) (helpW S W))))
  else (0, up (up (up W 0 (W 0 - tri S t 5)) (9 + c) (min 9 (W (9 + c) + 1))) (15 + c) 0)
def Pst (s k _j : Nat) : Bool := k == s + 1 || k == 14 || k == 15
theorem b01_0 (b : Bool) : (b01 b = 0) ↔ b = false := by cases b <;> simp [b01]
theorem helpW_up {W : WD} {j v : Nat} (hj : j < 21) : helpW S (up W j v) = helpW S W := by
  unfold helpW
  apply helpN_congr
  intro c _
  rw [up_ne (by omega)]
theorem c_try (hs : s = 34 ∨ s = 57) (hS : CS S M) (hF : WF S) (hR : WR S) (hW : CW (s + 1) 0 (nC S) W M) (hV : WW S W) {c t : Nat} (hc : c < nC S) (ht : t < nT S) (hco : tri S t 5 ≤ W 0) : ∃ M', fn X (d + 3) 108 [rv s, iv (c : Int), iv (t : Int)] M = oI ((tryW S W c t).1 : Int) M' ∧ CW (s + 1) 0 (nC S) (tryW S W c t).2 M' ∧ sf (Pst s) M M' := by
  have h6 := hF.1
  obtain ⟨v0, -, v3⟩ := hV
  obtain ⟨vb, vw, vc, -⟩ := v3 c hc
  have hs1 : 34 ≤ s := by omega
  have g5 := c_get6 (X := X) (d := d + 1) hS hF ht (j := 5) (by omega)
  have hP : ∀ j, Pst s (s + 1) j = true := fun j => by simp [Pst]
  -- the coins
  have e0 : wr ((W 0 : Int) - (tri S t 5 : Int)) = ((W 0 - tri S t 5 : Nat) : Int) := by
    rw [wri (by omega) (by omega)]
    omega
  have hW1 := hW.pc0 (W 0 - tri S t 5)
  have hS1 : CS S (puI M (s + 1) 0 ((W 0 - tri S t 5 : Nat) : Int)) := hS.pu (by omega) _ _
  have f1 : sf (Pst s) M (puI M (s + 1) 0 ((W 0 - tri S t 5 : Nat) : Int)) := sf.rf.pu (hP _) _
  rw [q_108_s _ _ _ hs, c_coins hs hW, cI_I]
  erw [g5]
  rw [cI_I, q_94_s _ _ hs, cV_V, e0]
  generalize hM1 : puI M (s + 1) 0 ((W 0 - tri S t 5 : Nat) : Int) = M1 at *
  have b1 := c_bel (X := X) (d := d + 1) hs hF hW1 hc
  rw [up_ne (by omega)] at b1
  rw [b1, cI_I, c_works hS1 hF ht vb, cI_I]
  unfold tryW
  by_cases hk : wk S t (W (3 + c)) = true
  · rw [if_neg (by rw [b01_0, hk]; simp), if_pos hk, c_help hs hS1 hF hW1, helpW_up (by omega), cI_I, b1, cI_I, c_bb hS1 hF ht vb, cI_I, c_setBel hs (by omega), cV_V]
    have hW2 := hW1.p0 hc h6 (bb S t (W (3 + c)))
    have hS2 : CS S (puI M1 (s + 1) (4 * c + 3) (bb S t (W (3 + c)) : Int)) := hS1.pu (by omega) _ _
    have f2 : sf (Pst s) M (puI M1 (s + 1) (4 * c + 3) (bb S t (W (3 + c)) : Int)) := f1.pu (hP _) _
    generalize hM2 : puI M1 (s + 1) (4 * c + 3) (bb S t (W (3 + c)) : Int) = M2 at *
    have c2 := c_crd (X := X) (d := d + 1) hs hF hW2 hc
    rw [up_ne (by omega), up_ne (by omega)] at c2
    have hh := helpW_le (W := W) hF
    rw [c2, cI_I, c_cb hS2 hF ht vc (by omega), cI_I, c_setCrd hs (by omega), cV_V]
    have hW3 := hW2.p2 hc h6 (cb S t (W (15 + c)) (helpW S W))
    have hS3 : CS S (puI M2 (s + 1) (4 * c + 5) (cb S t (W (15 + c)) (helpW S W) : Int)) := hS2.pu (by omega) _ _
    have f3 : sf (Pst s) M (puI M2 (s + 1) (4 * c + 5) (cb S t (W (15 + c)) (helpW S W) : Int)) := f2.pu (hP _) _
    generalize hM3 : puI M2 (s + 1) (4 * c + 5) (cb S t (W (15 + c)) (helpW S W) : Int) = M3 at *
    have d1 := c_crd (X := X) (d := d + 1) hs hF hW3 hc
    have d2 := c_war (X := X) (d := d + 1) hs hF hW3 hc
    have d3 := c_bel (X := X) (d := d + 1) hs hF hW3 hc
    rw [up_eq] at d1
    rw [up_ne (by omega), up_ne (by omega), up_ne (by omega)] at d2
    rw [up_ne (by omega), up_eq] at d3
    obtain ⟨M4, k1, k2⟩ := c_binds (X := X) (d := d) hS3 hF hR (wary := W (9 + c)) (cord := cb S t (W (15 + c)) (helpW S W)) (h := helpW S W) hc (bb_le hF ht vb)
    have f4 : sf (Pst s) M M4 := f3.tr (k2.mo (fun k j hq => by simp only [Pst, P1415, Bool.or_eq_false_iff] at hq ⊢; exact ⟨hq.1.2, hq.2⟩))
    have hW4 : CW (s + 1) 0 (nC S) _ M4 := hW3.fr (by funext j; exact (k2.2 (s + 1) j (by simp only [P1415, Bool.or_eq_false_iff, beq_eq_false_iff_ne]; omega)).1)
    rw [d1, cI_I, d2, cI_I, d3, cI_I, k1, cI_I]
    by_cases hb : bd S c (W (9 + c)) (bb S t (W (3 + c))) (cb S t (W (15 + c)) (helpW S W)) (helpW S W) = true
    · rw [if_neg (by rw [b01_0, hb]; simp), if_pos hb, c_setFat hs (by omega), cV_V]
      exact ⟨_, rfl, hW4.p3 hc h6 1, f4.pu (hP _) _⟩
    · rw [if_pos (by rw [b01_0]; simpa using hb), if_neg hb]
      exact ⟨_, rfl, hW4, f4⟩
  · rw [if_pos (by rw [b01_0]; simpa using hk), if_neg hk]
    have w2 := c_war (X := X) (d := d + 1) hs hF hW1 hc
    rw [up_ne (by omega)] at w2
    have e9 : min (9 : Int) (wr ((W (9 + c) : Int) + 1)) = ((min 9 (W (9 + c) + 1) : Nat) : Int) := by
      rw [wri (by omega) (by omega)]
      omega
    rw [w2, cI_I, ix4 (by omega) (by omega) (by omega), gdx (by omega) (by omega), Int.toNat_natCast, e9, c_setCrd hs (by omega), cV_V]
    exact ⟨_, rfl, (hW1.p1 hc h6 _).p2 hc h6 0, (f1.pu (hP _) _).pu (hP _) _⟩
end C40
