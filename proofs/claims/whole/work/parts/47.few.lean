/-! ===== few, offer, fooled ===== -/
def fstP (f : Nat → Bool) : Nat → Nat → Int
  | 0, _ => -1
  | k + 1, p => if f p then (p : Int) else fstP f k (p + 1)
theorem fstP_some {f : Nat → Bool} : ∀ (k p q : Nat), p ≤ q → q < p + k → f q = true → ∃ r : Nat, fstP f k p = (r : Int) ∧ p ≤ r ∧ r ≤ q ∧ f r = true ∧ ∀ z, p ≤ z → z < r → f z = false
  | 0, p, q, h1, h2, _ => by omega
  | k + 1, p, q, h1, h2, h3 => by
    unfold fstP
    by_cases h : f p = true
    · rw [if_pos h]
      exact ⟨p, rfl, Nat.le_refl _, h1, h, fun z z1 z2 => by omega⟩
    · rw [if_neg h]
      have hne : p ≠ q := fun e => h (e ▸ h3)
      obtain ⟨r, r1, r2, r3, r4, r5⟩ := fstP_some k (p + 1) q (by omega) (by omega) h3
      refine ⟨r, r1, by omega, r3, r4, fun z z1 z2 => ?_⟩
      by_cases e : z = p
      · rw [e]
        simpa using h
      · exact r5 z (by omega) z2
theorem fstP_none {f : Nat → Bool} : ∀ (k p : Nat), (∀ q, p ≤ q → q < p + k → f q = false) → fstP f k p = -1
  | 0, _, _ => rfl
  | k + 1, p, h => by
    unfold fstP
    rw [if_neg (by rw [h p (by omega) (by omega)]; simp)]
    exact fstP_none k (p + 1) (fun q h1 h2 => h q (by omega) (by omega))
def cntP (S : SK) (v p : Nat) : Nat := pc (payS S v p)
def fewV (S : SK) (v m : Nat) : Int := fstP (fun p => decide (cntP S v p ≤ m)) 1000 0
theorem pay_step {S : SK} {v p : Nat} (h : ∀ k, k < nH S → hun S k 1 ≠ p) : payS S v (p + 1) = payS S v p := by
  unfold payS
  apply setN_congr
  intro c hc
  have := h c hc
  congr 1
  apply decide_eq_decide.2
  omega
/-- the least price so far -/
def lc (S : SK) (v m : Nat) : Nat → Option Nat
  | 0 => none
  | h + 1 => if hun S h 1 + 1 ≤ 999 ∧ (∀ q, lc S v m h = some q → hun S h 1 + 1 < q) ∧ cntP S v (hun S h 1 + 1) ≤ m then some (hun S h 1 + 1) else lc S v m h
theorem lc_ok {S : SK} {v m : Nat} : ∀ {n q : Nat}, lc S v m n = some q → q ≤ 999 ∧ cntP S v q ≤ m
  | 0, q, h => by cases h
  | n + 1, q, h => by
    unfold lc at h
    split at h
    · rename_i hc
      cases h
      exact ⟨hc.1, hc.2.2⟩
    · exact lc_ok h
theorem lc_le {S : SK} {v m : Nat} : ∀ {n k : Nat}, k < n → hun S k 1 + 1 ≤ 999 → cntP S v (hun S k 1 + 1) ≤ m → ∃ q, lc S v m n = some q ∧ q ≤ hun S k 1 + 1
  | 0, k, h, _, _ => by omega
  | n + 1, k, h, h1, h2 => by
    unfold lc
    by_cases e : k = n
    · subst e
      by_cases hc : ∀ q, lc S v m k = some q → hun S k 1 + 1 < q
      · rw [if_pos ⟨h1, hc, h2⟩]
        exact ⟨_, rfl, Nat.le_refl _⟩
      · rw [if_neg (fun z => hc z.2.1)]
        cases hl : lc S v m k with
        | none => exact absurd (fun q hq => by rw [hl] at hq; cases hq) hc
        | some q =>
          refine ⟨q, rfl, ?_⟩
          apply Nat.le_of_not_lt
          intro z
          exact hc (fun q' hq' => by rw [hl] at hq'; cases hq'; exact z)
    · obtain ⟨q, q1, q2⟩ := lc_le (n := n) (k := k) (by omega) h1 h2
      split
      · rename_i hc
        have := hc.2.1 q q1
        exact ⟨_, rfl, by omega⟩
      · exact ⟨q, q1, q2⟩
theorem few_eq {S : SK} {v m : Nat} (h0 : ¬ cntP S v 0 ≤ m) : pyI (lc S v m (nH S)) = fewV S v m := by
  -- where one is few enough, the least is one above a purse
  have key : ∀ q, q ≤ 999 → cntP S v q ≤ m → ∃ r k : Nat, fewV S v m = (r : Int) ∧ r ≤ q ∧ k < nH S ∧ hun S k 1 + 1 = r ∧ cntP S v r ≤ m := by
    intro q hq hm
    obtain ⟨r, r1, -, r3, r4, r5⟩ := fstP_some (f := fun p => decide (cntP S v p ≤ m)) 1000 0 q (by omega) (by omega) (decide_eq_true hm)
    have r4 : cntP S v r ≤ m := of_decide_eq_true r4
    have hr : r ≠ 0 := fun e => h0 (e ▸ r4)
    have r6 : ¬ cntP S v (r - 1) ≤ m := of_decide_eq_false (r5 (r - 1) (by omega) (by omega))
    by_cases hk : ∃ k, k < nH S ∧ hun S k 1 = r - 1
    · obtain ⟨k, k1, k2⟩ := hk
      exact ⟨r, k, r1, r3, k1, by omega, r4⟩
    · exfalso
      have := pay_step (S := S) (v := v) (p := r - 1) (fun k k1 k2 => hk ⟨k, k1, k2⟩)
      rw [show r - 1 + 1 = r by omega] at this
      unfold cntP at r4 r6
      rw [this] at r4
      exact r6 r4
  cases hl : lc S v m (nH S) with
  | none =>
    show (-1 : Int) = _
    refine (fstP_none 1000 0 (fun q _ h2 => ?_)).symm
    apply decide_eq_false
    intro hm
    obtain ⟨r, k, -, r2, r3, r4, r5⟩ := key q (by omega) hm
    obtain ⟨q', q1, -⟩ := lc_le (S := S) (v := v) (m := m) r3 (by omega) (by rw [r4]; exact r5)
    rw [hl] at q1
    cases q1
  | some q =>
    obtain ⟨q1, q2⟩ := lc_ok hl
    obtain ⟨r, k, r1, r2, r3, r4, r5⟩ := key q q1 q2
    obtain ⟨q', p1, p2⟩ := lc_le (S := S) (v := v) (m := m) r3 (by omega) (by rw [r4]; exact r5)
    rw [hl] at p1
    cases p1
    rw [r1]
    show (q : Int) = (r : Int)
    omega
section C47
variable {X : Nat × (Nat → Int32)} {d : Nat} {M M1 M' : rM} {A A' : AS} {S : SK} {W : WD}
theorem c_fewS (hS : CS S M) (hF : WF S) {v m : Nat} (hv : v < 2147483648) (hm : m ≤ 5) : fn X (d + 4) 78 [rv 3, iv (v : Int), iv (m : Int)] M = oI (fewV S v m) M := by
  have h7 := hF.2.2.1
  have p0 := c_pay (X := X) (d := d) hS hF (v := v) (p := 0) hv
  rw [q_78_3]
  erw [p0]
  rw [cI_I, c_bc (Nat.lt_trans (payS_lt hF v 0) (by omega)), cI_I]
  by_cases h0 : cntP S v 0 ≤ m
  · rw [if_neg (by unfold cntP at h0; omega)]
    unfold fewV fstP
    rw [if_pos (decide_eq_true h0)]
    rfl
  · rw [if_pos (by unfold cntP at h0; omega), ← few_eq h0]
    refine loop_up (P := fun n h => kb X (d + 3) 78 n 20 [some (rv 3), some (iv (v : Int)), some (iv (m : Int)), some (iv (pyI (lc S v m h))), some (iv (h : Int)), none] [] M) (nH S) ?_ ?_ (nH S) 0 FU (by omega) (FU_lt (by omega))
    · intro n h hh
      left
      have hu := (hF.2.2.2.2.2.2.1 h hh).2
      have g1 := c_get8 (X := X) (d := d + 2) hS hF hh (j := 1) (by omega)
      have cp := c_pay (X := X) (d := d) hS hF (v := v) (p := hun S h 1 + 1) hv
      have bc := c_bc (X := X) (d := d + 2) (M := M) (v := payS S v (hun S h 1 + 1)) (Nat.lt_trans (payS_lt hF v _) (by omega))
      rw [q_78_3_at20, q_112_8, cI_I, hS.2.2.1, if_pos (by omega), wr_succ (by omega)]
      erw [g1]
      rw [cI_I, wr_succ (by omega), cp, cI_I, bc, cI_I]
      simp only [lc]
      by_cases a1 : hun S h 1 + 1 ≤ 999
      · rw [if_neg (by omega)]
        cases hl : lc S v m h with
        | none =>
          rw [if_pos (show pyI none = -1 from rfl)]
          by_cases a3 : cntP S v (hun S h 1 + 1) ≤ m
          · rw [if_neg (by unfold cntP at a3; omega), if_pos ⟨a1, fun q hq => (by cases hq), a3⟩]
            rfl
          · rw [if_pos (by unfold cntP at a3; omega), if_neg (fun z => a3 z.2.2)]
        | some q =>
          have hpy : pyI (some q) = (q : Int) := rfl
          rw [hpy, if_neg (by omega)]
          by_cases a2 : hun S h 1 + 1 < q
          · rw [if_pos (by omega)]
            by_cases a3 : cntP S v (hun S h 1 + 1) ≤ m
            · rw [if_neg (by unfold cntP at a3; omega), if_pos ⟨a1, fun q' hq => (by cases hq; exact a2), a3⟩]
              rfl
            · rw [if_pos (by unfold cntP at a3; omega), if_neg (fun z => a3 z.2.2)]
              rfl
          · rw [if_neg (by omega), if_neg (fun z => a2 (z.2.1 q rfl))]
            rfl
      · rw [if_pos (by omega), if_neg (fun z => a1 z.1)]
    · intro n
      rw [q_78_3_at20, q_112_8, cI_I, hS.2.2.1, if_neg (by omega)]
theorem m_fewS (hS : MS S M) (hF : WF S) {v m : Nat} (hv : v < 2147483648) : kb X (d + 1) 295 FU 39 [some (rv 59), some (iv (v : Int)), some (iv (m : Int)), some (iv 0)] [] M = oI (fewV S v m) M := by
  refine loop_st (σ := Unit) (fun p _ => fstP (fun p => decide (cntP S v p ≤ m)) (1000 - p) p = fewV S v m) (fun n p _ => kb X (d + 1) 295 n 39 [some (rv 59), some (iv (v : Int)), some (iv (m : Int)), some (iv (p : Int))] [] M) (fun r => r = oI (fewV S v m) M) 1000 ?_ ?_ 1000 0 FU () (by omega) (FU_lt (by omega)) rfl
  · intro n p _ hp hi
    have e : 1000 - p = (1000 - (p + 1)) + 1 := by omega
    rw [e] at hi
    unfold fstP at hi
    rw [q_295_59_at39, if_neg (by omega), m_pay hS hF hv, cI_I, m_bits (Nat.lt_trans (payS_lt hF v p) (by omega)), cI_I, wr_succ (by omega)]
    by_cases h : cntP S v p ≤ m
    · right
      rw [if_pos (decide_eq_true h)] at hi
      rw [if_neg (by unfold cntP at h; omega), hi]
    · left
      rw [if_neg (by simpa using h)] at hi
      rw [if_pos (by unfold cntP at h; omega)]
      exact ⟨(), rfl, hi⟩
  · intro n _ hi
    rw [q_295_59_at39, if_pos (by omega), ← hi]
    rfl
theorem c_few (hA : OKA A) (h : CH A M) {a : Int} (ha : rgi a) (b : Int) : wOut A (ans ((0 ≤ a ∧ a < ((2 ^ nC (aS A) : Nat) : Int)) ∧ 0 ≤ b ∧ b ≤ 5) (fewV (aS A) a.toNat b.toNat)).1 (fewV (aS A) a.toNat b.toNat : Int) M (fn X (d + 6) 339 [rv 0, iv a, iv b, rv 111] M) := by
  obtain ⟨hF, -⟩ := hA
  have hS := h.1
  have h6 := hF.1
  have hp : 2 ^ nC (aS A) ≤ 2 ^ 6 := Nat.pow_le_pow_right (by omega) h6
  rw [q_339_0_111, q_172_0, c_chkS hS hF ha]
  unfold ans
  by_cases hc : 0 ≤ a ∧ a < ((2 ^ nC (aS A) : Nat) : Int)
  · obtain ⟨v, hv, rfl⟩ := nat_of hc
    rw [if_pos hc, cV_V, Int.toNat_natCast]
    by_cases hr : 0 ≤ b ∧ b ≤ 5
    · obtain ⟨p, hp', rfl⟩ := nat_le (n := 5) hr
      rw [if_pos ⟨hc, hr⟩, if_neg (by omega), if_neg (by omega), c_fewS hS hF (by omega) hp', cI_I, Int.toNat_natCast]
      exact w_ok (M1 := M) rfl h kC.rf rfl
    · rw [if_neg (fun z => hr z.2)]
      by_cases h1 : b < 0
      · rw [if_pos h1]
        exact w_x (q := 1) (k := 1) (M1 := thr M) rfl rfl (by omega) h kC.rf rfl
      · rw [if_neg h1, if_pos (by omega)]
        exact w_x (q := 1) (k := 1) (M1 := thr M) rfl rfl (by omega) h kC.rf rfl
  · rw [if_neg hc, if_neg (fun z => hc z.1), cV_X]
    exact w_x (q := 1) (k := 1) (M1 := thr M) rfl rfl (by omega) h kC.rf rfl
theorem m_few (hA : OKA A) (h : MH A M) (a b : Int) : mOut A (ans ((0 ≤ a ∧ a < ((2 ^ nC (aS A) : Nat) : Int)) ∧ 0 ≤ b ∧ b ≤ 5) (fewV (aS A) a.toNat b.toNat)).1 (ans ((0 ≤ a ∧ a < ((2 ^ nC (aS A) : Nat) : Int)) ∧ 0 ≤ b ∧ b ≤ 5) (fewV (aS A) a.toNat b.toNat)).2 M (fn X (d + 3) 295 [rv 59, iv a, iv b] M) := by
  obtain ⟨hF, -⟩ := hA
  have h6 := hF.1
  have hp : 2 ^ nC (aS A) ≤ 2 ^ 6 := Nat.pow_le_pow_right (by omega) h6
  obtain ⟨h0, z0, k0⟩ := m_0 h
  rw [q_295_59]
  generalize puI M 59 0 0 = M1 at *
  have hS := h0.1
  rw [m_isSet hS hF, cI_I]
  unfold ans
  by_cases hc : 0 ≤ a ∧ a < ((2 ^ nC (aS A) : Nat) : Int)
  · obtain ⟨v, hv, rfl⟩ := nat_of hc
    rw [b01_1 _ (decide_eq_true hc), if_neg n10, m_within, cI_I, Int.toNat_natCast]
    by_cases hr : 0 ≤ b ∧ b ≤ 5
    · obtain ⟨p, hp', rfl⟩ := nat_le (n := 5) hr
      rw [if_pos hr, if_neg n10, m_right1 z0, cI_I, if_neg n10, m_fewS hS hF (by omega), if_pos ⟨hc, hr⟩]
      exact ⟨M1, rfl, z0, h0, k0⟩
    · rw [if_neg hr, if_pos rfl, m_right0 z0 (by omega), cI_I, if_pos rfl, if_neg (fun z => hr z.2)]
      exact ⟨_, rfl, puI_eq _ _ _ _, h0.p0 1, k0.pu (by omega) _ _⟩
  · rw [b01_f _ (decide_eq_false hc), if_pos rfl, m_right0 z0 (by omega), cI_I, if_pos rfl, if_neg (fun z => hc z.1)]
    exact ⟨_, rfl, puI_eq _ _ _ _, h0.p0 1, k0.pu (by omega) _ _⟩
end C47
