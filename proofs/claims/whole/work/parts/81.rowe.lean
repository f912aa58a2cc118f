/-! ===== how, next: the class's calls ===== -/
/-- how many sets of beliefs can be had behind a step -/
noncomputable def ub (S : SK) (K : List MK) (c b0 n k : Nat) : Nat := cntR (hadB S K c b0 n k) 64
theorem cntR_le (f : Nat → Bool) : ∀ n, cntR f n ≤ n
  | 0 => Nat.le_refl _
  | n + 1 => by
    have := cntR_le f n
    show cntR f n + (if f n = true then 1 else 0) ≤ n + 1
    split <;> omega
/-- the best step of the first ones, and how many there -/
noncomputable def tlN (S : SK) (K : List MK) (c b0 n : Nat) : Nat → Int × Nat
  | 0 => (-1, 0)
  | k + 1 => if (tlN S K c b0 n k).2 < ub S K c b0 n (k + 1) then (((k + 1 : Nat) : Int), ub S K c b0 n (k + 1)) else tlN S K c b0 n k
theorem tlN_ok {S : SK} {K : List MK} {c b0 n : Nat} : ∀ k, (tlN S K c b0 n k).1 = -1 ∧ (tlN S K c b0 n k).2 = 0 ∨ ∃ j : Nat, 1 ≤ j ∧ j ≤ k ∧ (tlN S K c b0 n k).1 = (j : Int) ∧ (tlN S K c b0 n k).2 = ub S K c b0 n j
  | 0 => Or.inl ⟨rfl, rfl⟩
  | k + 1 => by
    unfold tlN
    split
    · exact Or.inr ⟨k + 1, by omega, Nat.le_refl _, rfl, rfl⟩
    · rcases tlN_ok (S := S) (K := K) (c := c) (b0 := b0) (n := n) k with h | ⟨j, h1, h2, h3⟩
      · exact Or.inl h
      · exact Or.inr ⟨j, h1, by omega, h3⟩
section C81
variable {X : Nat × (Nat → Int32)} {d n : Nat} {M M1 M2 M' : rM} {A A' : AS} {S : SK} {W V : WD} {K : List MK} {c b0 : Nat}
theorem c_unlike (hr : HR S K c b0 n M) (hn : n ≤ 4) {k : Nat} (hk : k ≤ n) : fn X (d + 1) 37 [rv 53, iv (k : Int)] M = oI (ub S K c b0 n k : Int) M := by
  rw [q_37_53]
  refine loop_up (P := fun m s => kb X d 37 m 4 [some (rv 53), some (iv (k : Int)), some (iv (cntR (hadB S K c b0 n k) s : Int)), some (iv (s : Int))] [] M) 64 ?_ ?_ 64 0 FU (by omega) (FU_lt (by omega))
  · intro m s hs
    left
    obtain ⟨w1, w2⟩ := hr.2.2 k hk s hs
    have hl := cntR_le (hadB S K c b0 n k) s
    have e : cntR (hadB S K c b0 n k) (s + 1) = cntR (hadB S K c b0 n k) s + (if hadB S K c b0 n k s = true then 1 else 0) := rfl
    rw [q_37_53_at4, if_pos (by omega), ixw (by omega) hs, gdx (by omega) (by omega), Int.toNat_natCast, wr_succ (by omega), wr_succ (by omega), e]
    by_cases ha : alw S K c b0 k s
    · have hv := w1 ha
      by_cases hw : 0 < wn S K c (n - k) k s
      · rw [if_pos (by omega), if_pos (hadB_iff.2 ⟨ha, hw⟩)]
      · rw [if_neg (by omega), if_neg (fun q => hw (hadB_iff.1 q).2)]
        rfl
    · have hv := w2 ha
      rw [if_neg (by omega), if_neg (fun q => ha (hadB_iff.1 q).1)]
      rfl
  · intro m
    rw [q_37_53_at4, if_neg (by omega)]
    rfl
theorem c_telling (hr : HR S K c b0 n M) (hn : n ≤ 4) : fn X (d + 2) 36 [rv 53] M = oI (tlN S K c b0 n n).1 M := by
  rw [q_36_53]
  refine loop_up (P := fun m k => kb X (d + 1) 36 m 6 [some (rv 53), some (iv (tlN S K c b0 n k).1), some (iv ((tlN S K c b0 n k).2 : Int)), some (iv ((k + 1 : Nat) : Int))] [] M) n ?_ ?_ n 0 FU (by omega) (FU_lt (by omega))
  · intro m k hk
    left
    rw [q_36_53_at6, hr.1, if_neg (by omega), c_unlike hr hn (by omega), cI_I, c_unlike hr hn (by omega), cI_I, wr_succ (by omega)]
    simp only [tlN]
    by_cases hl : (tlN S K c b0 n k).2 < ub S K c b0 n (k + 1)
    · rw [if_pos (by omega), if_pos hl]
    · rw [if_neg (by omega), if_neg hl]
  · intro m
    rw [q_36_53_at6, hr.1, if_pos (by omega)]
noncomputable def howK (A : AS) (a t w : Int) : Nat := if (0 ≤ a ∧ a < (nC (aS A) : Int)) ∧ 0 ≤ w ∧ w ≤ 1 then (if 1 ≤ t ∧ t ≤ 4 then 0 else 2) else 1
noncomputable def howV (A : AS) (a t w : Int) : Int := if w = 0 then (wn (aS A) (aK A) a.toNat t.toNat 0 (aW A (3 + a.toNat)) : Int) else frsV (aS A) (aK A) a.toNat (aW A (3 + a.toNat)) t.toNat
noncomputable def nxtV (A : AS) (a t w : Int) : Int := if w = 0 then (tlN (aS A) (aK A) a.toNat (aW A (3 + a.toNat)) t.toNat t.toNat).1 else ((tlN (aS A) (aK A) a.toNat (aW A (3 + a.toNat)) t.toNat t.toNat).2 : Int)
theorem c_tries4 (t : Int) : fn X (d + 1) 204 [rv 0, iv t] M = if 1 ≤ t ∧ t ≤ 4 then oV M else oX 1 (thr M) := by
  rw [q_204_0]
  by_cases h1 : t < 1
  · rw [if_pos h1, if_neg (by omega)]
  · rw [if_neg h1]
    by_cases h2 : 4 < t
    · rw [if_pos h2, if_neg (by omega)]
    · rw [if_neg h2, if_pos (by omega)]
theorem how_in {a t w : Int} (h1 : 0 ≤ a ∧ a < (nC (aS A) : Int)) (h2 : 0 ≤ w ∧ w ≤ 1) : (1 ≤ t ∧ t ≤ 4 → howK A a t w = 0) ∧ (¬ (1 ≤ t ∧ t ≤ 4) → howK A a t w = 2) := by
  unfold howK
  rw [if_pos ⟨h1, h2⟩]
  exact ⟨fun h => if_pos h, fun h => if_neg h⟩
theorem how_out {a t w : Int} (h : ¬ ((0 ≤ a ∧ a < (nC (aS A) : Int)) ∧ 0 ≤ w ∧ w ≤ 1)) : howK A a t w = 1 := if_neg h
theorem c_how (hA : OKA A) (h : CH A M) (a t w : Int) : wOut A (howK A a t w) (howV A a t w) M (fn X (d + 7) 342 [rv 0, iv a, iv t, iv w, rv 111] M) := by
  have hF := hA.1
  rw [q_342_0_111, q_177_0, c_chkC h.1]
  by_cases h1 : 0 ≤ a ∧ a < (nC (aS A) : Int)
  · rw [if_pos h1, cV_V, c_what]
    by_cases h2 : 0 ≤ w ∧ w ≤ 1
    · rw [if_pos h2, cV_V, c_tries4]
      by_cases h3 : 1 ≤ t ∧ t ≤ 4
      · rw [if_pos h3, cV_V, (how_in h1 h2).1 h3]
        obtain ⟨c, hc, rfl⟩ := nat_of h1
        obtain ⟨n, hn, rfl⟩ := nat_le (a := t) (n := 4) ⟨by omega, h3.2⟩
        have hb := (hA.2.2.1.1.2.2 c hc).1
        obtain ⟨M1, g1, g2, g3⟩ := c_solveR (X := X) (d := d) (n := n) hA h hc ⟨by omega, hn⟩
        have hc1 : CH A M1 := h.sf g3 eC_W
        rw [g1, cV_V, c_manyR hb g2, cI_I, c_firstR hc1.1 hF hb g2 hn (by omega), cI_I]
        refine w_ok (M1 := M1) ?_ hc1 (kC_W g3) g3.1
        unfold howV
        rw [Int.toNat_natCast, Int.toNat_natCast]
        by_cases h4 : w = 0
        · rw [if_pos h4, if_pos h4]
        · rw [if_neg h4, if_neg h4]
      · rw [if_neg h3, cV_X, (how_in h1 h2).2 h3]
        exact w_x (q := 1) (k := 2) (M1 := thr M) rfl rfl (by omega) h kC.rf rfl
    · rw [if_neg h2, cV_X, how_out (fun z => h2 z.2)]
      exact w_x (q := 0) (k := 1) (M1 := thr M) rfl rfl (by omega) h kC.rf rfl
  · rw [if_neg h1, cV_X, how_out (fun z => h1 z.1)]
    exact w_x (q := 0) (k := 1) (M1 := thr M) rfl rfl (by omega) h kC.rf rfl
theorem c_next (hA : OKA A) (h : CH A M) (a t w : Int) : wOut A (howK A a t w) (nxtV A a t w) M (fn X (d + 7) 343 [rv 0, iv a, iv t, iv w, rv 111] M) := by
  have hF := hA.1
  rw [q_343_0_111, q_178_0, c_chkC h.1]
  by_cases h1 : 0 ≤ a ∧ a < (nC (aS A) : Int)
  · rw [if_pos h1, cV_V, c_what]
    by_cases h2 : 0 ≤ w ∧ w ≤ 1
    · rw [if_pos h2, cV_V, c_tries4]
      by_cases h3 : 1 ≤ t ∧ t ≤ 4
      · rw [if_pos h3, cV_V, (how_in h1 h2).1 h3]
        obtain ⟨c, hc, rfl⟩ := nat_of h1
        obtain ⟨n, hn, rfl⟩ := nat_le (a := t) (n := 4) ⟨by omega, h3.2⟩
        have hb := (hA.2.2.1.1.2.2 c hc).1
        obtain ⟨M1, g1, g2, g3⟩ := c_solveR (X := X) (d := d) (n := n) hA h hc ⟨by omega, hn⟩
        have hc1 : CH A M1 := h.sf g3 eC_W
        rw [g1, cV_V, c_telling g2 hn, cI_I]
        refine w_ok (M1 := M1) ?_ hc1 (kC_W g3) g3.1
        unfold nxtV
        rw [Int.toNat_natCast, Int.toNat_natCast]
        by_cases h4 : w = 0
        · rw [if_pos h4, if_pos h4]
        · rw [if_neg h4, if_neg h4]
          rcases tlN_ok (S := aS A) (K := aK A) (c := c) (b0 := aW A (3 + c)) (n := n) n with ⟨e1, e2⟩ | ⟨j, j1, j2, e1, e2⟩
          · rw [e1, e2, if_pos rfl]
            rfl
          · rw [e1, e2, if_neg (by omega), c_unlike g2 hn j2, cI_I]
      · rw [if_neg h3, cV_X, (how_in h1 h2).2 h3]
        exact w_x (q := 1) (k := 2) (M1 := thr M) rfl rfl (by omega) h kC.rf rfl
    · rw [if_neg h2, cV_X, how_out (fun z => h2 z.2)]
      exact w_x (q := 0) (k := 1) (M1 := thr M) rfl rfl (by omega) h kC.rf rfl
  · rw [if_neg h1, cV_X, how_out (fun z => h1 z.1)]
    exact w_x (q := 0) (k := 1) (M1 := thr M) rfl rfl (by omega) h kC.rf rfl
end C81
