/-! ===== next, the model's side ===== -/
theorem tb_and1 {v : Int64} {b i : Nat} (hb : b < 64) (hi : i < 64) : tb (jshr v (b : Int) &&& Int64.ofNat 1) i = (decide (i = 0) && tb v b) := by
  rw [tb_and]
  unfold tb
  rw [jshr_df, Int64.toBitVec_shiftRight, jsc b hb, BitVec.sshiftRight_eq', bv64 hb]
  have : (Int64.ofNat 1).toBitVec = 1#64 := rfl
  rw [this, BitVec.getLsbD_one]
  by_cases h : i = 0
  · subst h
    rw [BitVec.getLsbD_sshiftRight, Nat.add_zero, if_pos hb]
    simp
  · simp [h]
theorem tb_one {i : Nat} : tb (Int64.ofNat 1) i = decide (i = 0) := by
  unfold tb
  have : (Int64.ofNat 1).toBitVec = 1#64 := rfl
  rw [this, BitVec.getLsbD_one]
  simp
theorem tb_test1 {v : Int64} {b : Nat} (hb : b < 64) : jcmp (jshr v (b : Int) &&& Int64.ofNat 1) (Int64.ofNat 1) = 0 ↔ tb v b = true := by
  rw [jcmp_eq]
  constructor
  · intro h
    have := tb_and1 (v := v) hb (show 0 < 64 by omega)
    rw [h, tb_one] at this
    simpa using this.symm
  · intro h
    apply tb_ne
    intro i hi
    rw [tb_and1 hb hi, tb_one, h, Bool.and_true]
section C83
variable {X : Nat × (Nat → Int32)} {d n : Nat} {M M1 M2 M' : rM} {A A' : AS} {S : SK} {W V : WD} {K : List MK} {c b0 : Nat}
/-- what the first rows had, by step -/
def SM (S : SK) (K : List MK) (c b0 n r : Nat) (M : rM) : Prop := ∀ k, 1 ≤ k → k ≤ n → ∀ s, s < 64 → (tb (M.2.2 107 k) s = true ↔ ∃ q, q < r ∧ vd S K c b0 n q = true ∧ en S b0 k (q / nT S ^ (n - k)) = s)
theorem m_zeroS {w : Int} (hn : n ≤ 4) (g : Nat) : ∃ M', kb X d 306 (g + 5) 35 [some (rv 59), some (iv (c : Int)), some (iv (n : Int)), some (iv w), some (iv 1), none, none, none, none] [] M = kb X d 306 g 58 [some (rv 59), some (iv (c : Int)), some (iv (n : Int)), some (iv w), some (iv 0), none, none, none, none] [] M' ∧ (∀ k, 1 ≤ k → k ≤ 4 → M'.2.2 107 k = Int64.ofNat 0) ∧ sf PT M M' ∧ M'.2.1 = M.2.1 := by
  have e2 : wr ((1 : Int) + 1) = 2 := wri (by omega) (by omega)
  have e3 : wr ((2 : Int) + 1) = 3 := wri (by omega) (by omega)
  have e4 : wr ((3 : Int) + 1) = 4 := wri (by omega) (by omega)
  have e5 : wr ((4 : Int) + 1) = 5 := wri (by omega) (by omega)
  have p : ∀ j, PT 107 j = true := fun j => by simp [PT]
  rw [show g + 5 = (((((g + 1) + 1) + 1) + 1) + 1) from rfl, q_306_59_at35, if_neg (by omega), gdx (by omega) (by omega), e2, q_306_59_at35, if_neg (by omega), gdx (by omega) (by omega), e3, q_306_59_at35, if_neg (by omega), gdx (by omega) (by omega), e4, q_306_59_at35, if_neg (by omega), gdx (by omega) (by omega), e5, q_306_59_at35, if_pos (by omega)]
  refine ⟨_, rfl, fun k h1 h2 => ?_, (((sf.rf.pj (p _) _).pj (p _) _).pj (p _) _).pj (p _) _, rfl⟩
  have : k = 1 ∨ k = 2 ∨ k = 3 ∨ k = 4 := by omega
  rcases this with rfl | rfl | rfl | rfl
  · show (puJ (puJ (puJ (puJ M 107 1 (Int64.ofNat 0)) 107 2 (Int64.ofNat 0)) 107 3 (Int64.ofNat 0)) 107 4 (Int64.ofNat 0)).2.2 107 1 = _
    rw [puJ_nj (by omega), puJ_nj (by omega), puJ_nj (by omega), puJ_eq]
  · show (puJ (puJ (puJ (puJ M 107 1 (Int64.ofNat 0)) 107 2 (Int64.ofNat 0)) 107 3 (Int64.ofNat 0)) 107 4 (Int64.ofNat 0)).2.2 107 2 = _
    rw [puJ_nj (by omega), puJ_nj (by omega), puJ_eq]
  · show (puJ (puJ (puJ (puJ M 107 1 (Int64.ofNat 0)) 107 2 (Int64.ofNat 0)) 107 3 (Int64.ofNat 0)) 107 4 (Int64.ofNat 0)).2.2 107 3 = _
    rw [puJ_nj (by omega), puJ_eq]
  · show (puJ (puJ (puJ (puJ M 107 1 (Int64.ofNat 0)) 107 2 (Int64.ofNat 0)) 107 3 (Int64.ofNat 0)) 107 4 (Int64.ofNat 0)).2.2 107 4 = _
    rw [puJ_eq]
/-- a right row is added -/
theorem m_addS {w : Int} (hF : WF S) (hT : 0 < nT S) (hb : b0 ≤ 63) (hn : n ≤ 4) {r : Nat} (hr : r < 10000) (hv : vd S K c b0 n r = true) (h105 : ∀ k, k ≤ n → M.2.1 105 k = (en S b0 k (r / nT S ^ (n - k)) : Int)) (hs : SM S K c b0 n r M) : ∀ (j i g : Nat) (M1 : rM), i + j = n → (∀ k, 1 ≤ k → k ≤ n → ∀ s, s < 64 → (tb (M1.2.2 107 k) s = true ↔ (∃ q, q < r ∧ vd S K c b0 n q = true ∧ en S b0 k (q / nT S ^ (n - k)) = s) ∨ (k ≤ i ∧ en S b0 k (r / nT S ^ (n - k)) = s))) → M1.2.1 = M.2.1 → sf PT M M1 → ∃ M', kb X d 306 (g + j + 1) 88 [some (rv 59), some (iv (c : Int)), some (iv (n : Int)), some (iv w), some (iv (r : Int)), some (iv ((i + 1 : Nat) : Int)), none, none, none] [] M1 = kb X d 306 g 58 [some (rv 59), some (iv (c : Int)), some (iv (n : Int)), some (iv w), some (iv ((r + 1 : Nat) : Int)), none, none, none, none] [] M' ∧ SM S K c b0 n (r + 1) M' ∧ sf PT M M'
  | 0, i, g, M1, hi, hm, he, hf => by
    rw [show g + 0 + 1 = g + 1 from rfl, q_306_59_at88, if_pos (by omega), wr_succ (by omega)]
    refine ⟨M1, rfl, fun k h1 h2 s hs' => ?_, hf⟩
    rw [hm k h1 h2 s hs']
    constructor
    · rintro (⟨q, q1, q2, q3⟩ | ⟨-, q3⟩)
      · exact ⟨q, by omega, q2, q3⟩
      · exact ⟨r, by omega, hv, q3⟩
    · rintro ⟨q, q1, q2, q3⟩
      by_cases e : q = r
      · subst e
        exact Or.inr ⟨by omega, q3⟩
      · exact Or.inl ⟨q, by omega, q2, q3⟩
  | j + 1, i, g, M1, hi, hm, he, hf => by
    have hbe := en_le hF hb hT (i + 1) (r / nT S ^ (n - (i + 1)))
    rw [show g + (j + 1) + 1 = (g + j + 1) + 1 by omega, q_306_59_at88, if_neg (by omega), gdx (by omega) (by omega), gdx (by omega) (by omega), gdx (by omega) (by omega), Int.toNat_natCast, he, h105 (i + 1) (by omega), wr_succ (by omega)]
    refine m_addS hF hT hb hn hr hv h105 hs j (i + 1) g _ (by omega) (fun k h1 h2 s hs' => ?_) he (hf.pj (k := 107) (by simp [PT]) _)
    by_cases e : k = i + 1
    · subst e
      rw [puJ_eq, tb_set (by omega) hs', Bool.or_eq_true, decide_eq_true_eq, hm _ h1 h2 s hs']
      constructor
      · rintro ((q | ⟨q1, -⟩) | q)
        · exact Or.inl q
        · omega
        · exact Or.inr ⟨Nat.le_refl _, q.symm⟩
      · rintro (q | ⟨-, q⟩)
        · exact Or.inl (Or.inl q)
        · exact Or.inr q.symm
    · rw [puJ_nj e, hm k h1 h2 s hs']
      constructor
      · rintro (q | ⟨q1, q2⟩)
        · exact Or.inl q
        · exact Or.inr ⟨by omega, q2⟩
      · rintro (q | ⟨q1, q2⟩)
        · exact Or.inl q
        · exact Or.inr ⟨by omega, q2⟩
/-- the step that tells -/
theorem m_telling (hn : n ≤ 4) {w : Int} (hw : 0 ≤ w ∧ w ≤ 1) (hs : ∀ k, 1 ≤ k → k ≤ n → ∀ s, s < 64 → tb (M.2.2 107 k) s = hadB S K c b0 n k s) {g : Nat} (hg : 1000 ≤ g) : kb X d 306 g 134 [some (rv 59), none, some (iv (n : Int)), some (iv w), some (iv (-1)), some (iv 0), some (iv 1), none, none] [] M = oI (if w = 0 then (tlN S K c b0 n n).1 else ((tlN S K c b0 n n).2 : Int)) M := by
  refine loop_g (σ := Unit) (fun _ _ => True) (fun m k _ => kb X d 306 m 134 [some (rv 59), none, some (iv (n : Int)), some (iv w), some (iv (tlN S K c b0 n k).1), some (iv ((tlN S K c b0 n k).2 : Int)), some (iv ((k + 1 : Nat) : Int)), none, none] [] M) (fun r => r = oI (if w = 0 then (tlN S K c b0 n n).1 else ((tlN S K c b0 n n).2 : Int)) M) n 66 ?_ ?_ n 0 g () (by omega) (by omega) trivial
  · intro g k _ hk _
    left
    refine ⟨g, (), Nat.le_refl _, ?_, trivial⟩
    rw [show g + 66 = (g + 65) + 1 by omega, q_306_59_at134, if_neg (by omega)]
    have inner : ∀ (j i : Nat), i + j = 64 → kb X d 306 (g + j + 1) 146 [some (rv 59), none, some (iv (n : Int)), some (iv w), some (iv (tlN S K c b0 n k).1), some (iv ((tlN S K c b0 n k).2 : Int)), some (iv ((k + 1 : Nat) : Int)), some (iv (cntR (hadB S K c b0 n (k + 1)) i : Int)), some (iv (i : Int))] [] M = kb X d 306 g 134 [some (rv 59), none, some (iv (n : Int)), some (iv w), some (iv (tlN S K c b0 n (k + 1)).1), some (iv ((tlN S K c b0 n (k + 1)).2 : Int)), some (iv ((k + 1 + 1 : Nat) : Int)), none, none] [] M := by
      intro j
      induction j with
      | zero =>
        intro i hi
        have : i = 64 := by omega
        subst this
        rw [show g + 0 + 1 = g + 1 from rfl, q_306_59_at146, if_neg (by omega), wr_succ (by omega)]
        simp only [tlN]
        have eu : cntR (hadB S K c b0 n (k + 1)) 64 = ub S K c b0 n (k + 1) := rfl
        rw [eu]
        by_cases hl : (tlN S K c b0 n k).2 < ub S K c b0 n (k + 1)
        · rw [if_pos (by omega), if_pos hl]
        · rw [if_neg (by omega), if_neg hl]
      | succ j ih =>
        intro i hi
        have hl := cntR_le (hadB S K c b0 n (k + 1)) i
        have e : cntR (hadB S K c b0 n (k + 1)) (i + 1) = cntR (hadB S K c b0 n (k + 1)) i + (if hadB S K c b0 n (k + 1) i = true then 1 else 0) := rfl
        have e0 : wr ((cntR (hadB S K c b0 n (k + 1)) i : Int) + 0) = (cntR (hadB S K c b0 n (k + 1)) i : Int) := by
          rw [wri (by omega) (by omega)]
          omega
        have ih := ih (i + 1) (by omega)
        rw [e, ← hs (k + 1) (by omega) (by omega) i (by omega)] at ih
        rw [show g + (j + 1) + 1 = (g + j + 1) + 1 by omega, q_306_59_at146, if_pos (by omega), gdx (by omega) (by omega), Int.toNat_natCast, wr_succ (by omega), wr_succ (by omega), e0]
        by_cases hx : tb (M.2.2 107 (k + 1)) i = true
        · rw [if_pos hx] at ih
          rw [if_pos ((tb_test1 (by omega)).2 hx)]
          exact ih
        · rw [if_neg hx] at ih
          rw [if_neg (fun q => hx ((tb_test1 (by omega)).1 q))]
          exact ih
    exact inner 64 0 (by omega)
  · intro g _ _
    rw [q_306_59_at134, if_pos (by omega)]
    by_cases h0 : w = 0
    · rw [if_pos h0, if_pos h0]
    · rw [if_neg h0, if_neg h0]
theorem m_next (hA : OKA A) (h : MH A M) (a t w : Int) : mOut A (howK A a t w) (if howK A a t w = 0 then nxtV A a t w else 0) M (fn X (d + 5) 306 [rv 59, iv a, iv t, iv w] M) := by
  have hF := hA.1
  have h8 := hF.2.1
  obtain ⟨h0, z0, k0⟩ := m_0 h
  rw [q_306_59]
  generalize puI M 59 0 0 = M0 at *
  rw [m_cre h0.1 z0]
  by_cases h1 : 0 ≤ a ∧ a < (nC (aS A) : Int)
  · rw [if_pos h1, cI_I, if_neg n10, m_what z0]
    by_cases h2 : 0 ≤ w ∧ w ≤ 1
    · rw [if_pos h2, cI_I, if_neg n10, m_tries4 z0]
      by_cases h3 : 1 ≤ t ∧ t ≤ 4
      · rw [if_pos h3, cI_I, if_neg n10]
        simp only [(how_in (A := A) h1 h2).1 h3]
        rw [if_pos True.intro]
        obtain ⟨c, hc, rfl⟩ := nat_of h1
        obtain ⟨n, hn, rfl⟩ := nat_le (a := t) (n := 4) ⟨by omega, h3.2⟩
        have hb := (hA.2.2.1.1.2.2 c hc).1
        have hp8 := pow8 (S := aS A) hF hn
        unfold nxtV
        rw [Int.toNat_natCast, Int.toNat_natCast]
        obtain ⟨f0, hf0⟩ : ∃ f, FU = f + 5 := ⟨FU - 5, by have := FU_ge; omega⟩
        have hf1 : 100000 ≤ f0 := by have := FU_ge; omega
        obtain ⟨M1, y1, y2, y3, y4⟩ := m_zeroS (X := X) (d := d + 4) (M := M0) (c := c) (n := n) (w := w) hn f0
        rw [hf0, y1]
        refine loop_g (σ := rM) (fun r M2 => SM (aS A) (aK A) c (aW A (3 + c)) n r M2 ∧ sf PT M0 M2) (fun m r M2 => kb X (d + 4) 306 (m + 1000) 58 [some (rv 59), some (iv (c : Int)), some (iv (n : Int)), some (iv w), some (iv (r : Int)), none, none, none, none] [] M2) (fun z => mOut A 0 (if w = 0 then (tlN (aS A) (aK A) c (aW A (3 + c)) n n).1 else ((tlN (aS A) (aK A) c (aW A (3 + c)) n n).2 : Int)) M z) (nT (aS A) ^ n) 6 ?_ ?_ (nT (aS A) ^ n) 0 (f0 - 1000) M1 (by omega) (by omega) ⟨fun k k1 k2 s hs => ?_, y3⟩ |> fun z => by
          rw [show f0 - 1000 + 1000 = f0 by omega] at z
          exact z
        · rintro g r M2 hr ⟨i1, i2⟩
          left
          have hm2 : MH A M2 := h0.sf i2 eM_T
          have hT : 0 < nT (aS A) := by
            apply Classical.byContradiction
            intro hx
            have : nT (aS A) = 0 := by omega
            rw [this, Nat.zero_pow (by omega)] at hr
            omega
          obtain ⟨M3, g1, g2, g3, g4⟩ := m_isMarked (X := X) (d := d + 1) hF hT hm2.1 hm2.2.1 hA.2.2.2.2.1 hb hc ⟨by omega, hn⟩ (r := r) (by omega)
          have i3 : SM (aS A) (aK A) c (aW A (3 + c)) n r M3 := fun k k1 k2 s hs => by
            rw [g4]
            exact i1 k k1 k2 s hs
          rw [show g + 6 + 1000 = (g + 1000 + (5 - n) + n) + 1 by omega, q_306_59_at58, hm2.1.2.1, m_power hF hn, cI_I, if_pos (show (r : Int) < ((nT (aS A) ^ n : Nat) : Int) by omega), g1, cI_I]
          cases hv : vd (aS A) (aK A) c (aW A (3 + c)) n r with
          | false =>
            rw [if_pos (show b01 false = 0 from rfl), wr_succ (by omega)]
            refine ⟨g + (5 - n) + n, M3, by omega, by rw [show g + (5 - n) + n + 1000 = g + 1000 + (5 - n) + n by omega], fun k k1 k2 s hs => ?_, i2.tr g3⟩
            rw [i3 k k1 k2 s hs]
            constructor
            · rintro ⟨q, q1, q2⟩
              exact ⟨q, by omega, q2⟩
            · rintro ⟨q, q1, q2, q3⟩
              by_cases e : q = r
              · rw [e, hv] at q2
                cases q2
              · exact ⟨q, by omega, q2, q3⟩
          | true =>
            rw [if_neg (show ¬ b01 true = 0 by decide)]
            obtain ⟨M4, e1, e2, e3⟩ := m_addS (X := X) (d := d + 4) (w := w) hF hT hb hn (r := r) (by omega) hv g2.2 i3 n 0 (g + 1000 + (4 - n)) M3 (by omega) (fun k k1 k2 s hs => by
              rw [i3 k k1 k2 s hs]
              constructor
              · exact fun q => Or.inl q
              · rintro (q | ⟨q, -⟩)
                · exact q
                · omega) rfl sf.rf
            have e1 : kb X (d + 4) 306 (g + 1000 + (4 - n) + n + 1) 88 [some (rv 59), some (iv (c : Int)), some (iv (n : Int)), some (iv w), some (iv (r : Int)), some (iv 1), none, none, none] [] M3 = _ := e1
            rw [show g + 1000 + (5 - n) + n = g + 1000 + (4 - n) + n + 1 by omega, e1]
            exact ⟨g + (4 - n), M4, by omega, by rw [show g + (4 - n) + 1000 = g + 1000 + (4 - n) by omega], e2, (i2.tr g3).tr e3⟩
        · rintro g M2 ⟨i1, i2⟩
          have hm2 : MH A M2 := h0.sf i2 eM_T
          rw [show g + 1 + 1000 = (g + 1000) + 1 by omega, q_306_59_at58, hm2.1.2.1, m_power hF hn, cI_I, if_neg (show ¬ ((nT (aS A) ^ n : Nat) : Int) < ((nT (aS A) ^ n : Nat) : Int) by omega)]
          have z2 : M2.2.1 59 0 = ((0 : Nat) : Int) := ((i2.2 59 0 (by decide)).1).trans z0
          rw [m_telling (S := aS A) (K := aK A) (c := c) (b0 := aW A (3 + c)) hn h2 (fun k k1 k2 s hs => ?_) (by omega)]
          · exact ⟨M2, rfl, z2, hm2, k0.tr (kM_T i2)⟩
          · have hi : tb (M2.2.2 107 k) s = true ↔ hadB (aS A) (aK A) c (aW A (3 + c)) n k s = true := by
              rw [i1 k k1 k2 s hs, hadB_iff]
              by_cases hT : 0 < nT (aS A)
              · exact had_iff hT k2
              · have h00 : nT (aS A) = 0 := by omega
                constructor
                · rintro ⟨q, q1, -⟩
                  rw [h00, Nat.zero_pow (by omega)] at q1
                  omega
                · rintro ⟨⟨r, r1, -⟩, -⟩
                  rw [h00, Nat.zero_pow (by omega)] at r1
                  omega
            cases hx : tb (M2.2.2 107 k) s with
            | true => exact (hi.1 hx).symm
            | false =>
              cases hy : hadB (aS A) (aK A) c (aW A (3 + c)) n k s with
              | false => rfl
              | true =>
                rw [hi.2 hy] at hx
                cases hx
        · rw [y2 k k1 (by omega), tb_0]
          exact ⟨fun q => (by cases q), fun ⟨q, q1, _⟩ => absurd q1 (Nat.not_lt_zero q)⟩
      · rw [if_neg h3, cI_I, if_pos (show (0 : Int) = 0 from rfl)]
        simp only [(how_in (A := A) h1 h2).2 h3]
        exact ⟨_, rfl, puI_eq _ _ _ _, h0.p0 2, k0.pu (by omega) _ _⟩
    · rw [if_neg h2, cI_I, if_pos (show (0 : Int) = 0 from rfl)]
      simp only [how_out (A := A) (t := t) (fun z => h2 z.2 : ¬ ((0 ≤ a ∧ a < (nC (aS A) : Int)) ∧ 0 ≤ w ∧ w ≤ 1))]
      exact ⟨_, rfl, puI_eq _ _ _ _, h0.p0 1, k0.pu (by omega) _ _⟩
  · rw [if_neg h1, cI_I, if_pos (show (0 : Int) = 0 from rfl)]
    simp only [how_out (A := A) (t := t) (fun z => h1 z.1 : ¬ ((0 ≤ a ∧ a < (nC (aS A) : Int)) ∧ 0 ≤ w ∧ w ≤ 1))]
    exact ⟨_, rfl, puI_eq _ _ _ _, h0.p0 1, k0.pu (by omega) _ _⟩
end C83
