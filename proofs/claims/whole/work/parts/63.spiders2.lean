/-! ===== spiders: all of them ===== -/
noncomputable def spN (S : SK) : Nat → Int × WD → Int × WD
  | 0, z => z
  | k + 1, z => spD S (spN S k z)
theorem WW_spN {S : SK} (hF : WF S) {z : Int × WD} (h : WW S z.2) : ∀ k, WW S (spN S k z).2 ∧ (spN S k z).2 1 = z.2 1 + k
  | 0 => ⟨h, rfl⟩
  | k + 1 => by
    obtain ⟨h1, h2⟩ := WW_spN hF h k
    obtain ⟨h3, h4⟩ := WW_sp hF h1
    exact ⟨h3, by show (spD S (spN S k z)).2 1 = _; rw [h4, h2]; omega⟩
/-- seed, caught, stolen, most coins -/
noncomputable def spG (S : SK) (W : WD) (s : Int) : Nat → Int × Nat × Nat × Nat
  | 0 => (s, 0, 0, 0)
  | k + 1 => ((spN S 6 ((spG S W s k).1, W)).1, (spG S W s k).2.1 + pc (fates S (spN S 6 ((spG S W s k).1, W)).2 1), (spG S W s k).2.2.1 + pc (fates S (spN S 6 ((spG S W s k).1, W)).2 2), max (spG S W s k).2.2.2 ((spN S 6 ((spG S W s k).1, W)).2 0))
theorem spG_le {S : SK} {W : WD} {s : Int} : ∀ k, (spG S W s k).2.1 ≤ 10 * k ∧ (spG S W s k).2.2.1 ≤ 10 * k
  | 0 => ⟨Nat.le_refl _, Nat.le_refl _⟩
  | k + 1 => by
    obtain ⟨h1, h2⟩ := spG_le (S := S) (W := W) (s := s) k
    have h3 := pcN_le (fates S (spN S 6 ((spG S W s k).1, W)).2 1) 10
    have h4 := pcN_le (fates S (spN S 6 ((spG S W s k).1, W)).2 2) 10
    unfold spG
    dsimp only
    unfold pc
    omega
noncomputable def spiV (A : AS) (s m w : Int) : Int := if w = 0 then ((spG (aS A) (aW A) s m.toNat).2.1 : Int) else if w = 1 then ((spG (aS A) (aW A) s m.toNat).2.2.1 : Int) else ((spG (aS A) (aW A) s m.toNat).2.2.2 : Int)
def spiK (m w : Int) : Nat := if 0 ≤ w ∧ w ≤ 2 then (if 0 ≤ m ∧ m ≤ 30 then 0 else 2) else 1
section C63
variable {X : Nat × (Nat → Int32)} {d n : Nat} {M M1 M2 M' : rM} {A A' : AS} {S : SK} {W V : WD}
theorem c_fork2 (h : CH A M) : ∃ M', fn X (d + 1) 92 [rv 57, rv 34] M = oV M' ∧ CW (57 + 1) 0 (nC (aS A)) (aW A) M' ∧ sf (Pst 57) M M' := by
  rw [q_92_57_34]
  have f : sf (Pst 57) M (puA M 58 (va_cpy (M.2.1 35) (M.2.1 58) 0 0 27)) := ⟨rfl, fun k j z => ⟨by
    rw [puA_k]
    unfold Pst at z
    simp only [Bool.or_eq_false_iff, beq_eq_false_iff_ne] at z
    omega, rfl⟩⟩
  refine ⟨_, rfl, fun j hj => ?_, f⟩
  have := cl_lt hj
  rw [show 57 + 1 = 58 from rfl, puA_eq, cpy0 (by omega)]
  exact h.W j hj
theorem c_spider (hA : OKA A) (h : CH A M) {s : Int} (hs : M.2.1 56 3 = s) : ∃ M', fn X (d + 5) 7 [rv 56] M = oV M' ∧ M'.2.1 56 3 = (spN (aS A) 6 (s, aW A)).1 ∧ CW (57 + 1) 0 (nC (aS A)) (spN (aS A) 6 (s, aW A)).2 M' ∧ CH A M' ∧ kC M M' ∧ M'.1 = M.1 := by
  obtain ⟨hF, hR, hV, hP, -⟩ := hA
  obtain ⟨M1, g1, g2, g3⟩ := c_fork2 (X := X) (d := d + 3) h
  rw [q_7_56, g1, cV_V]
  refine loop_st (σ := rM) (fun c M2 => M2.2.1 56 3 = (spN (aS A) c (s, aW A)).1 ∧ CW (57 + 1) 0 (nC (aS A)) (spN (aS A) c (s, aW A)).2 M2 ∧ CH A M2 ∧ kC M M2 ∧ M2.1 = M.1) (fun n c M2 => kb X (d + 4) 7 n 13 [some (rv 56), some (iv (c : Int)), none, none] [] M2) (fun r => ∃ M', r = oV M' ∧ M'.2.1 56 3 = (spN (aS A) 6 (s, aW A)).1 ∧ CW (57 + 1) 0 (nC (aS A)) (spN (aS A) 6 (s, aW A)).2 M' ∧ CH A M' ∧ kC M M' ∧ M'.1 = M.1) 6 ?_ ?_ 6 0 FU M1 (by omega) (FU_lt (by omega)) ⟨by rw [(g3.2 56 3 (by simp [Pst])).1]; exact hs, g2, h.sf g3 eC_57, kC_57 g3, g3.1⟩
  · rintro n c M2 hc ⟨i1, i2, i3, i4, i5⟩
    left
    obtain ⟨w1, w2⟩ := WW_spN hF (z := (s, aW A)) hV.1 c
    have hd := hV.2
    obtain ⟨M3, t1, t2, t3, t4, t5, t6⟩ := c_spD (X := X) (d := d) (n := n) hF hR i3 i1 i2 w1 (by rw [w2]; dsimp only; omega) hc
    exact ⟨M3, t1, t2, t3, t4, i4.tr t5, t6.trans i5⟩
  · rintro n M2 ⟨i1, i2, i3, i4, i5⟩
    rw [q_7_56_at13, if_neg (by omega)]
    exact ⟨M2, rfl, i1, i2, i3, i4, i5⟩
theorem c_spiS (hA : OKA A) (h : CH A M) {s w : Int} {m : Nat} (hm : m ≤ 30) (hw : 0 ≤ w ∧ w ≤ 2) : ∃ M', fn X (d + 6) 6 [rv 56, iv s, iv (m : Int), iv w] M = oI (spiV A s (m : Int) w) M' ∧ CH A M' ∧ kC M M' ∧ M'.1 = M.1 := by
  have hF := hA.1
  rw [q_6_56]
  refine loop_st (σ := rM) (fun c M2 => M2.2.1 56 3 = (spG (aS A) (aW A) s c).1 ∧ CH A M2 ∧ kC M M2 ∧ M2.1 = M.1) (fun n c M2 => kb X (d + 5) 6 n 14 [some (rv 56), none, some (iv (m : Int)), some (iv w), some (iv ((if w = 0 then (spG (aS A) (aW A) s c).2.1 else (spG (aS A) (aW A) s c).2.2.1 : Nat) : Int)), some (iv ((spG (aS A) (aW A) s c).2.2.2 : Int)), some (iv (c : Int))] [] M2) (fun r => ∃ M', r = oI (spiV A s (m : Int) w) M' ∧ CH A M' ∧ kC M M' ∧ M'.1 = M.1) m ?_ ?_ m 0 FU (puI M 56 3 s) (by omega) (FU_lt (by omega)) ⟨puI_eq _ _ _ _, h.sd s, kC.rf.pu (by omega) _ _, rfl⟩ |> fun h => by
    have e : (if w = 0 then (spG (aS A) (aW A) s 0).2.1 else (spG (aS A) (aW A) s 0).2.2.1 : Nat) = 0 := by
      unfold spG
      exact ite_self _
    rw [e] at h
    exact h
  · rintro n c M2 hc ⟨i1, i2, i3, i4⟩
    left
    obtain ⟨l1, l2⟩ := spG_le (S := aS A) (W := aW A) (s := s) c
    obtain ⟨M3, t1, t2, t3, t4, t5, t6⟩ := c_spider (X := X) (d := d) hA i2 i1
    have b1 := c_bits (X := X) (d := d + 3) hs57 t4.1 hF t3 1
    have b1 : fn X (d + 5) 105 [rv 57, iv 1] M3 = _ := b1
    have b2 := c_bits (X := X) (d := d + 3) hs57 t4.1 hF t3 2
    have b2 : fn X (d + 5) 105 [rv 57, iv 2] M3 = _ := b2
    have hp1 := pcN_le (fates (aS A) (spN (aS A) 6 ((spG (aS A) (aW A) s c).1, aW A)).2 1) 10
    have hp2 := pcN_le (fates (aS A) (spN (aS A) 6 ((spG (aS A) (aW A) s c).1, aW A)).2 2) 10
    have hp1 : pc (fates (aS A) (spN (aS A) 6 ((spG (aS A) (aW A) s c).1, aW A)).2 1) ≤ 10 := hp1
    have hp2 : pc (fates (aS A) (spN (aS A) 6 ((spG (aS A) (aW A) s c).1, aW A)).2 2) ≤ 10 := hp2
    have f1 := fates_lt (W := (spN (aS A) 6 ((spG (aS A) (aW A) s c).1, aW A)).2) hF 1
    have f2 := fates_lt (W := (spN (aS A) 6 ((spG (aS A) (aW A) s c).1, aW A)).2) hF 2
    rw [q_6_56_at14, if_pos (show (c : Int) < (m : Int) by omega), t1, cV_V]
    refine ⟨M3, ?_, t2, t4, i3.tr t5, t6.trans i4⟩
    have ex : ∀ a b : Nat, max (a : Int) (b : Int) = ((max a b : Nat) : Int) := fun a b => by omega
    by_cases hw0 : w = 0
    · rw [if_pos hw0, if_pos hw0, if_pos hw0, b1, cI_I, c_bc (by omega), cI_I, c_coins hs57 t3, cI_I, wr_succ (by omega), wri (by omega) (by omega), ← Int.natCast_add, ex]
      rfl
    · rw [if_neg hw0, if_neg hw0, if_neg hw0, b2, cI_I, c_bc (by omega), cI_I, c_coins hs57 t3, cI_I, wr_succ (by omega), wri (by omega) (by omega), ← Int.natCast_add, ex]
      rfl
  · rintro n M2 ⟨i1, i2, i3, i4⟩
    rw [q_6_56_at14, if_neg (by omega)]
    refine ⟨M2, ?_, i2, i3, i4⟩
    unfold spiV
    rw [Int.toNat_natCast]
    by_cases h2 : w = 2
    · rw [if_pos h2, if_neg (show ¬ w = 0 by omega), if_neg (show ¬ w = 1 by omega)]
    · rw [if_neg h2]
      by_cases h0 : w = 0
      · rw [if_pos h0, if_pos h0]
      · rw [if_neg h0, if_neg h0, if_pos (show w = 1 by omega)]
theorem c_spiders (hA : OKA A) (h : CH A M) (s m w : Int) : wOut A (spiK m w) (spiV A s m w) M (fn X (d + 8) 345 [rv 0, iv s, iv m, iv w, rv 111] M) := by
  rw [q_345_0_111, q_180_0, c_what]
  unfold spiK
  by_cases h1 : 0 ≤ w ∧ w ≤ 2
  · rw [if_pos h1, if_pos h1, cV_V]
    by_cases h2 : 0 ≤ m ∧ m ≤ 30
    · obtain ⟨k, hk, rfl⟩ := nat_le (n := 30) h2
      obtain ⟨M1, g1, g2, g3, g4⟩ := c_spiS (X := X) (d := d) (s := s) hA h hk h1
      rw [if_pos h2, if_neg (by omega), if_neg (by omega), g1, cI_I]
      exact w_ok (M1 := M1) rfl g2 g3 g4
    · rw [if_neg h2]
      by_cases h3 : m < 0
      · rw [if_pos h3]
        exact w_x (q := 1) (k := 2) (M1 := thr M) rfl rfl (by omega) h kC.rf rfl
      · rw [if_neg h3, if_pos (by omega)]
        exact w_x (q := 1) (k := 2) (M1 := thr M) rfl rfl (by omega) h kC.rf rfl
  · rw [if_neg h1, if_neg h1, cV_X]
    exact w_x (q := 0) (k := 1) (M1 := thr M) rfl rfl (by omega) h kC.rf rfl
/-! the model's -/
def PS (k j : Nat) : Bool := PM 27 k j || (k == 59 && j == 81)
theorem eM_S : ∀ k j, eM k j = true → PS k j = false := by
  intro k j z
  unfold PS
  rw [eM_27 k j z, Bool.false_or]
  unfold eM at z
  simp only [Bool.or_eq_true, Bool.and_eq_true, beq_iff_eq, decide_eq_true_eq] at z
  simp only [Bool.and_eq_false_iff, beq_eq_false_iff_ne]
  omega
theorem PS_27 : ∀ k j, PS k j = false → PM 27 k j = false := by
  intro k j z
  unfold PS at z
  rw [Bool.or_eq_false_iff] at z
  exact z.1
theorem kM_S (f : sf PS M M') : kM M M' := kM.sf f (fun k j hk => by
  unfold PS PM
  simp only [Bool.or_eq_false_iff, Bool.and_eq_false_iff, beq_eq_false_iff_ne, decide_eq_false_iff_not]
  omega)
theorem MW.sd (hW : MW 91 27 n W M) (x : Int) : MW 91 27 n W (puI M 59 81 x) := hW.fr (fun j _ _ => puI_ne (by omega))
theorem m_spD (hF : WF (aS A)) (hR : WR (aS A)) (h : MH A M) {z : Int × WD} (hs : M.2.1 59 81 = z.1) (hW : MW 91 27 (nC (aS A)) z.2 M) (hV : WW (aS A) z.2) (hd : z.2 1 ≤ 99999) {c : Nat} (hc : c < 6) : ∃ M', kb X (d + 4) 310 (n + 1) 6 [some (rv 59), some (iv (c : Int)), none, none] [] M = kb X (d + 4) 310 n 6 [some (rv 59), some (iv ((c + 1 : Nat) : Int)), none, none] [] M' ∧ M'.2.1 59 81 = (spD (aS A) z).1 ∧ MW 91 27 (nC (aS A)) (spD (aS A) z).2 M' ∧ sf PS M M' := by
  have h6 := hF.1
  have h8 := hF.2.1
  have day : ∀ (M1 : rM) (s : Int) (V : WD), MH A M1 → M1.2.1 59 81 = s → MW 91 27 (nC (aS A)) V M1 → WW (aS A) V → V 1 ≤ 99999 → sf PS M M1 → ∃ M', cV (fn X (d + 4) 261 [rv 59, iv 27] M1) (fun M15 => kb X (d + 4) 310 n 6 [some (rv 59), some (iv (wr ((c : Int) + 1))), none, none] [] M15) = kb X (d + 4) 310 n 6 [some (rv 59), some (iv ((c + 1 : Nat) : Int)), none, none] [] M' ∧ M'.2.1 59 81 = s ∧ MW 91 27 (nC (aS A)) (dayW (aS A) V) M' ∧ sf PS M M' := by
    intro M1 s V a1 a2 a3 a4 a5 a6
    obtain ⟨M3, t1, t2, t3⟩ := m_dayGo (X := X) (d := d + 2) (off := 27) (by omega) a1.1 hF a4 a3 (by omega)
    have t1 : fn X (d + 4) 261 [rv 59, iv 27] M1 = oV M3 := t1
    rw [t1, cV_V, wr_succ (by omega)]
    exact ⟨M3, rfl, by rw [(t3.2 59 81 (by simp [PM])).1]; exact a2, t2, a6.tr (t3.mo PS_27)⟩
  rw [q_310_59_at6, if_pos (by omega), h.1.1, h.1.2.1]
  unfold spD
  by_cases hn : 0 < nC (aS A)
  · rw [if_pos (show (0 : Int) < (nC (aS A) : Int) by omega)]
    by_cases ht : 0 < nT (aS A)
    · rw [if_pos (show (0 : Int) < (nT (aS A) : Int) by omega), if_pos ⟨hn, ht⟩, m_draw hs hn (by omega), cI_I, (h.sd _).1.2.1, m_draw (s := nxs z.1) (puI_eq _ _ _ _) ht (by omega), cI_I]
      have hc1 : dr (nxs z.1) % nC (aS A) < nC (aS A) := Nat.mod_lt _ hn
      have ht1 : dr (nxs (nxs z.1)) % nT (aS A) < nT (aS A) := Nat.mod_lt _ ht
      have b1 : MH A (puI (puI M 59 81 (nxs z.1)) 59 81 (nxs (nxs z.1))) := (h.sd _).sd _
      have b2 : (puI (puI M 59 81 (nxs z.1)) 59 81 (nxs (nxs z.1))).2.1 59 81 = nxs (nxs z.1) := puI_eq _ _ _ _
      have b3 : MW 91 27 (nC (aS A)) z.2 (puI (puI M 59 81 (nxs z.1)) 59 81 (nxs (nxs z.1))) := (hW.sd _).sd _
      have b4 : sf PS M (puI (puI M 59 81 (nxs z.1)) 59 81 (nxs (nxs z.1))) := (sf.rf.pu (by decide) _).pu (by decide) _
      generalize puI (puI M 59 81 (nxs z.1)) 59 81 (nxs (nxs z.1)) = M1 at *
      generalize dr (nxs z.1) % nC (aS A) = cc at *
      generalize dr (nxs (nxs z.1)) % nT (aS A) = tt at *
      have my := m_may (X := X) (d := d + 3) (off := 27) (by omega) b1.1 hF b3 hc1 ht1
      have my : fn X (d + 4) 259 [rv 59, iv 27, iv (cc : Int), iv (tt : Int)] M1 = _ := my
      rw [my, cI_I]
      cases hm : (decide (z.2 (21 + cc) = 0) && decide (tri (aS A) tt 5 ≤ z.2 0)) with
      | false =>
        rw [if_pos (show b01 false = 0 from rfl), if_neg (show ¬ false = true by simp)]
        exact day M1 _ z.2 b1 b2 b3 hV hd b4
      | true =>
        have hco : tri (aS A) tt 5 ≤ z.2 0 := by
          simp only [Bool.and_eq_true, decide_eq_true_eq] at hm
          exact hm.2
        obtain ⟨M3, t1, t2, t3⟩ := m_try (X := X) (d := d) (off := 27) (by omega) b1.1 hF hR b3 hV hc1 ht1 hco
        have t1 : fn X (d + 4) 258 [rv 59, iv 27, iv (cc : Int), iv (tt : Int)] M1 = _ := t1
        rw [if_neg (show ¬ b01 true = 0 by decide), t1, cI_I, if_pos (show true = true from rfl)]
        exact day M3 _ _ (b1.sf t3 eM_27) (by rw [(t3.2 59 81 (by simp [PM])).1]; exact b2) t2 (WW_try hF hV hc1 ht1) (by rw [try_1]; exact hd) (b4.tr (t3.mo PS_27))
    · rw [if_neg (show ¬ (0 : Int) < (nT (aS A) : Int) by omega), if_neg (fun q => ht q.2)]
      exact day M _ z.2 h hs hW hV hd sf.rf
  · rw [if_neg (show ¬ (0 : Int) < (nC (aS A) : Int) by omega), if_neg (fun q => hn q.1)]
    exact day M _ z.2 h hs hW hV hd sf.rf
theorem m_spider (hA : OKA A) (h : MH A M) {s : Int} (hs : M.2.1 59 81 = s) : ∃ M', fn X (d + 5) 310 [rv 59] M = oV M' ∧ M'.2.1 59 81 = (spN (aS A) 6 (s, aW A)).1 ∧ MW 91 27 (nC (aS A)) (spN (aS A) 6 (s, aW A)).2 M' ∧ sf PS M M' := by
  obtain ⟨hF, hR, hV, hP, -⟩ := hA
  obtain ⟨M1, g1, g2, g3⟩ := m_fork (X := X) (d := d + 3) h.W
  have g3 := g3.mo PS_27
  rw [q_310_59, g1, cV_V]
  refine loop_st (σ := rM) (fun c M2 => M2.2.1 59 81 = (spN (aS A) c (s, aW A)).1 ∧ MW 91 27 (nC (aS A)) (spN (aS A) c (s, aW A)).2 M2 ∧ sf PS M M2) (fun n c M2 => kb X (d + 4) 310 n 6 [some (rv 59), some (iv (c : Int)), none, none] [] M2) (fun r => ∃ M', r = oV M' ∧ M'.2.1 59 81 = (spN (aS A) 6 (s, aW A)).1 ∧ MW 91 27 (nC (aS A)) (spN (aS A) 6 (s, aW A)).2 M' ∧ sf PS M M') 6 ?_ ?_ 6 0 FU M1 (by omega) (FU_lt (by omega)) ⟨?_, g2, g3⟩
  · rintro n c M2 hc ⟨i1, i2, i3⟩
    left
    obtain ⟨w1, w2⟩ := WW_spN hF (z := (s, aW A)) hV.1 c
    have hd := hV.2
    obtain ⟨M3, t1, t2, t3, t4⟩ := m_spD (X := X) (d := d) (n := n) hF hR (h.sf i3 eM_S) i1 i2 w1 (by rw [w2]; dsimp only; omega) hc
    exact ⟨M3, t1, t2, t3, i3.tr t4⟩
  · rintro n M2 ⟨i1, i2, i3⟩
    rw [q_310_59_at6, if_neg (by omega)]
    exact ⟨M2, rfl, i1, i2, i3⟩
  · obtain ⟨M1', g1', -, g3'⟩ := m_fork (X := X) (d := d + 3) h.W
    have e : M1' = M1 := by
      rw [g1] at g1'
      injection g1' with z
      injection z with _ z
      exact z.symm
    subst e
    rw [(g3'.2 59 81 (by simp [PM])).1]
    exact hs
theorem m_spiders (hA : OKA A) (h : MH A M) (s m w : Int) : mOut A (spiK m w) (if spiK m w = 0 then spiV A s m w else 0) M (fn X (d + 6) 311 [rv 59, iv s, iv m, iv w] M) := by
  have hF := hA.1
  obtain ⟨h0, z0, k0⟩ := m_0 h
  rw [q_311_59]
  generalize puI M 59 0 0 = M0 at *
  rw [m_what z0]
  unfold spiK
  by_cases h1 : 0 ≤ w ∧ w ≤ 2
  · simp only [if_pos h1]
    rw [cI_I, if_neg n10, m_within, cI_I]
    by_cases h2 : 0 ≤ m ∧ m ≤ 30
    · simp only [if_pos h2]
      obtain ⟨k, hk, rfl⟩ := nat_le (n := 30) h2
      rw [m_right1 z0, cI_I, if_neg n10, if_pos True.intro]
      refine loop_st (σ := rM) (fun c M2 => M2.2.1 59 81 = (spG (aS A) (aW A) s c).1 ∧ sf PS M0 M2) (fun n c M2 => kb X (d + 5) 311 n 48 [some (rv 59), none, some (iv (k : Int)), some (iv w), some (iv ((spG (aS A) (aW A) s c).2.1 : Int)), some (iv ((spG (aS A) (aW A) s c).2.2.1 : Int)), some (iv ((spG (aS A) (aW A) s c).2.2.2 : Int)), some (iv (c : Int))] [] M2) (fun r => mOut A 0 (spiV A s (k : Int) w) M r) k ?_ ?_ k 0 FU (puI M0 59 81 s) (by omega) (FU_lt (by omega)) ⟨puI_eq _ _ _ _, sf.rf.pu (by decide) _⟩
      · rintro n c M2 hc ⟨i1, i3⟩
        left
        have i2 := h0.sf i3 eM_S
        obtain ⟨l1, l2⟩ := spG_le (S := aS A) (W := aW A) (s := s) c
        obtain ⟨M3, t1, t2, t3, t4⟩ := m_spider (X := X) (d := d) hA i2 i1
        have t5 := i2.sf t4 eM_S
        have b1 := m_those (X := X) (d := d + 4) t5.1 hF (off := 27) (by omega) t3 1
        have b1 : fn X (d + 5) 252 [rv 59, iv 27, iv 1] M3 = _ := b1
        have b2 := m_those (X := X) (d := d + 4) t5.1 hF (off := 27) (by omega) t3 2
        have b2 : fn X (d + 5) 252 [rv 59, iv 27, iv 2] M3 = _ := b2
        have hp1 := pcN_le (fates (aS A) (spN (aS A) 6 ((spG (aS A) (aW A) s c).1, aW A)).2 1) 10
        have hp2 := pcN_le (fates (aS A) (spN (aS A) 6 ((spG (aS A) (aW A) s c).1, aW A)).2 2) 10
        have hp1 : pc (fates (aS A) (spN (aS A) 6 ((spG (aS A) (aW A) s c).1, aW A)).2 1) ≤ 10 := hp1
        have hp2 : pc (fates (aS A) (spN (aS A) 6 ((spG (aS A) (aW A) s c).1, aW A)).2 2) ≤ 10 := hp2
        have f1 := fates_lt (W := (spN (aS A) 6 ((spG (aS A) (aW A) s c).1, aW A)).2) hF 1
        have f2 := fates_lt (W := (spN (aS A) 6 ((spG (aS A) (aW A) s c).1, aW A)).2) hF 2
        have e0 := t3.coins
        refine ⟨M3, ?_, t2, i3.tr t4⟩
        rw [q_311_59_at48, if_pos (show (c : Int) < (k : Int) by omega), t1, cV_V, b1, cI_I, m_bits (by omega), cI_I, b2, cI_I, m_bits (by omega), cI_I, e0, wr_succ (by omega), wri (x := _ + (pc (fates (aS A) (spN (aS A) 6 ((spG (aS A) (aW A) s c).1, aW A)).2 1) : Int)) (by omega) (by omega), wri (x := _ + (pc (fates (aS A) (spN (aS A) 6 ((spG (aS A) (aW A) s c).1, aW A)).2 2) : Int)) (by omega) (by omega), ← Int.natCast_add, ← Int.natCast_add]
        simp only [spG]
        by_cases hx : (spG (aS A) (aW A) s c).2.2.2 < (spN (aS A) 6 ((spG (aS A) (aW A) s c).1, aW A)).2 0
        · rw [if_pos (by omega), show max (spG (aS A) (aW A) s c).2.2.2 ((spN (aS A) 6 ((spG (aS A) (aW A) s c).1, aW A)).2 0) = (spN (aS A) 6 ((spG (aS A) (aW A) s c).1, aW A)).2 0 by omega]
        · rw [if_neg (by omega), show max (spG (aS A) (aW A) s c).2.2.2 ((spN (aS A) 6 ((spG (aS A) (aW A) s c).1, aW A)).2 0) = (spG (aS A) (aW A) s c).2.2.2 by omega]
      · rintro n M2 ⟨i1, i3⟩
        have i2 := h0.sf i3 eM_S
        rw [q_311_59_at48, if_neg (by omega)]
        have fin : mOut A 0 (spiV A s (k : Int) w) M (oI (spiV A s (k : Int) w) M2) := ⟨M2, rfl, by rw [(i3.2 59 0 (by decide)).1, z0]; rfl, i2, k0.tr (kM_S i3)⟩
        unfold spiV at fin ⊢
        rw [Int.toNat_natCast] at fin ⊢
        by_cases g0 : w = 0
        · simp only [if_pos g0] at fin ⊢
          exact fin
        · simp only [if_neg g0] at fin ⊢
          by_cases g1 : w = 1
          · simp only [if_pos g1] at fin ⊢
            exact fin
          · simp only [if_neg g1] at fin ⊢
            exact fin
    · simp only [if_neg h2]
      rw [m_right0 z0 (by omega), cI_I, if_pos (show (0 : Int) = 0 from rfl), if_neg (show ¬ (2 : Nat) = 0 by omega)]
      exact ⟨_, rfl, puI_eq _ _ _ _, h0.p0 2, k0.pu (by omega) _ _⟩
  · simp only [if_neg h1]
    rw [cI_I, if_pos (show (0 : Int) = 0 from rfl), if_neg (show ¬ (1 : Nat) = 0 by omega)]
    exact ⟨_, rfl, puI_eq _ _ _ _, h0.p0 1, k0.pu (by omega) _ _⟩
end C63
