/-! ===== attempt, days, give, undo ===== -/
def aAct (A : AS) (W : WD) : AS := sD A W (pushP (aP A) (aW A)) (aK A)
theorem pushP_ok {S : SK} {P : List WD} {W : WD} (hP : okP S P) (hW : okW S W) : okP S (pushP P W) := by
  obtain ⟨h1, h2⟩ := hP
  unfold pushP
  split
  · refine ⟨by rw [List.length_append, List.length_singleton]; omega, fun V hV => ?_⟩
    rcases List.mem_append.1 hV with h | h
    · exact h2 V h
    · rw [List.mem_singleton.1 h]
      exact hW
  · refine ⟨by rw [List.length_append, List.length_singleton, List.length_tail]; omega, fun V hV => ?_⟩
    rcases List.mem_append.1 hV with h | h
    · exact h2 V (List.mem_of_mem_tail h)
    · rw [List.mem_singleton.1 h]
      exact hW
theorem OKA.act {A : AS} (h : OKA A) {W : WD} (hW : okW (aS A) W) : OKA (aAct A W) := by
  obtain ⟨h1, h2, h3, h4, h5, h6, h7, h8⟩ := h
  exact ⟨h1, h2, hW, pushP_ok h4 h3, h5, h6, h7, h8⟩
theorem OKA.re {A : AS} (h : OKA A) (i : Nat) : OKA (sRe A i) := h
def dayN (S : SK) : Nat → WD → WD
  | 0, W => W
  | k + 1, W => dayW S (dayN S k W)
theorem dayN_1 {S : SK} {W : WD} : ∀ k, dayN S k W 1 = W 1 + k
  | 0 => rfl
  | k + 1 => by
    show dayW S (dayN S k W) 1 = _
    rw [day_1, dayN_1 k]
    omega
theorem WW_dayN {S : SK} {W : WD} (hF : WF S) (h : WW S W) : ∀ k, WW S (dayN S k W)
  | 0 => h
  | k + 1 => WW_day hF (WW_dayN hF h k)
section C52
variable {X : Nat × (Nat → Int32)} {d : Nat} {M M1 M2 M' : rM} {A A' : AS} {W V : WD} {P : List WD}
theorem c_after (h : CH A M) (hk : CWd 31 (nC (aS A)) (aW A) P (aK A) M1) (ek : ∀ k, k ≠ 31 → k ≠ 32 → M1.2.1 k = M.2.1 k) (hw : CW (34 + 1) 0 (nC (aS A)) V M2) (f : sf (Pst 34) M1 M2) : CH (sD A V P (aK A)) M2 ∧ kC M M2 := by
  have f2 : ∀ k, k ≠ 35 → k ≠ 14 → k ≠ 15 → M2.2.1 k = M1.2.1 k := fun k h1 h2 h3 => by
    funext j
    exact (f.2 k j (by simp [Pst, h1, h2, h3])).1
  refine ⟨h.D ⟨hw, ?_, ?_, ?_, ?_⟩ (fun k j hc hn => ?_), fun k hk => ?_⟩
  · obtain ⟨o, o1, o2, o3⟩ := hk.2.1
    exact ⟨o, by rw [f2 31 (by omega) (by omega) (by omega)]; exact o1, o2, fun i hi => (o3 i hi).fr (f2 _ (by omega) (by omega) (by omega))⟩
  · rw [f2 31 (by omega) (by omega) (by omega)]
    exact hk.2.2.1
  · rw [f2 31 (by omega) (by omega) (by omega)]
    exact hk.2.2.2.1
  · intro i hi
    rw [f2 (31 + 2) (by omega) (by omega) (by omega)]
    exact hk.2.2.2.2 i hi
  · by_cases e1 : k = 14
    · subst e1
      simp [eC] at hc
    · by_cases e2 : k = 15
      · subst e2
        simp [eC] at hc
      · rw [f2 k (by omega) e1 e2, ek k (by omega) (by omega)]
  · rw [f2 k (by omega) (by omega) (by omega), ek k (by omega) (by omega)]
theorem m_after (h : MH A M) (hk : MWd 91 92 104 61 76 (nC (aS A)) (aW A) P (aK A) M1) (ek : ∀ k j, k ≠ 92 → ¬ (k = 59 ∧ j = 61) → M1.2.1 k j = M.2.1 k j) (hw : MW 91 0 (nC (aS A)) V M2) (f : sf (PM 0) M1 M2) : MH (sD A V P (aK A)) M2 ∧ (∀ k, k < 59 → M2.2.1 k = M.2.1 k) ∧ M2.2.1 59 0 = M.2.1 59 0 := by
  have f2 : ∀ k j, k ≠ 91 → k ≠ 93 → k ≠ 94 → M2.2.1 k j = M1.2.1 k j := fun k j h1 h2 h3 => (f.2 k j (by simp [PM, h1, h2, h3])).1
  refine ⟨h.D ⟨hw, ?_, ?_, ?_, ?_⟩ (fun k j hc hn => ?_), fun k hk => ?_, ?_⟩
  · rw [f2 59 61 (by omega) (by omega) (by omega)]
    exact hk.2.1
  · intro i hi
    exact (hk.2.2.1 i hi).fr (fun j _ _ => f2 92 j (by omega) (by omega) (by omega))
  · rw [f2 59 76 (by omega) (by omega) (by omega)]
    exact hk.2.2.2.1
  · rw [show M2.2.1 104 = M1.2.1 104 from funext (fun j => f2 104 j (by omega) (by omega) (by omega))]
    exact hk.2.2.2.2
  · by_cases e1 : k = 93
    · subst e1
      simp [eM] at hc
    · by_cases e2 : k = 94
      · subst e2
        simp [eM] at hc
      · rw [f2 k j (by omega) e1 e2, ek k j (by omega) (by omega)]
  · funext j
    rw [f2 k j (by omega) (by omega) (by omega), ek k j (by omega) (by omega)]
  · rw [f2 59 0 (by omega) (by omega) (by omega), ek 59 0 (by omega) (by omega)]
/-- a refused act -/
theorem c_refuse (h : CH A M) : ∃ M', fn X (d + 1) 193 [rv 0] M = oI (-1) M' ∧ CH (sRe A 1) M' ∧ kC M M' ∧ M'.1 = M.1 := ⟨_, q_193_0 M, h.Re (by omega), kC.rf.pu (by omega) _ _, rfl⟩
theorem m_refuse (h : MH A M) {i : Nat} (hi : i < 3) : ∃ M', fn X (d + 1) 247 [rv 59, iv (i : Int)] M = oI (-1) M' ∧ MH (sRe A i) M' ∧ kM M M' ∧ M'.2.1 59 0 = M.2.1 59 0 := by
  refine ⟨puI M 74 i (wr (M.2.1 74 i + 1)), ?_, h.Re hi, kM.rf.pu (by omega) _ _, puI_ne (by omega)⟩
  rw [q_247_59, gdx (by omega) (by omega), gdx (by omega) (by omega), Int.toNat_natCast]
def may (A : AS) (c t : Nat) : Bool := decide (aW A (21 + c) = 0) && decide (tri (aS A) t 5 ≤ aW A 0)
noncomputable def attA (A : AS) (a b : Int) : AS := if (0 ≤ a ∧ a < (nC (aS A) : Int)) ∧ 0 ≤ b ∧ b < (nT (aS A) : Int) then (if may A a.toNat b.toNat then aAct A (tryW (aS A) (aW A) a.toNat b.toNat).2 else sRe A 1) else A
noncomputable def attV (A : AS) (a b : Int) : Int := if may A a.toNat b.toNat then ((tryW (aS A) (aW A) a.toNat b.toNat).1 : Int) else -1
theorem OKA.att (h : OKA A) (a b : Int) : OKA (attA A a b) := by
  unfold attA
  split
  · rename_i hc
    split
    · obtain ⟨c, hc1, e1⟩ := nat_of hc.1
      obtain ⟨t, ht1, e2⟩ := nat_of hc.2
      refine h.act ⟨WW_try h.1 h.2.2.1.1 (by omega) (by omega), ?_⟩
      have := h.2.2.1.2
      have e : (tryW (aS A) (aW A) a.toNat b.toNat).2 1 = aW A 1 := by
        unfold tryW
        split
        · split
          · dsimp only
            rw [up_ne (by omega), up_ne (by omega), up_ne (by omega), up_ne (by omega)]
          · dsimp only
            rw [up_ne (by omega), up_ne (by omega), up_ne (by omega)]
        · dsimp only
          rw [up_ne (by omega), up_ne (by omega), up_ne (by omega)]
      omega
    · exact h.re 1
  · exact h
theorem c_attempt (hA : OKA A) (h : CH A M) (a b : Int) : wOut (attA A a b) (ans ((0 ≤ a ∧ a < (nC (aS A) : Int)) ∧ 0 ≤ b ∧ b < (nT (aS A) : Int)) 0).1 (attV A a b) M (fn X (d + 5) 327 [rv 0, iv a, iv b, rv 111] M) := by
  obtain ⟨hF, hR, hV, hP, -⟩ := hA
  have hS := h.1
  rw [q_327_0_111, q_157_0, c_chkC hS]
  unfold ans attA
  by_cases hc : 0 ≤ a ∧ a < (nC (aS A) : Int)
  · rw [if_pos hc, cV_V, c_chkT hS]
    by_cases hr : 0 ≤ b ∧ b < (nT (aS A) : Int)
    · obtain ⟨c, hc1, rfl⟩ := nat_of hc
      obtain ⟨t, ht1, rfl⟩ := nat_of hr
      rw [if_pos hr, cV_V, c_may hs34 hS hF h.W hc1 ht1, cI_I]
      simp only [if_pos (show (0 ≤ (c : Int) ∧ (c : Int) < (nC (aS A) : Int)) ∧ 0 ≤ (t : Int) ∧ (t : Int) < (nT (aS A) : Int) from ⟨hc, hr⟩), Int.toNat_natCast]
      unfold attV
      rw [Int.toNat_natCast, Int.toNat_natCast]
      have hm : (decide (aW A (21 + c) = 0) && decide (tri (aS A) t 5 ≤ aW A 0)) = may A c t := rfl
      rw [hm]
      by_cases hy : may A c t = true
      · have hco : tri (aS A) t 5 ≤ aW A 0 := by
          unfold may at hy
          rw [Bool.and_eq_true, decide_eq_true_eq, decide_eq_true_eq] at hy
          exact hy.2
        obtain ⟨M1, k1, k2, k3, k4, k5⟩ := c_keep (X := X) (d := d + 2) h.2.1 hP.1
        obtain ⟨M2, t1, t2, t3⟩ := c_try (X := X) (d := d) hs34 (hS.fr (fun k _ _ => k3 k (by omega) (by omega))) hF hR k2.1 hV.1 hc1 ht1 hco
        obtain ⟨g1, g2⟩ := c_after h k2 k3 t2 t3
        simp only [if_pos hy]
        rw [if_neg (by rw [b01_0, hy]; simp), k1, cV_V, t1, cI_I]
        exact w_ok (M1 := M2) rfl g1 g2 (t3.1.trans k4)
      · obtain ⟨M2, r1, r2, r3, r4⟩ := c_refuse (X := X) (d := d + 2) h
        simp only [if_neg hy]
        rw [if_pos (by rw [b01_0]; simpa using hy), r1, cI_I]
        exact w_ok (M1 := M2) rfl r2 r3 r4
    · rw [if_neg hr, cV_X, if_neg (fun z => hr z.2), if_neg (fun z => hr z.2)]
      exact w_x (q := 0) (k := 1) (M1 := thr M) rfl rfl (by omega) h kC.rf rfl
  · rw [if_neg hc, cV_X, if_neg (fun z => hc z.1), if_neg (fun z => hc z.1)]
    exact w_x (q := 0) (k := 1) (M1 := thr M) rfl rfl (by omega) h kC.rf rfl
theorem kMp {M2 : rM} (h0 : kM M M1) (e : ∀ k, k < 59 → M2.2.1 k = M1.2.1 k) (e1 : M2.1 = M1.1) (e2 : M2.2.2 111 = M1.2.2 111) : kM M M2 := h0.tr ⟨e1, e, e2⟩
theorem m_attempt (hA : OKA A) (h : MH A M) (a b : Int) : mOut (attA A a b) (ans ((0 ≤ a ∧ a < (nC (aS A) : Int)) ∧ 0 ≤ b ∧ b < (nT (aS A) : Int)) 0).1 (if (0 ≤ a ∧ a < (nC (aS A) : Int)) ∧ 0 ≤ b ∧ b < (nT (aS A) : Int) then attV A a b else 0) M (fn X (d + 5) 269 [rv 59, iv a, iv b] M) := by
  obtain ⟨hF, hR, hV, hP, -⟩ := hA
  obtain ⟨h0, z0, k0⟩ := m_0 h
  rw [q_269_59]
  generalize puI M 59 0 0 = M1 at *
  have hS := h0.1
  rw [m_cre hS z0]
  unfold ans attA
  by_cases hc : 0 ≤ a ∧ a < (nC (aS A) : Int)
  · rw [if_pos hc, cI_I, if_neg n10, m_tri hS z0]
    by_cases hr : 0 ≤ b ∧ b < (nT (aS A) : Int)
    · obtain ⟨c, hc1, rfl⟩ := nat_of hc
      obtain ⟨t, ht1, rfl⟩ := nat_of hr
      have mm := m_may (X := X) (d := d + 3) (off := 0) (by omega) hS hF h0.W hc1 ht1
      rw [if_pos hr, cI_I, if_neg n10]
      erw [mm]
      rw [cI_I]
      simp only [if_pos (show (0 ≤ (c : Int) ∧ (c : Int) < (nC (aS A) : Int)) ∧ 0 ≤ (t : Int) ∧ (t : Int) < (nT (aS A) : Int) from ⟨hc, hr⟩), Int.toNat_natCast]
      unfold attV
      rw [Int.toNat_natCast, Int.toNat_natCast]
      have hm : (decide (aW A (21 + c) = 0) && decide (tri (aS A) t 5 ≤ aW A 0)) = may A c t := rfl
      rw [hm]
      by_cases hy : may A c t = true
      · have hco : tri (aS A) t 5 ≤ aW A 0 := by
          unfold may at hy
          rw [Bool.and_eq_true, decide_eq_true_eq, decide_eq_true_eq] at hy
          exact hy.2
        obtain ⟨M2, g1, g2, g3, g4, g5⟩ := m_keep (X := X) (d := d + 3) h0.2.1 hP.1
        obtain ⟨M3, t1, t2, t3⟩ := m_try (X := X) (d := d) (off := 0) (by omega) (hS.fr (fun k _ _ => funext (fun j => g3 k j (by omega) (by omega))) (fun j _ _ => g3 59 j (by omega) (by omega))) hF hR g2.1 hV.1 hc1 ht1 hco
        obtain ⟨u1, u2, u3⟩ := m_after h0 g2 g3 t2 t3
        simp only [if_pos hy]
        rw [if_neg (by rw [b01_0, hy]; simp), g1, cV_V]
        erw [t1]
        rw [cI_I]
        refine ⟨M3, rfl, u3.trans z0, u1, kMp k0 u2 (t3.1.trans g4) ?_⟩
        funext j
        rw [(t3.2 111 j (by simp [PM])).2, g5]
      · obtain ⟨M2, r1, r2, r3, r4⟩ := m_refuse (X := X) (d := d + 3) h0 (i := 1) (by omega)
        simp only [if_neg hy]
        rw [if_pos (by rw [b01_0]; simpa using hy)]
        erw [r1]
        rw [cI_I]
        exact ⟨M2, rfl, r4.trans z0, r2, k0.tr r3⟩
    · simp only [if_neg (show ¬ ((0 ≤ a ∧ a < (nC (aS A) : Int)) ∧ 0 ≤ b ∧ b < (nT (aS A) : Int)) from fun z => hr z.2)]
      rw [if_neg hr, cI_I, if_pos rfl]
      exact ⟨_, rfl, puI_eq _ _ _ _, h0.p0 1, k0.pu (by omega) _ _⟩
  · simp only [if_neg (show ¬ ((0 ≤ a ∧ a < (nC (aS A) : Int)) ∧ 0 ≤ b ∧ b < (nT (aS A) : Int)) from fun z => hc z.1)]
    rw [if_neg hc, cI_I, if_pos rfl]
    exact ⟨_, rfl, puI_eq _ _ _ _, h0.p0 1, k0.pu (by omega) _ _⟩
/-! days -/
def dayOk (A : AS) (a : Int) : Prop := 1 ≤ a ∧ a ≤ 20 ∧ (aW A 1 : Int) + a ≤ 999
noncomputable def dysA (A : AS) (a : Int) : AS := if 1 ≤ a ∧ a ≤ 20 ∧ (aW A 1 : Int) + a ≤ 999 then aAct A (dayN (aS A) a.toNat (aW A)) else sRe A 1
noncomputable def dysV (A : AS) (a : Int) : Int := if 1 ≤ a ∧ a ≤ 20 ∧ (aW A 1 : Int) + a ≤ 999 then (aW A 1 : Int) + a else -1
theorem OKA.dys (h : OKA A) (a : Int) : OKA (dysA A a) := by
  unfold dysA
  split
  · exact h.act ⟨WW_dayN h.1 h.2.2.1.1 _, by rw [dayN_1]; omega⟩
  · exact h.re 1
theorem c_days (hA : OKA A) (h : CH A M) (a : Int) : ∃ M', fn X (d + 5) 158 [rv 0, iv a] M = oI (dysV A a) M' ∧ CH (dysA A a) M' ∧ kC M M' ∧ M'.1 = M.1 := by
  obtain ⟨hF, hR, hV, hP, -⟩ := hA
  have hS := h.1
  have hd := hV.2
  obtain ⟨Mr, r1, r2, r3, r4⟩ := c_refuse (X := X) (d := d + 3) h
  rw [q_158_0, r1, cI_I, c_day hs34 h.W, cI_I]
  unfold dysA dysV
  by_cases h1 : a < 1
  · rw [if_pos h1, if_neg (by omega), if_neg (by omega)]
    exact ⟨Mr, rfl, r2, r3, r4⟩
  · rw [if_neg h1]
    by_cases h2 : 20 < a
    · rw [if_pos h2, if_neg (by omega), if_neg (by omega)]
      exact ⟨Mr, rfl, r2, r3, r4⟩
    · rw [if_neg h2, wri (by omega) (by omega)]
      by_cases h3 : 999 < (aW A 1 : Int) + a
      · rw [if_pos h3, r1, cI_I, if_neg (by omega), if_neg (by omega)]
        exact ⟨Mr, rfl, r2, r3, r4⟩
      · rw [if_neg h3, if_pos (by omega), if_pos (by omega)]
        obtain ⟨m, hm, rfl⟩ := nat_le (a := a) (n := 20) ⟨by omega, by omega⟩
        obtain ⟨M1, k1, k2, k3, k4, k5⟩ := c_keep (X := X) (d := d + 3) h.2.1 hP.1
        rw [k1, cV_V, Int.toNat_natCast]
        refine loop_st (σ := rM) (fun c M2 => CW (34 + 1) 0 (nC (aS A)) (dayN (aS A) c (aW A)) M2 ∧ CS (aS A) M2 ∧ sf (Pst 34) M1 M2) (fun n c M2 => kb X (d + 4) 158 n 43 [some (rv 0), some (iv (m : Int)), some (iv (c : Int))] [] M2) (fun r => ∃ M', r = oI ((aW A 1 : Int) + (m : Int)) M' ∧ CH (aAct A (dayN (aS A) m (aW A))) M' ∧ kC M M' ∧ M'.1 = M.1) m ?_ ?_ m 0 FU M1 (by omega) (FU_lt (by omega)) ⟨k2.1, hS.fr (fun k _ _ => k3 k (by omega) (by omega)), sf.rf⟩
        · rintro n c M2 hc ⟨i1, i2, i3⟩
          left
          obtain ⟨M3, t1, t2, t3⟩ := c_dayGo (X := X) (d := d + 1) hs34 i2 hF (WW_dayN hF hV.1 c) i1 (by rw [dayN_1]; omega)
          rw [q_158_0_at43, if_pos (by omega), t1, cV_V, wr_succ (by omega)]
          exact ⟨M3, rfl, t2, i2.fr (fun k z1 z2 => funext (fun j => (t3.2 k j (by simp [Pst]; omega)).1)), i3.tr t3⟩
        · rintro n M2 ⟨i1, i2, i3⟩
          obtain ⟨g1, g2⟩ := c_after h k2 k3 i1 i3
          rw [q_158_0_at43, if_neg (by omega), c_day hs34 i1, cI_I, dayN_1]
          exact ⟨M2, by rw [Int.natCast_add], g1, g2, i3.1.trans k4⟩
theorem m_days (hA : OKA A) (h : MH A M) (a : Int) : ∃ M', fn X (d + 4) 270 [rv 59, iv a] M = oI (dysV A a) M' ∧ MH (dysA A a) M' ∧ kM M M' := by
  obtain ⟨hF, hR, hV, hP, -⟩ := hA
  have hd := hV.2
  obtain ⟨h0, z0, k0⟩ := m_0 h
  rw [q_270_59]
  generalize puI M 59 0 0 = M1 at *
  have hS := h0.1
  obtain ⟨Mr, r1, r2, r3, r4⟩ := m_refuse (X := X) (d := d + 2) h0 (i := 1) (by omega)
  have hdy : M1.2.1 91 1 = (aW A 1 : Int) := h0.W.day
  rw [m_within, cI_I]
  erw [r1]
  rw [cI_I, hdy]
  unfold dysA dysV
  by_cases h1 : 1 ≤ a ∧ a ≤ 20
  · rw [if_pos h1, if_neg n10, wri (by omega) (by omega)]
    by_cases h3 : 999 < (aW A 1 : Int) + a
    · rw [if_pos h3, if_neg (by omega), if_neg (by omega)]
      exact ⟨Mr, rfl, r2, k0.tr r3⟩
    · rw [if_neg h3, if_pos (by omega), if_pos (by omega)]
      obtain ⟨m, hm, rfl⟩ := nat_le (a := a) (n := 20) ⟨by omega, by omega⟩
      obtain ⟨M2, g1, g2, g3, g4, g5⟩ := m_keep (X := X) (d := d + 2) h0.2.1 hP.1
      rw [g1, cV_V, Int.toNat_natCast]
      refine loop_st (σ := rM) (fun c M3 => MW 91 0 (nC (aS A)) (dayN (aS A) c (aW A)) M3 ∧ MS (aS A) M3 ∧ sf (PM 0) M2 M3) (fun n c M3 => kb X (d + 3) 270 n 41 [some (rv 59), some (iv (m : Int)), some (iv (c : Int))] [] M3) (fun r => ∃ M', r = oI ((aW A 1 : Int) + (m : Int)) M' ∧ MH (aAct A (dayN (aS A) m (aW A))) M' ∧ kM M M') m ?_ ?_ m 0 FU M2 (by omega) (FU_lt (by omega)) ⟨g2.1, hS.fr (fun k _ _ => funext (fun j => g3 k j (by omega) (by omega))) (fun j _ _ => g3 59 j (by omega) (by omega)), sf.rf⟩
      · rintro n c M3 hc ⟨i1, i2, i3⟩
        left
        obtain ⟨M4, t1, t2, t3⟩ := m_dayGo (X := X) (d := d + 1) (off := 0) (by omega) i2 hF (WW_dayN hF hV.1 c) i1 (by rw [dayN_1]; omega)
        rw [q_270_59_at41, if_pos (by omega)]
        erw [t1]
        rw [cV_V, wr_succ (by omega)]
        exact ⟨M4, rfl, t2, i2.fr (fun k z1 z2 => funext (fun j => (t3.2 k j (by simp [PM]; omega)).1)) (fun j _ _ => (t3.2 59 j (by simp [PM])).1), i3.tr t3⟩
      · rintro n M3 ⟨i1, i2, i3⟩
        obtain ⟨u1, u2, u3⟩ := m_after h0 g2 g3 i1 i3
        have hdd : M3.2.1 91 1 = ((dayN (aS A) m (aW A) 1 : Nat) : Int) := i1.day
        rw [q_270_59_at41, if_neg (by omega), hdd, dayN_1]
        refine ⟨M3, by rw [Int.natCast_add], u1, kMp k0 u2 (i3.1.trans g4) ?_⟩
        funext j
        rw [(i3.2 111 j (by simp [PM])).2, g5]
  · rw [if_neg h1, if_pos rfl, if_neg (by omega), if_neg (by omega)]
    exact ⟨Mr, rfl, r2, k0.tr r3⟩
/-! give -/
noncomputable def givA (A : AS) (a : Int) : AS := if 1 ≤ a ∧ a ≤ 99 then aAct A (up (aW A) 0 (min 999 (aW A 0 + a.toNat))) else sRe A 1
noncomputable def givV (A : AS) (a : Int) : Int := if 1 ≤ a ∧ a ≤ 99 then ((min 999 (aW A 0 + a.toNat) : Nat) : Int) else -1
theorem OKA.giv (h : OKA A) (a : Int) : OKA (givA A a) := by
  unfold givA
  split
  · exact h.act ⟨WW_up h.2.2.1.1 (by omega) (by omega) (fun c _ => by omega), by rw [up_ne (by omega)]; exact h.2.2.1.2⟩
  · exact h.re 1
theorem c_give (hA : OKA A) (h : CH A M) (a : Int) : ∃ M', fn X (d + 3) 160 [rv 0, iv a] M = oI (givV A a) M' ∧ CH (givA A a) M' ∧ kC M M' ∧ M'.1 = M.1 := by
  obtain ⟨hF, hR, hV, hP, -⟩ := hA
  have hco := hV.1.1
  obtain ⟨Mr, r1, r2, r3, r4⟩ := c_refuse (X := X) (d := d + 1) h
  rw [q_160_0, r1, cI_I]
  unfold givA givV
  by_cases h1 : 1 ≤ a ∧ a ≤ 99
  · obtain ⟨m, hm, rfl⟩ := nat_le (a := a) (n := 99) ⟨by omega, by omega⟩
    obtain ⟨M1, k1, k2, k3, k4, k5⟩ := c_keep (X := X) (d := d + 1) h.2.1 hP.1
    have e : min (999 : Int) (wr ((aW A 0 : Int) + (m : Int))) = ((min 999 (aW A 0 + m) : Nat) : Int) := by
      rw [wri (by omega) (by omega)]
      omega
    have kc : CW (34 + 1) 0 (nC (aS A)) (aW A) M1 := k2.1
    have kp := kc.pc0 (min 999 (aW A 0 + m))
    have f : sf (Pst 34) M1 (puI M1 (34 + 1) 0 ((min 999 (aW A 0 + m) : Nat) : Int)) := sf.rf.pu (by simp [Pst]) _
    obtain ⟨g1, g2⟩ := c_after h k2 k3 kp f
    have cc := c_coins (X := X) (d := d + 1) hs34 kp
    rw [up_eq] at cc
    rw [if_neg (show ¬ (m : Int) < 1 by omega), if_neg (show ¬ 99 < (m : Int) by omega), if_pos h1, if_pos h1, k1, cV_V, c_coins hs34 kc, cI_I, e, q_94_s _ _ hs34, cV_V, cc, cI_I, Int.toNat_natCast]
    exact ⟨_, rfl, g1, g2, k4⟩
  · rw [if_neg h1, if_neg h1]
    by_cases h2 : a < 1
    · rw [if_pos h2]
      exact ⟨Mr, rfl, r2, r3, r4⟩
    · rw [if_neg h2, if_pos (by omega)]
      exact ⟨Mr, rfl, r2, r3, r4⟩
theorem m_give (hA : OKA A) (h : MH A M) (a : Int) : ∃ M', fn X (d + 3) 272 [rv 59, iv a] M = oI (givV A a) M' ∧ MH (givA A a) M' ∧ kM M M' := by
  obtain ⟨hF, hR, hV, hP, -⟩ := hA
  have hco := hV.1.1
  obtain ⟨h0, z0, k0⟩ := m_0 h
  rw [q_272_59]
  generalize puI M 59 0 0 = M1 at *
  obtain ⟨Mr, r1, r2, r3, r4⟩ := m_refuse (X := X) (d := d + 1) h0 (i := 1) (by omega)
  rw [m_within, cI_I]
  erw [r1]
  rw [cI_I]
  unfold givA givV
  by_cases h1 : 1 ≤ a ∧ a ≤ 99
  · obtain ⟨m, hm, rfl⟩ := nat_le (a := a) (n := 99) ⟨by omega, by omega⟩
    obtain ⟨M2, g1, g2, g3, g4, g5⟩ := m_keep (X := X) (d := d + 1) h0.2.1 hP.1
    have e : min (999 : Int) (wr ((aW A 0 : Int) + (m : Int))) = ((min 999 (aW A 0 + m) : Nat) : Int) := by
      rw [wri (by omega) (by omega)]
      omega
    have kp := g2.1.pu (j := 0) (v := min 999 (aW A 0 + m)) (by omega)
    rw [Nat.add_zero] at kp
    have f : sf (PM 0) M2 (puI M2 91 0 ((min 999 (aW A 0 + m) : Nat) : Int)) := sf.rf.pu (PM_in (off := 0) (j := 0) (by omega)) _
    obtain ⟨u1, u2, u3⟩ := m_after h0 g2 g3 kp f
    have hc0 : M2.2.1 91 0 = (aW A 0 : Int) := g2.1.coins
    rw [if_pos h1, if_neg n10, g1, cV_V, hc0, m_lesser, cI_I, e, if_pos h1, if_pos h1, Int.toNat_natCast]
    exact ⟨_, rfl, u1, kMp k0 u2 g4 (by rw [show (puI M2 91 0 ((min 999 (aW A 0 + m) : Nat) : Int)).2.2 = M2.2.2 from rfl, g5])⟩
  · rw [if_neg h1, if_pos rfl, if_neg h1, if_neg h1]
    exact ⟨Mr, rfl, r2, k0.tr r3⟩
end C52
