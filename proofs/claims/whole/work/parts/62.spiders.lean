/-! ===== spiders ===== -/
theorem bv_dr (v : BitVec 32) : ((v >>> 16) &&& 32767#32) = ((v.sshiftRight 16) &&& 32767#32) := by
  apply BitVec.eq_of_getLsbD_eq
  intro i hi
  have h7 : (32767#32).getLsbD i = decide (i < 15) := by
    have : ∀ i, i < 32 → (32767#32).getLsbD i = decide (i < 15) := by decide +kernel
    exact this i hi
  rw [BitVec.getLsbD_and, BitVec.getLsbD_and, h7, BitVec.getLsbD_ushiftRight, BitVec.getLsbD_sshiftRight]
  by_cases h : i < 15
  · simp [h, show 16 + i < 32 by omega, show ¬ 32 ≤ i by omega]
  · simp [h]
theorem iush16 (x : Int) : (Int32.ofInt (iush x 16)).toBitVec = (Int32.ofInt x).toBitVec >>> 16 := by
  rw [iush_df, Int32.ofInt_toInt]
  rfl
theorem ishr16 (x : Int) : (Int32.ofInt (ishr x 16)).toBitVec = (Int32.ofInt x).toBitVec.sshiftRight 16 := by
  rw [ishr_df, Int32.ofInt_toInt]
  have h := shc 16 (by omega)
  have h : ((Int32.ofInt 16 &&& 31).toBitVec.smod 32) = BitVec.ofNat 32 16 := h
  rw [Int32.toBitVec_shiftRight, h]
  rfl
theorem dr_eq (x : Int) : iand (iush x 16) 32767 = iand (ishr x 16) 32767 := by
  rw [iand_df, iand_df]
  show BitVec.toInt _ = BitVec.toInt _
  congr 1
  rw [Int32.toBitVec_and, Int32.toBitVec_and, iush16, ishr16]
  exact bv_dr _
noncomputable def dr (x : Int) : Nat := (iand (ishr x 16) 32767).toNat
theorem dr_i (x : Int) : iand (ishr x 16) 32767 = (dr x : Int) ∧ dr x < 32768 := by
  have e : (32767 : Nat) = 2 ^ 15 - 1 := by decide
  have h : iand (ishr x 16) 32767 = ((((Int32.ofInt x).toBitVec.sshiftRight 16).toNat % 2 ^ 15 : Nat) : Int) := by
    rw [iand_df]
    refine tni ?_ (by omega)
    rw [Int32.toBitVec_and, ishr16, BitVec.toNat_and, show (Int32.ofInt 32767).toBitVec.toNat = 2 ^ 15 - 1 from by decide, Nat.and_two_pow_sub_one_eq_mod]
  unfold dr
  rw [h]
  omega
noncomputable def nxs (s : Int) : Int := wr (wr (s * 1103515245) + 12345)
/-- who tries what, on this day -/
noncomputable def spD (S : SK) (z : Int × WD) : Int × WD := if 0 < nC S ∧ 0 < nT S then
    (nxs (nxs z.1), dayW S (if (decide (z.2 (21 + dr (nxs z.1) % nC S) = 0) && decide (tri S (dr (nxs (nxs z.1)) % nT S) 5 ≤ z.2 0)) = true then (tryW S z.2 (dr (nxs z.1) % nC S) (dr (nxs (nxs z.1)) % nT S)).2 else z.2))
  else (z.1, dayW S z.2)
theorem try_1 {S : SK} {W : WD} {c t : Nat} : (tryW S W c t).2 1 = W 1 := by
  unfold tryW
  split
  · split
    · dsimp only
      rw [up_ne (by omega), up_ne (by omega), up_ne (by omega), up_ne (by omega)]
    · dsimp only
      rw [up_ne (by omega), up_ne (by omega), up_ne (by omega)]
  · dsimp only
    rw [up_ne (by omega), up_ne (by omega), up_ne (by omega)]
theorem WW_sp {S : SK} (hF : WF S) {z : Int × WD} (h : WW S z.2) : WW S (spD S z).2 ∧ (spD S z).2 1 = z.2 1 + 1 := by
  unfold spD
  split
  · rename_i hn
    dsimp only
    rw [day_1]
    split
    · exact ⟨WW_day hF (WW_try hF h (Nat.mod_lt _ hn.1) (Nat.mod_lt _ hn.2)), by rw [try_1]⟩
    · exact ⟨WW_day hF h, rfl⟩
  · exact ⟨WW_day hF h, day_1 (S := S)⟩
section C62
variable {X : Nat × (Nat → Int32)} {d n : Nat} {M M1 M2 M' : rM} {A A' : AS} {S : SK} {W V : WD}
theorem c_draw {s : Int} (h : M.2.1 56 3 = s) {k : Nat} (hk : 0 < k) (hk2 : k ≤ 8) : fn X (d + 1) 8 [rv 56, iv (k : Int)] M = oI ((dr (nxs s) % k : Nat) : Int) (puI M 56 3 (nxs s)) := by
  obtain ⟨e1, e2⟩ := dr_i (nxs s)
  have e3 : wr (wr (s * 1103515245) + 12345) = nxs s := rfl
  rw [q_8_56, h, if_pos (by omega), if_neg (by omega), e3, dr_eq, e1, irm_nat (by omega) (by omega)]
theorem m_draw {s : Int} (h : M.2.1 59 81 = s) {k : Nat} (hk : 0 < k) (hk2 : k ≤ 8) : fn X (d + 1) 309 [rv 59, iv (k : Int)] M = oI ((dr (nxs s) % k : Nat) : Int) (puI M 59 81 (nxs s)) := by
  obtain ⟨e1, e2⟩ := dr_i (nxs s)
  have e3 : wr (wr (s * 1103515245) + 12345) = nxs s := rfl
  rw [q_309_59, h, if_neg (by omega), e3, e1, irm_nat (by omega) (by omega)]
theorem CH.sd (h : CH A M) (x : Int) : CH A (puI M 56 3 x) := h.fr (fun k j z => by
  rw [puI_k]
  rintro rfl
  exact absurd z (by simp [eC]))
theorem MH.sd (h : MH A M) (x : Int) : MH A (puI M 59 81 x) := h.fr (fun k j z => by
  rw [puI_at]
  by_cases e : k = 59
  · subst e
    rw [if_pos rfl]
    by_cases e1 : j = 81
    · subst e1
      exact absurd z (by decide)
    · rw [if_neg e1]
  · rw [if_neg e])
/-- a day of a spider -/
theorem c_spD (hF : WF (aS A)) (hR : WR (aS A)) (h : CH A M) {z : Int × WD} (hs : M.2.1 56 3 = z.1) (hW : CW (57 + 1) 0 (nC (aS A)) z.2 M) (hV : WW (aS A) z.2) (hd : z.2 1 ≤ 99999) {c : Nat} (hc : c < 6) : ∃ M', kb X (d + 4) 7 (n + 1) 13 [some (rv 56), some (iv (c : Int)), none, none] [] M = kb X (d + 4) 7 n 13 [some (rv 56), some (iv ((c + 1 : Nat) : Int)), none, none] [] M' ∧ M'.2.1 56 3 = (spD (aS A) z).1 ∧ CW (57 + 1) 0 (nC (aS A)) (spD (aS A) z).2 M' ∧ CH A M' ∧ kC M M' ∧ M'.1 = M.1 := by
  have h6 := hF.1
  have h8 := hF.2.1
  have day : ∀ (M1 : rM) (s : Int) (V : WD), CH A M1 → M1.2.1 56 3 = s → CW (57 + 1) 0 (nC (aS A)) V M1 → WW (aS A) V → V 1 ≤ 99999 → kC M M1 → M1.1 = M.1 → ∃ M', cV (fn X (d + 4) 109 [rv 57] M1) (fun M15 => kb X (d + 4) 7 n 13 [some (rv 56), some (iv (wr ((c : Int) + 1))), none, none] [] M15) = kb X (d + 4) 7 n 13 [some (rv 56), some (iv ((c + 1 : Nat) : Int)), none, none] [] M' ∧ M'.2.1 56 3 = s ∧ CW (57 + 1) 0 (nC (aS A)) (dayW (aS A) V) M' ∧ CH A M' ∧ kC M M' ∧ M'.1 = M.1 := by
    intro M1 s V a1 a2 a3 a4 a5 a6 a7
    obtain ⟨M3, t1, t2, t3⟩ := c_dayGo (X := X) (d := d + 1) hs57 a1.1 hF a4 a3 (by omega)
    rw [t1, cV_V, wr_succ (by omega)]
    exact ⟨M3, rfl, by rw [(t3.2 56 3 (by simp [Pst])).1]; exact a2, t2, a1.sf t3 eC_57, a6.tr (kC_57 t3), t3.1.trans a7⟩
  rw [q_7_56_at13, if_pos (by omega), q_112_4, cI_I, h.1.1, q_112_6, cI_I, h.1.2.1]
  unfold spD
  by_cases hn : 0 < nC (aS A)
  · rw [if_pos (show (0 : Int) < (nC (aS A) : Int) by omega)]
    by_cases ht : 0 < nT (aS A)
    · rw [if_pos (show (0 : Int) < (nT (aS A) : Int) by omega), if_pos ⟨hn, ht⟩, q_112_4, cI_I, h.1.1, c_draw hs hn (by omega), cI_I, q_112_6, cI_I, (h.sd _).1.2.1, c_draw (s := nxs z.1) (puI_eq _ _ _ _) ht (by omega), cI_I]
      have hc1 : dr (nxs z.1) % nC (aS A) < nC (aS A) := Nat.mod_lt _ hn
      have ht1 : dr (nxs (nxs z.1)) % nT (aS A) < nT (aS A) := Nat.mod_lt _ ht
      have b1 : CH A (puI (puI M 56 3 (nxs z.1)) 56 3 (nxs (nxs z.1))) := (h.sd _).sd _
      have b2 : (puI (puI M 56 3 (nxs z.1)) 56 3 (nxs (nxs z.1))).2.1 56 3 = nxs (nxs z.1) := puI_eq _ _ _ _
      have b3 : CW (57 + 1) 0 (nC (aS A)) z.2 (puI (puI M 56 3 (nxs z.1)) 56 3 (nxs (nxs z.1))) := hW.fr ((puI_k (by omega)).trans (puI_k (by omega)))
      have b4 : kC M (puI (puI M 56 3 (nxs z.1)) 56 3 (nxs (nxs z.1))) := (kC.rf.pu (by omega) _ _).pu (by omega) _ _
      have b5 : (puI (puI M 56 3 (nxs z.1)) 56 3 (nxs (nxs z.1))).1 = M.1 := rfl
      generalize puI (puI M 56 3 (nxs z.1)) 56 3 (nxs (nxs z.1)) = M1 at *
      generalize dr (nxs z.1) % nC (aS A) = cc at *
      generalize dr (nxs (nxs z.1)) % nT (aS A) = tt at *
      rw [c_may hs57 b1.1 hF b3 hc1 ht1, cI_I]
      cases hm : (decide (z.2 (21 + cc) = 0) && decide (tri (aS A) tt 5 ≤ z.2 0)) with
      | false =>
        rw [if_pos (show b01 false = 0 from rfl), if_neg (show ¬ false = true by simp)]
        exact day M1 _ z.2 b1 b2 b3 hV hd b4 b5
      | true =>
        have hco : tri (aS A) tt 5 ≤ z.2 0 := by
          simp only [Bool.and_eq_true, decide_eq_true_eq] at hm
          exact hm.2
        obtain ⟨M3, t1, t2, t3⟩ := c_try (X := X) (d := d + 1) hs57 b1.1 hF hR b3 hV hc1 ht1 hco
        rw [if_neg (show ¬ b01 true = 0 by decide), t1, cI_I, if_pos (show true = true from rfl)]
        exact day M3 _ _ (b1.sf t3 eC_57) (by rw [(t3.2 56 3 (by simp [Pst])).1]; exact b2) t2 (WW_try hF hV hc1 ht1) (by rw [try_1]; exact hd) (b4.tr (kC_57 t3)) (t3.1.trans b5)
    · rw [if_neg (show ¬ (0 : Int) < (nT (aS A) : Int) by omega), if_neg (fun q => ht q.2)]
      exact day M _ z.2 h hs hW hV hd kC.rf rfl
  · rw [if_neg (show ¬ (0 : Int) < (nC (aS A) : Int) by omega), if_neg (fun q => hn q.1)]
    exact day M _ z.2 h hs hW hV hd kC.rf rfl
end C62
