/-! ===== feed ===== -/
theorem iand255 (x : Int) : iand x 255 = x % 256 := by
  rw [iand_df]
  have h0 : 0 ≤ x % 256 := Int.emod_nonneg _ (by omega)
  have h1 : x % 256 < 256 := Int.emod_lt_of_pos _ (by omega)
  have h2 : (Int32.ofInt x &&& Int32.ofInt 255).toInt = (((x % 256).toNat : Nat) : Int) := by
    refine tni ?_ (by omega)
    rw [Int32.toBitVec_and, BitVec.toNat_and, show (Int32.ofInt 255).toBitVec.toNat = 2 ^ 8 - 1 from by decide, Nat.and_two_pow_sub_one_eq_mod]
    show (BitVec.ofInt 32 x).toNat % 2 ^ 8 = _
    rw [BitVec.toNat_ofInt]
    omega
  rw [h2]
  omega
theorem bnar_mod (x : Int) : bnar x = Int.bmod x 256 := by
  rw [bnar_df]
  have h1 : (Int32.ofInt x).toInt8 = Int8.ofInt x := by
    show Int32.toInt8 _ = _
    simp
  rw [h1]
  show (Int8.ofInt x).toInt32.toInt = _
  rw [Int8.toInt_toInt32, Int8.toInt_ofInt]
theorem bnar2 (x : Int) : bnar (bnar x) = sby (iand x 255).toNat := by
  rw [bnar_mod, bnar_mod, iand255, Int.bmod_bmod]
  have h0 : 0 ≤ x % 256 := Int.emod_nonneg _ (by omega)
  have h1 : x % 256 < 256 := Int.emod_lt_of_pos _ (by omega)
  unfold sby
  rw [Int.bmod_def]
  by_cases e : x % 256 < 128
  · rw [if_pos (show x % ((256 : Nat) : Int) < (((256 : Nat) : Int) + 1) / 2 by omega), if_pos (by omega)]
    omega
  · rw [if_neg (show ¬ x % ((256 : Nat) : Int) < (((256 : Nat) : Int) + 1) / 2 by omega), if_neg (by omega)]
    omega
noncomputable def by8 (a s : Int) : Nat := (iand (ishr a s) 255).toNat
theorem by8_le (a s : Int) : by8 a s ≤ 255 := by
  unfold by8
  rw [iand255]
  have h1 : ishr a s % 256 < 256 := Int.emod_lt_of_pos _ (by omega)
  omega
theorem by8_i (a s : Int) : iand (ishr a s) 255 = (by8 a s : Int) := by
  unfold by8
  rw [iand255]
  have h0 : 0 ≤ ishr a s % 256 := Int.emod_nonneg _ (by omega)
  omega
noncomputable def byts (a : Int) : List Nat := [by8 a 24, by8 a 16, by8 a 8, by8 a 0]
def sT (A : AS) (T : List Nat) : AS := (A.1, A.2.1, A.2.2.1, A.2.2.2.1, A.2.2.2.2.1, T, A.2.2.2.2.2.2)
theorem getT_l {T : List Nat} {b i : Nat} (h : i < T.length) : (T ++ [b]).getD i 0 = T.getD i 0 := by
  rw [List.getD_eq_getElem?_getD, List.getElem?_append_left h, List.getD_eq_getElem?_getD]
theorem getT_r {T : List Nat} {b : Nat} : (T ++ [b]).getD T.length 0 = b := by
  rw [List.getD_eq_getElem?_getD, List.getElem?_append_right (Nat.le_refl _), Nat.sub_self]
  rfl
section C57
variable {X : Nat × (Nat → Int32)} {d n : Nat} {M M1 M2 M' : rM} {A A' : AS}
theorem CH.T (h : CH A M) (b : Nat) : CH (sT A (aT A ++ [b])) (puI (puI M 1 (aT A).length (sby b)) 0 1 (((aT A).length + 1 : Nat) : Int)) := by
  have hg : CH A (puI (puA (puI (puI M 1 (aT A).length (sby b)) 0 1 (((aT A).length + 1 : Nat) : Int)) 1 (M.2.1 1)) 0 1 (M.2.1 0 1)) := h.fr (fun k j _ => by
    rw [puI_at]
    by_cases e0 : k = 0
    · subst e0
      rw [if_pos rfl]
      by_cases e1 : j = 1
      · rw [if_pos e1, e1]
      · rw [if_neg e1, puA_k (by omega), puI_nj e1, puI_k (by omega)]
    · rw [if_neg e0]
      by_cases e1 : k = 1
      · rw [e1, puA_eq]
      · rw [puA_k (fun z => e1 z), puI_k e0, puI_k e1])
  have k0 : ∀ j, j ≠ 1 → (puI (puI M 1 (aT A).length (sby b)) 0 1 (((aT A).length + 1 : Nat) : Int)).2.1 0 j = M.2.1 0 j := fun j hj => by rw [puI_nj hj, puI_k (by omega)]
  have kk : ∀ k, k ≠ 0 → k ≠ 1 → (puI (puI M 1 (aT A).length (sby b)) 0 1 (((aT A).length + 1 : Nat) : Int)).2.1 k = M.2.1 k := fun k a1 a2 => (puI_k a1).trans (puI_k a2)
  obtain ⟨h1, h2, h3, h4, h5, h6, h7, h8, h9, h10, h11⟩ := h
  refine ⟨h1.fr (fun k z1 z2 => kk k (by omega) (by omega)), h2.fr (fun k hk => kk k (by omega) (by omega)), ?_, ?_, fun i hi => ?_, (k0 2 (by omega)).trans h6, fun j hj => ?_, ?_, ?_, ?_, ?_⟩
  · rcases h3 with ⟨z1, z2⟩ | ⟨V, P, K, z1, z2, z3⟩
    · exact Or.inl ⟨z1, (k0 9 (by omega)).trans z2⟩
    · exact Or.inr ⟨V, P, K, z1, (k0 9 (by omega)).trans z2, z3.fr (fun k hk => kk k (by omega) (by omega))⟩
  · rw [puI_eq]
    show (((aT A).length + 1 : Nat) : Int) = ((aT A ++ [b]).length : Int)
    rw [List.length_append, List.length_singleton]
  · have hi : i < (aT A ++ [b]).length := hi
    rw [List.length_append, List.length_singleton] at hi
    show _ = sby ((aT A ++ [b]).getD i 0)
    rw [puI_k (by omega)]
    by_cases e : i = (aT A).length
    · rw [e, puI_eq, getT_r]
    · rw [puI_nj e, getT_l (by omega)]
      exact h5 i (by omega)
  · rw [kk 2 (by omega) (by omega)]
    exact h7 j hj
  · rw [kk 17 (by omega) (by omega)]; exact h8
  · rw [kk 19 (by omega) (by omega)]; exact h9
  · rw [kk 21 (by omega) (by omega)]; exact h10
  · rw [kk 23 (by omega) (by omega)]; exact h11
theorem MH.T (h : MH A M) (b : Nat) : MH (sT A (aT A ++ [b])) (puI (puI M 73 (aT A).length (b : Int)) 59 21 (((aT A).length + 1 : Nat) : Int)) := by
  have k0 : ∀ j, j ≠ 21 → (puI (puI M 73 (aT A).length (b : Int)) 59 21 (((aT A).length + 1 : Nat) : Int)).2.1 59 j = M.2.1 59 j := fun j hj => by rw [puI_nj hj, puI_k (by omega)]
  have kk : ∀ k, k ≠ 59 → k ≠ 73 → (puI (puI M 73 (aT A).length (b : Int)) 59 21 (((aT A).length + 1 : Nat) : Int)).2.1 k = M.2.1 k := fun k a1 a2 => (puI_k a1).trans (puI_k a2)
  obtain ⟨h1, h2, h3, h4, h5, h6, h7⟩ := h
  refine ⟨h1.fr (fun k z1 z2 => kk k (by omega) (by omega)) (fun j z1 z2 => k0 j (by omega)), h2.fr (fun j _ => by rw [kk 91 (by omega) (by omega)]) (kk 92 (by omega) (by omega)) (kk 104 (by omega) (by omega)) (k0 61 (by omega)) (k0 76 (by omega)), ?_, ?_, fun i hi => ?_, (k0 23 (by omega)).trans h6, fun j hj => ?_⟩
  · rcases h3 with ⟨z1, z2⟩ | ⟨V, P, K, z1, z2, z3⟩
    · exact Or.inl ⟨z1, (k0 85 (by omega)).trans z2⟩
    · exact Or.inr ⟨V, P, K, z1, (k0 85 (by omega)).trans z2, z3.fr (fun j _ => by rw [kk 108 (by omega) (by omega)]) (kk 109 (by omega) (by omega)) (kk 110 (by omega) (by omega)) (k0 86 (by omega)) (k0 87 (by omega))⟩
  · rw [puI_eq]
    show (((aT A).length + 1 : Nat) : Int) = ((aT A ++ [b]).length : Int)
    rw [List.length_append, List.length_singleton]
  · have hi : i < (aT A ++ [b]).length := hi
    rw [List.length_append, List.length_singleton] at hi
    show _ = (((aT A ++ [b]).getD i 0 : Nat) : Int)
    rw [puI_k (by omega)]
    by_cases e : i = (aT A).length
    · rw [e, puI_eq, getT_r]
    · rw [puI_nj e, getT_l (by omega)]
      exact h5 i (by omega)
  · rw [kk 74 (by omega) (by omega)]
    exact h7 j hj
/-- one byte -/
theorem c_put1 (h : CH A M) (hl : (aT A).length < 700) (a : Int) {s : Int} (hs : 0 ≤ s) (hs2 : s ≤ 24) : ∃ M', kb X d 151 (n + 1) 3 [some (rv 0), some (iv a), some (iv s)] [] M = kb X d 151 n 3 [some (rv 0), some (iv a), some (iv (s - 8))] [] M' ∧ CH (sT A (aT A ++ [by8 a s])) M' ∧ kC M M' ∧ M'.1 = M.1 := by
  have h1 : M.2.1 0 1 = ((aT A).length : Int) := h.2.2.2.1
  have e1 : wr (s + (-8)) = s - 8 := by
    rw [wri (by omega) (by omega)]
    omega
  have e2 : bnar (bnar (ishr a s)) = sby (by8 a s) := bnar2 _
  rw [q_151_0_at3, if_neg (by omega), h1, if_pos (by omega), gdx (by omega) (by omega), e1, e2, Int.toNat_natCast, wr_succ (by omega)]
  exact ⟨_, rfl, h.T _, (kC.rf.pu (by omega) _ _).pu (by omega) _ _, rfl⟩
theorem m_put1 (h : MH A M) (hl : (aT A).length < 700) (a : Int) {s : Int} (hs : 0 ≤ s) (hs2 : s ≤ 24) : ∃ M', kb X d 215 (n + 1) 3 [some (rv 59), some (iv a), some (iv s)] [] M = kb X d 215 n 3 [some (rv 59), some (iv a), some (iv (s - 8))] [] M' ∧ MH (sT A (aT A ++ [by8 a s])) M' ∧ kM M M' := by
  have h1 : M.2.1 59 21 = ((aT A).length : Int) := h.2.2.2.1
  have e1 : wr (s + (-8)) = s - 8 := by
    rw [wri (by omega) (by omega)]
    omega
  rw [q_215_59_at3, if_neg (by omega), h1, gdx (by omega) (by omega), e1, by8_i, Int.toNat_natCast, wr_succ (by omega)]
  exact ⟨_, rfl, h.T _, (kM.rf.pu (by omega) _ _).pu (by omega) _ _⟩
theorem sT_T (A : AS) (T : List Nat) : aT (sT A T) = T := rfl
theorem sT_sT (A : AS) (T U : List Nat) : sT (sT A T) U = sT A U := rfl
theorem c_put (h : CH A M) (hl : (aT A).length + 4 ≤ 700) (a : Int) : ∃ M', fn X (d + 1) 151 [rv 0, iv a] M = oV M' ∧ CH (sT A (aT A ++ byts a)) M' ∧ kC M M' ∧ M'.1 = M.1 := by
  obtain ⟨n, hn⟩ : ∃ n, FU = n + 1 + 1 + 1 + 1 + 1 := ⟨FU - 5, by have := FU_ge; omega⟩
  rw [q_151_0, hn]
  obtain ⟨M1, a1, a2, a3, a4⟩ := c_put1 (X := X) (d := d) (n := n + 1 + 1 + 1 + 1) h (by omega) a (s := 24) (by omega) (by omega)
  obtain ⟨M2, b1, b2, b3, b4⟩ := c_put1 (X := X) (d := d) (n := n + 1 + 1 + 1) a2 (by rw [sT_T]; simp; omega) a (s := 24 - 8) (by omega) (by omega)
  obtain ⟨M3, c1, c2, c3, c4⟩ := c_put1 (X := X) (d := d) (n := n + 1 + 1) b2 (by simp only [sT_T]; simp; omega) a (s := 24 - 8 - 8) (by omega) (by omega)
  obtain ⟨M4, d1, d2, d3, d4⟩ := c_put1 (X := X) (d := d) (n := n + 1) c2 (by simp only [sT_T]; simp; omega) a (s := 24 - 8 - 8 - 8) (by omega) (by omega)
  rw [a1, b1, c1, d1, q_151_0_at3, if_pos (by omega)]
  refine ⟨M4, rfl, ?_, ((a3.tr b3).tr c3).tr d3, d4.trans (c4.trans (b4.trans a4))⟩
  simp only [sT_T, sT_sT, List.append_assoc] at d2
  exact d2
theorem m_put (h : MH A M) (hl : (aT A).length + 4 ≤ 700) (a : Int) : ∃ M', fn X (d + 1) 215 [rv 59, iv a] M = oV M' ∧ MH (sT A (aT A ++ byts a)) M' ∧ kM M M' := by
  obtain ⟨n, hn⟩ : ∃ n, FU = n + 1 + 1 + 1 + 1 + 1 := ⟨FU - 5, by have := FU_ge; omega⟩
  rw [q_215_59, hn]
  obtain ⟨M1, a1, a2, a3⟩ := m_put1 (X := X) (d := d) (n := n + 1 + 1 + 1 + 1) h (by omega) a (s := 24) (by omega) (by omega)
  obtain ⟨M2, b1, b2, b3⟩ := m_put1 (X := X) (d := d) (n := n + 1 + 1 + 1) a2 (by rw [sT_T]; simp; omega) a (s := 24 - 8) (by omega) (by omega)
  obtain ⟨M3, c1, c2, c3⟩ := m_put1 (X := X) (d := d) (n := n + 1 + 1) b2 (by simp only [sT_T]; simp; omega) a (s := 24 - 8 - 8) (by omega) (by omega)
  obtain ⟨M4, d1, d2, d3⟩ := m_put1 (X := X) (d := d) (n := n + 1) c2 (by simp only [sT_T]; simp; omega) a (s := 24 - 8 - 8 - 8) (by omega) (by omega)
  rw [a1, b1, c1, d1, q_215_59_at3, if_pos (by omega)]
  refine ⟨M4, rfl, ?_, ((a3.tr b3).tr c3).tr d3⟩
  simp only [sT_T, sT_sT, List.append_assoc] at d2
  exact d2
noncomputable def fedA (A : AS) (a0 a1 a2 a3 a4 : Int) : AS := if (aT A).length + 20 ≤ 700 then sT A (aT A ++ (byts a0 ++ (byts a1 ++ (byts a2 ++ (byts a3 ++ byts a4))))) else A
def fedV (A : AS) : Int := if (aT A).length + 20 ≤ 700 then ((aT A).length : Int) + 20 else -1
theorem OKA.fed (h : OKA A) (a0 a1 a2 a3 a4 : Int) : OKA (fedA A a0 a1 a2 a3 a4) := by
  unfold fedA
  split
  · rename_i hl
    obtain ⟨h1, h2, h3, h4, h5, h6, h7, h8⟩ := h
    refine ⟨h1, h2, h3, h4, h5, h6, ?_, fun b hb => ?_⟩
    · show (aT A ++ (byts a0 ++ (byts a1 ++ (byts a2 ++ (byts a3 ++ byts a4))))).length ≤ 700
      simp [byts]
      omega
    · have hb : b ∈ aT A ++ (byts a0 ++ (byts a1 ++ (byts a2 ++ (byts a3 ++ byts a4)))) := hb
      have hy : ∀ a, b ∈ byts a → b ≤ 255 := by
        intro a hm
        unfold byts at hm
        simp only [List.mem_cons, List.not_mem_nil, or_false] at hm
        rcases hm with rfl | rfl | rfl | rfl <;> exact by8_le _ _
      simp only [List.mem_append] at hb
      rcases hb with hb | hb | hb | hb | hb | hb
      · exact h8 b hb
      · exact hy _ hb
      · exact hy _ hb
      · exact hy _ hb
      · exact hy _ hb
      · exact hy _ hb
  · exact h
theorem byts_l (a : Int) : (byts a).length = 4 := rfl
theorem c_feed (hA : OKA A) (h : CH A M) (a0 a1 a2 a3 a4 : Int) : ∃ M', fn X (d + 2) 150 [rv 0, iv a0, iv a1, iv a2, iv a3, iv a4] M = oI (fedV A) M' ∧ CH (fedA A a0 a1 a2 a3 a4) M' ∧ kC M M' ∧ M'.1 = M.1 := by
  have hl := hA.2.2.2.2.2.2.1
  have h1 : M.2.1 0 1 = ((aT A).length : Int) := h.2.2.2.1
  rw [q_150_0, h1, wri (by omega) (by omega)]
  unfold fedA fedV
  by_cases e : (aT A).length + 20 ≤ 700
  · rw [if_neg (by omega), if_pos e, if_pos e]
    obtain ⟨M1, p1, p2, p3, p4⟩ := c_put (X := X) (d := d) h (by omega) a0
    obtain ⟨M2, b1, b2, b3, b4⟩ := c_put (X := X) (d := d) p2 (by simp only [sT_T, List.length_append, byts_l]; omega) a1
    obtain ⟨M3, c1, c2, c3, c4⟩ := c_put (X := X) (d := d) b2 (by simp only [sT_T, List.length_append, byts_l]; omega) a2
    obtain ⟨M4, d1, d2, d3, d4⟩ := c_put (X := X) (d := d) c2 (by simp only [sT_T, List.length_append, byts_l]; omega) a3
    obtain ⟨M5, e1, e2, e3, e4⟩ := c_put (X := X) (d := d) d2 (by simp only [sT_T, List.length_append, byts_l]; omega) a4
    simp only [sT_T, sT_sT, List.append_assoc] at e2
    have l5 : M5.2.1 0 1 = ((aT A).length : Int) + 20 := by
      have := e2.2.2.2.1
      simp only [sT_T, List.length_append, byts_l] at this
      rw [this]
      omega
    rw [p1, cV_V, b1, cV_V, c1, cV_V, d1, cV_V, e1, cV_V, l5]
    exact ⟨M5, rfl, e2, (((p3.tr b3).tr c3).tr d3).tr e3, e4.trans (d4.trans (c4.trans (b4.trans p4)))⟩
  · rw [if_pos (by omega), if_neg e, if_neg e]
    exact ⟨M, rfl, h, kC.rf, rfl⟩
theorem m_feed (hA : OKA A) (h : MH A M) (a0 a1 a2 a3 a4 : Int) : ∃ M', fn X (d + 2) 214 [rv 59, iv a0, iv a1, iv a2, iv a3, iv a4] M = oI (fedV A) M' ∧ MH (fedA A a0 a1 a2 a3 a4) M' ∧ kM M M' := by
  have hl := hA.2.2.2.2.2.2.1
  have h1 : M.2.1 59 21 = ((aT A).length : Int) := h.2.2.2.1
  obtain ⟨h0, z0, k0⟩ := m_0 h
  rw [q_214_59, h1, wri (by omega) (by omega)]
  generalize puI M 59 0 0 = M0 at *
  unfold fedA fedV
  by_cases e : (aT A).length + 20 ≤ 700
  · rw [if_neg (by omega), if_pos e, if_pos e]
    obtain ⟨M1, p1, p2, p3⟩ := m_put (X := X) (d := d) h0 (by omega) a0
    obtain ⟨M2, b1, b2, b3⟩ := m_put (X := X) (d := d) p2 (by simp only [sT_T, List.length_append, byts_l]; omega) a1
    obtain ⟨M3, c1, c2, c3⟩ := m_put (X := X) (d := d) b2 (by simp only [sT_T, List.length_append, byts_l]; omega) a2
    obtain ⟨M4, d1, d2, d3⟩ := m_put (X := X) (d := d) c2 (by simp only [sT_T, List.length_append, byts_l]; omega) a3
    obtain ⟨M5, e1, e2, e3⟩ := m_put (X := X) (d := d) d2 (by simp only [sT_T, List.length_append, byts_l]; omega) a4
    simp only [sT_T, sT_sT, List.append_assoc] at e2
    have l5 : M5.2.1 59 21 = ((aT A).length : Int) + 20 := by
      have := e2.2.2.2.1
      simp only [sT_T, List.length_append, byts_l] at this
      rw [this]
      omega
    rw [p1, cV_V, b1, cV_V, c1, cV_V, d1, cV_V, e1, cV_V, l5]
    exact ⟨M5, rfl, e2, k0.tr ((((p3.tr b3).tr c3).tr d3).tr e3)⟩
  · rw [if_pos (by omega), if_neg e, if_neg e]
    exact ⟨M0, rfl, h0, k0⟩
end C57
