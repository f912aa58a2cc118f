/-! ===== the past, both sides ===== -/
def pushP (P : List WD) (W : WD) : List WD := if P.length < 40 then P ++ [W] else P.tail ++ [W]
def sD (A : AS) (W : WD) (P : List WD) (K : List MK) : AS := (A.1, W, P, K, A.2.2.2.2)
def sR (A : AS) (i : Nat) : AS := (A.1, A.2.1, A.2.2.1, A.2.2.2.1, A.2.2.2.2.1, A.2.2.2.2.2.1, A.2.2.2.2.2.2.1, A.2.2.2.2.2.2.2)
noncomputable def sRe (A : AS) (i : Nat) : AS := (A.1, A.2.1, A.2.2.1, A.2.2.2.1, A.2.2.2.2.1, A.2.2.2.2.2.1, A.2.2.2.2.2.2.1, fun j => if j = i then wr (aR A i + 1) else aR A j)
theorem puA_k {M : rM} {k a : Nat} {f : Nat → Int} (h : a ≠ k) : (puA M k f).2.1 a = M.2.1 a := by
  show va_up M.2.1 k f a = _
  unfold va_up
  rw [if_neg h]
theorem puA_eq {M : rM} {k : Nat} {f : Nat → Int} : (puA M k f).2.1 k = f := by
  show va_up M.2.1 k f k = _
  unfold va_up
  rw [if_pos rfl]
theorem getD_l {P : List WD} {W : WD} {i : Nat} (h : i < P.length) : (P ++ [W]).getD i W00 = P.getD i W00 := by
  rw [List.getD_eq_getElem?_getD, List.getElem?_append_left h, List.getD_eq_getElem?_getD]
theorem getD_r {P : List WD} {W : WD} : (P ++ [W]).getD P.length W00 = W := by
  rw [List.getD_eq_getElem?_getD, List.getElem?_append_right (Nat.le_refl _), Nat.sub_self]
  rfl
theorem getD_t {P : List WD} {i : Nat} : P.tail.getD i W00 = P.getD (i + 1) W00 := by
  cases P with
  | nil => rfl
  | cons a r => rfl
theorem cl_lt {n j : Nat} (h : okI n j) : cl j < 27 := by
  unfold okI at h
  unfold cl
  split <;> omega
theorem okj {n j : Nat} (h : okI n j) : j < 27 := by
  unfold okI at h
  omega
section C51
variable {X : Nat × (Nat → Int32)} {d : Nat} {M M1 M' : rM} {A A' : AS} {S : SK} {W V : WD} {P Q : List WD} {K : List MK} {n : Nat}
theorem CH.D (h : CH A M) (hd : CWd 31 (nC (aS A)) W P K M') (e : ∀ k j, eC k j = true → ¬ (31 ≤ k ∧ k ≤ 35) → M'.2.1 k j = M.2.1 k j) : CH (sD A W P K) M' := by
  have ek : ∀ k, (∀ j, eC k j = true) → ¬ (31 ≤ k ∧ k ≤ 35) → M'.2.1 k = M.2.1 k := fun k hk hn => by
    funext j
    exact e k j (hk j) hn
  have e36 : ∀ k, k = 36 ∨ k = 36 + 1 ∨ k = 36 + 2 ∨ k = 36 + 4 → M'.2.1 k = M.2.1 k := by
    rintro k (rfl | rfl | rfl | rfl) <;> exact ek _ (fun j => by simp [eC]) (by omega)
  obtain ⟨h1, h2, h3, h4, h5, h6, h7, h8, h9, h10, h11⟩ := h
  refine ⟨h1.fr (fun k z1 z2 => ek k (fun j => by simp [eC, z1, z2]) (by omega)), hd, ?_, ?_, ?_, ?_, ?_, ?_, ?_, ?_, ?_⟩
  · rcases h3 with ⟨z1, z2⟩ | ⟨V, P, K, z1, z2, z3⟩
    · exact Or.inl ⟨z1, by rw [e 0 9 (by decide) (by omega)]; exact z2⟩
    · exact Or.inr ⟨V, P, K, z1, by rw [e 0 9 (by decide) (by omega)]; exact z2, z3.fr e36⟩
  · rw [e 0 1 (by decide) (by omega)]; exact h4
  · intro i hi
    rw [ek 1 (fun j => by simp [eC]) (by omega)]; exact h5 i hi
  · rw [e 0 2 (by decide) (by omega)]; exact h6
  · intro j hj
    rw [ek 2 (fun j => by simp [eC]) (by omega)]; exact h7 j hj
  · rw [e 17 2 (by decide) (by omega)]; exact h8
  · rw [e 19 2 (by decide) (by omega)]; exact h9
  · rw [e 21 2 (by decide) (by omega)]; exact h10
  · rw [e 23 2 (by decide) (by omega)]; exact h11
theorem CH.Re (h : CH A M) {i : Nat} (hi : i < 3) : CH (sRe A i) (puI M 2 i (wr (M.2.1 2 i + 1))) := by
  have h' : CH A (puA (puI M 2 i (wr (M.2.1 2 i + 1))) 2 (M.2.1 2)) := h.fr (fun k j _ => by
    by_cases e : k = 2
    · subst e
      rw [puA_eq]
    · rw [puA_k e, puI_ne e])
  obtain ⟨h1, h2, h3, h4, h5, h6, h7, h8⟩ := h'
  have ek : ∀ k, k ≠ 2 → (puA (puI M 2 i (wr (M.2.1 2 i + 1))) 2 (M.2.1 2)).2.1 k = (puI M 2 i (wr (M.2.1 2 i + 1))).2.1 k := fun k hk => puA_k hk
  refine ⟨h1.fr (fun k _ _ => (ek k (by omega)).symm), h2.fr (fun k hk => (ek k (by omega)).symm), ?_, h4, h5, h6, ?_, h8⟩
  · rcases h3 with ⟨z1, z2⟩ | ⟨V, P, K, z1, z2, z3⟩
    · exact Or.inl ⟨z1, z2⟩
    · exact Or.inr ⟨V, P, K, z1, z2, z3.fr (fun k hk => (ek k (by omega)).symm)⟩
  · intro j hj
    have hr := h.2.2.2.2.2.2.1
    show _ = if j = i then wr (aR A i + 1) else aR A j
    rw [puI_at, if_pos rfl]
    by_cases e : j = i
    · rw [if_pos e, if_pos e, hr i hi]
    · rw [if_neg e, if_neg e, hr j hj]
theorem MH.D (h : MH A M) (hd : MWd 91 92 104 61 76 (nC (aS A)) W P K M') (e : ∀ k j, eM k j = true → ¬ (k = 91 ∨ k = 92 ∨ k = 104 ∨ (k = 59 ∧ (j = 61 ∨ j = 76))) → M'.2.1 k j = M.2.1 k j) : MH (sD A W P K) M' := by
  have ek : ∀ k, (∀ j, eM k j = true) → ¬ (k = 59 ∨ k = 91 ∨ k = 92 ∨ k = 104) → M'.2.1 k = M.2.1 k := fun k hk hn => by
    funext j
    exact e k j (hk j) (by omega)
  obtain ⟨h1, h2, h3, h4, h5, h6, h7⟩ := h
  refine ⟨h1.fr (fun k z1 z2 => ek k (fun j => by simp [eM]; omega) (by omega)) (fun j z1 z2 => e 59 j (by simp [eM]; omega) (by omega)), hd, ?_, ?_, ?_, ?_, ?_⟩
  · rcases h3 with ⟨z1, z2⟩ | ⟨V, P, K, z1, z2, z3⟩
    · exact Or.inl ⟨z1, by rw [e 59 85 (by decide) (by omega)]; exact z2⟩
    · exact Or.inr ⟨V, P, K, z1, by rw [e 59 85 (by decide) (by omega)]; exact z2, z3.fr (fun j _ => e 108 j (by simp [eM]) (by omega)) (ek 109 (fun j => by simp [eM]) (by omega)) (ek 110 (fun j => by simp [eM]) (by omega)) (e 59 86 (by decide) (by omega)) (e 59 87 (by decide) (by omega))⟩
  · rw [e 59 21 (by decide) (by omega)]; exact h4
  · intro i hi
    rw [ek 73 (fun j => by simp [eM]) (by omega)]; exact h5 i hi
  · rw [e 59 23 (by decide) (by omega)]; exact h6
  · intro j hj
    rw [ek 74 (fun j => by simp [eM]) (by omega)]; exact h7 j hj
theorem MH.Re (h : MH A M) {i : Nat} (hi : i < 3) : MH (sRe A i) (puI M 74 i (wr (M.2.1 74 i + 1))) := by
  have h' : MH A (puA (puI M 74 i (wr (M.2.1 74 i + 1))) 74 (M.2.1 74)) := h.fr (fun k j _ => by
    by_cases e : k = 74
    · subst e
      rw [puA_eq]
    · rw [puA_k e, puI_ne e])
  obtain ⟨h1, h2, h3, h4, h5, h6, h7⟩ := h'
  have ek : ∀ k, k ≠ 74 → (puA (puI M 74 i (wr (M.2.1 74 i + 1))) 74 (M.2.1 74)).2.1 k = (puI M 74 i (wr (M.2.1 74 i + 1))).2.1 k := fun k hk => puA_k hk
  refine ⟨h1.fr (fun k _ _ => (ek k (by omega)).symm) (fun j _ _ => rfl), h2.fr (fun j _ => rfl) rfl rfl rfl rfl, ?_, h4, h5, h6, ?_⟩
  · rcases h3 with ⟨z1, z2⟩ | ⟨V, P, K, z1, z2, z3⟩
    · exact Or.inl ⟨z1, z2⟩
    · exact Or.inr ⟨V, P, K, z1, z2, z3.fr (fun j _ => rfl) rfl rfl rfl rfl⟩
  · intro j hj
    have hr := h.2.2.2.2.2.2
    show _ = if j = i then wr (aR A i + 1) else aR A j
    rw [puI_at, if_pos rfl]
    by_cases e : j = i
    · rw [if_pos e, if_pos e, hr i hi]
    · rw [if_neg e, if_neg e, hr j hj]
/-- a state is kept -/
theorem c_keep (h : CWd 31 n W P K M) (hP : P.length ≤ 40) : ∃ M', fn X (d + 1) 143 [rv 31] M = oV M' ∧ CWd 31 n W (pushP P W) K M' ∧ (∀ k, k ≠ 31 → k ≠ 32 → M'.2.1 k = M.2.1 k) ∧ M'.1 = M.1 ∧ M'.2.2 = M.2.2 := by
  obtain ⟨h1, ⟨o, h2, h3, h4⟩, h5, h6, h7⟩ := h
  have e1 : wr ((o : Int) + (P.length : Int)) = ((o + P.length : Nat) : Int) := by
    rw [wri (by omega) (by omega)]
    omega
  have e2 : irm ((o + P.length : Nat) : Int) 40 = (((o + P.length) % 40 : Nat) : Int) := irm_nat (b := 40) (by omega) (by omega)
  have e3 : wr ((((o + P.length) % 40 : Nat) : Int) * 27) = ((27 * ((o + P.length) % 40) : Nat) : Int) := by
    rw [wri (by omega) (by omega)]
    omega
  rw [q_143_31, h2, h5, e1, e2, e3, gdp ⟨by omega, by omega, by omega, by omega, by omega⟩, Int.toNat_natCast]
  -- the copy
  have cp : ∀ i, (puA M 32 (va_cpy (M.2.1 35) (M.2.1 32) 0 (27 * ((o + P.length) % 40)) 27)).2.1 32 i = if 27 * ((o + P.length) % 40) ≤ i ∧ i < 27 * ((o + P.length) % 40) + 27 then M.2.1 35 (i - 27 * ((o + P.length) % 40)) else M.2.1 32 i := by
    intro i
    rw [puA_eq]
    unfold va_cpy
    rw [Nat.zero_add]
  have new : ∀ M2 : rM, M2.2.1 32 = (puA M 32 (va_cpy (M.2.1 35) (M.2.1 32) 0 (27 * ((o + P.length) % 40)) 27)).2.1 32 → CW 32 (27 * ((o + P.length) % 40)) n W M2 := by
    intro M2 hm j hj
    have hcl := cl_lt hj
    have := h1 j hj
    rw [Nat.zero_add] at this
    rw [hm, cp, if_pos (by omega), show 27 * ((o + P.length) % 40) + cl j - 27 * ((o + P.length) % 40) = cl j by omega]
    exact this
  have old : ∀ (M2 : rM) (s : Nat) (V : WD), M2.2.1 32 = (puA M 32 (va_cpy (M.2.1 35) (M.2.1 32) 0 (27 * ((o + P.length) % 40)) 27)).2.1 32 → s ≠ (o + P.length) % 40 → CW 32 (27 * s) n V M → CW 32 (27 * s) n V M2 := by
    intro M2 s V hm hs hc j hj
    have hcl := cl_lt hj
    rw [hm, cp, if_neg (by omega)]
    exact hc j hj
  by_cases hf : P.length < 40
  · rw [if_pos (by omega), wr_succ (by omega)]
    refine ⟨_, rfl, ?_, fun k z1 z2 => (puI_k z1).trans (puA_k z2), rfl, rfl⟩
    have hm : (puI (puA M 32 (va_cpy (M.2.1 35) (M.2.1 32) 0 (27 * ((o + P.length) % 40)) 27)) 31 3 ((P.length + 1 : Nat) : Int)).2.1 32 = (puA M 32 (va_cpy (M.2.1 35) (M.2.1 32) 0 (27 * ((o + P.length) % 40)) 27)).2.1 32 := puI_k (by omega)
    unfold pushP
    rw [if_pos hf]
    refine ⟨h1.fr ((puI_k (by omega)).trans (puA_k (by omega))), ⟨o, ?_, h3, fun i hi => ?_⟩, ?_, ?_, fun i hi => ?_⟩
    · rw [puI_nj (by omega), puA_k (by omega)]
      exact h2
    · rw [List.length_append, List.length_singleton] at hi
      by_cases e : i = P.length
      · subst e
        rw [getD_r]
        exact new _ hm
      · rw [getD_l (by omega)]
        exact old _ _ _ hm (by omega) (h4 i (by omega))
    · rw [puI_eq, List.length_append]
      rfl
    · rw [puI_nj (by omega), puA_k (by omega)]
      exact h6
    · rw [puI_k (by omega), puA_k (by omega)]
      exact h7 i hi
  · have hl : P.length = 40 := by omega
    have e4 : irm (wr ((o : Int) + 1)) 40 = (((o + 1) % 40 : Nat) : Int) := by
      rw [wr_succ (by omega)]
      exact irm_nat (b := 40) (by omega) (by omega)
    rw [if_neg (by omega), e4]
    refine ⟨_, rfl, ?_, fun k z1 z2 => (puI_k z1).trans (puA_k z2), rfl, rfl⟩
    have hm : (puI (puA M 32 (va_cpy (M.2.1 35) (M.2.1 32) 0 (27 * ((o + P.length) % 40)) 27)) 31 2 (((o + 1) % 40 : Nat) : Int)).2.1 32 = (puA M 32 (va_cpy (M.2.1 35) (M.2.1 32) 0 (27 * ((o + P.length) % 40)) 27)).2.1 32 := puI_k (by omega)
    unfold pushP
    rw [if_neg hf]
    have htl : P.tail.length = 39 := by rw [List.length_tail]; omega
    refine ⟨h1.fr ((puI_k (by omega)).trans (puA_k (by omega))), ⟨(o + 1) % 40, puI_eq _ _ _ _, by omega, fun i hi => ?_⟩, ?_, ?_, fun i hi => ?_⟩
    · rw [List.length_append, List.length_singleton, htl] at hi
      by_cases e : i = 39
      · subst e
        have := getD_r (P := P.tail) (W := W)
        rw [htl] at this
        rw [this, show ((o + 1) % 40 + 39) % 40 = (o + P.length) % 40 by omega]
        exact new _ hm
      · rw [getD_l (by omega), getD_t, show ((o + 1) % 40 + i) % 40 = (o + (i + 1)) % 40 by omega]
        exact old _ _ _ hm (by omega) (h4 (i + 1) (by omega))
    · rw [puI_nj (by omega), puA_k (by omega), h5, List.length_append, List.length_singleton, htl, hl]
    · rw [puI_nj (by omega), puA_k (by omega)]
      exact h6
    · rw [puI_k (by omega), puA_k (by omega)]
      exact h7 i hi
theorem m_keep2 {a : Nat} (ha : a < 40) (h : M.2.1 59 61 = (a : Int)) (m : Nat) : ∃ M', kb X d 246 (m + 30) 52 [some (rv 59), some (iv 0)] [] M = oV M' ∧ (∀ j, j < 27 → M'.2.1 92 (27 * a + j) = M.2.1 91 j) ∧ (∀ i, ¬ (27 * a ≤ i ∧ i < 27 * a + 27) → M'.2.1 92 i = M.2.1 92 i) ∧ M'.2.1 59 61 = ((a + 1 : Nat) : Int) ∧ (∀ k j, k ≠ 92 → ¬ (k = 59 ∧ j = 61) → M'.2.1 k j = M.2.1 k j) ∧ M'.1 = M.1 ∧ M'.2.2 = M.2.2 := by
  refine loop_st (σ := rM) (fun c M1 => (∀ j, j < c → M1.2.1 92 (27 * a + j) = M.2.1 91 j) ∧ (∀ i, ¬ (27 * a ≤ i ∧ i < 27 * a + c) → M1.2.1 92 i = M.2.1 92 i) ∧ (∀ k, k ≠ 92 → M1.2.1 k = M.2.1 k) ∧ M1.1 = M.1 ∧ M1.2.2 = M.2.2) (fun n c M1 => kb X d 246 n 52 [some (rv 59), some (iv (c : Int))] [] M1) (fun r => ∃ M', r = oV M' ∧ (∀ j, j < 27 → M'.2.1 92 (27 * a + j) = M.2.1 91 j) ∧ (∀ i, ¬ (27 * a ≤ i ∧ i < 27 * a + 27) → M'.2.1 92 i = M.2.1 92 i) ∧ M'.2.1 59 61 = ((a + 1 : Nat) : Int) ∧ (∀ k j, k ≠ 92 → ¬ (k = 59 ∧ j = 61) → M'.2.1 k j = M.2.1 k j) ∧ M'.1 = M.1 ∧ M'.2.2 = M.2.2) 27 ?_ ?_ 27 0 (m + 30) M (by omega) (by omega) ⟨fun j hj => by omega, fun i _ => rfl, fun k _ => rfl, rfl, rfl⟩
  · rintro n c M1 hc ⟨i1, i2, i3, i4, i5⟩
    left
    have e1 : wr (wr (27 * (a : Int)) + (c : Int)) = ((27 * a + c : Nat) : Int) := by
      rw [wri (x := 27 * (a : Int)) (by omega) (by omega), wri (by omega) (by omega)]
      omega
    rw [q_246_59_at52, if_pos (by omega), gdx (by omega) (by omega), i3 59 (by omega), h, e1, gdx (by omega) (by omega), Int.toNat_natCast, Int.toNat_natCast, wr_succ (by omega), i3 91 (by omega)]
    refine ⟨_, rfl, fun j hj => ?_, fun i hi => ?_, fun k hk => (puI_k hk).trans (i3 k hk), i4, i5⟩
    · by_cases e : j = c
      · subst e
        rw [puI_eq]
      · rw [puI_nj (by omega)]
        exact i1 j (by omega)
    · rw [puI_nj (by omega)]
      exact i2 i (by omega)
  · rintro n M1 ⟨i1, i2, i3, i4, i5⟩
    rw [q_246_59_at52, if_neg (by omega), i3 59 (by omega), h, wr_succ (by omega)]
    refine ⟨_, rfl, fun j hj => ?_, fun i hi => ?_, puI_eq _ _ _ _, fun k j z1 z2 => ?_, i4, i5⟩
    · rw [puI_k (by omega)]
      exact i1 j hj
    · rw [puI_k (by omega)]
      exact i2 i hi
    · rw [puI_at]
      by_cases e : k = 59
      · rw [if_pos e, if_neg (fun z => z2 ⟨e, z⟩), i3 59 (by omega), e]
      · rw [if_neg e, i3 k z1]
theorem m_keep (h : MWd 91 92 104 61 76 n W P K M) (hP : P.length ≤ 40) : ∃ M', fn X (d + 1) 246 [rv 59] M = oV M' ∧ MWd 91 92 104 61 76 n W (pushP P W) K M' ∧ (∀ k j, k ≠ 92 → ¬ (k = 59 ∧ j = 61) → M'.2.1 k j = M.2.1 k j) ∧ M'.1 = M.1 ∧ M'.2.2 = M.2.2 := by
  obtain ⟨h1, h2, h3, h4, h5⟩ := h
  rw [q_246_59, h2]
  unfold pushP
  by_cases hf : P.length < 40
  · rw [if_neg (by omega), if_pos hf]
    obtain ⟨m, hm⟩ : ∃ m, FU = m + 30 := ⟨FU - 30, by have := FU_ge; omega⟩
    rw [hm]
    obtain ⟨M', g1, g2, g3, g4, g5, g6, g7⟩ := m_keep2 (X := X) (d := d) hf h2 m
    refine ⟨M', g1, ⟨h1.fr (fun j _ _ => g5 91 j (by omega) (by omega)), ?_, fun i hi => ?_, ?_, fun i hi => ?_⟩, g5, g6, g7⟩
    · rw [g4, List.length_append]
      rfl
    · rw [List.length_append, List.length_singleton] at hi
      by_cases e : i = P.length
      · subst e
        rw [getD_r]
        intro j hj
        have := h1 j hj
        rw [Nat.zero_add] at this
        rw [g2 j (okj hj)]
        exact this
      · rw [getD_l (by omega)]
        intro j hj
        have := okj hj
        rw [g3 _ (by omega)]
        exact h3 i (by omega) j hj
    · rw [g5 59 76 (by omega) (by omega)]
      exact h4
    · rw [show M'.2.1 104 = M.2.1 104 from funext (fun j => g5 104 j (by omega) (by omega))]
      exact h5 i hi
  · have hl : P.length = 40 := by omega
    rw [if_pos (by omega), if_neg hf]
    have htl : P.tail.length = 39 := by rw [List.length_tail]; omega
    refine loop_k (σ := rM) 31 (fun c M1 => (∀ j, j < c → M1.2.1 92 j = M.2.1 92 (j + 27)) ∧ (∀ j, c ≤ j → M1.2.1 92 j = M.2.1 92 j) ∧ (∀ k, k ≠ 92 → M1.2.1 k = M.2.1 k) ∧ M1.1 = M.1 ∧ M1.2.2 = M.2.2) (fun n c M1 => kb X d 246 n 12 [some (rv 59), some (iv ((c + 27 : Nat) : Int))] [] M1) (fun r => ∃ M', r = oV M' ∧ MWd 91 92 104 61 76 n W (P.tail ++ [W]) K M' ∧ (∀ k j, k ≠ 92 → ¬ (k = 59 ∧ j = 61) → M'.2.1 k j = M.2.1 k j) ∧ M'.1 = M.1 ∧ M'.2.2 = M.2.2) 1053 ?_ ?_ 1053 0 FU M (by omega) (by have := FU_ge; omega) ⟨fun j hj => by omega, fun j _ => rfl, fun k _ => rfl, rfl, rfl⟩
    · rintro m c M1 hc ⟨i1, i2, i3, i4, i5⟩
      left
      have e1 : wr (((c + 27 : Nat) : Int) - 27) = (c : Int) := by
        rw [wri (by omega) (by omega)]
        omega
      have e2 : wr (((c + 27 : Nat) : Int) + 1) = ((c + 1 + 27 : Nat) : Int) := by
        rw [wri (by omega) (by omega)]
        omega
      refine ⟨30, puI M1 92 c (M1.2.1 92 (c + 27)), ?_, fun j hj => ?_, fun j hj => ?_, fun k hk => (puI_k hk).trans (i3 k hk), i4, i5⟩
      · show kb X d 246 (m + 30 + 1) 12 _ [] M1 = _
        rw [q_246_59_at12, if_pos (by omega), gdx (by omega) (by omega), e1, gdx (by omega) (by omega), e2, Int.toNat_natCast, Int.toNat_natCast]
      · by_cases e : j = c
        · subst e
          rw [puI_eq]
          exact i2 _ (by omega)
        · rw [puI_nj e]
          exact i1 j (by omega)
      · rw [puI_nj (by omega)]
        exact i2 j (by omega)
    · rintro m M1 ⟨i1, i2, i3, i4, i5⟩
      have e1 : wr ((40 : Int) - 1) = ((39 : Nat) : Int) := by
        rw [wri (by omega) (by omega)]
        rfl
      show ∃ M', kb X d 246 (m + 30 + 1) 12 _ [] M1 = oV M' ∧ _
      rw [q_246_59_at12, if_neg (by omega), i3 59 (by omega), h2, hl]
      erw [e1]
      obtain ⟨M', g1, g2, g3, g4, g5, g6, g7⟩ := m_keep2 (X := X) (d := d) (M := puI M1 59 61 ((39 : Nat) : Int)) (a := 39) (by omega) (puI_eq _ _ _ _) m
      have f92 : (puI M1 59 61 ((39 : Nat) : Int)).2.1 92 = M1.2.1 92 := puI_k (by omega)
      have f91 : (puI M1 59 61 ((39 : Nat) : Int)).2.1 91 = M.2.1 91 := (puI_k (by omega)).trans (i3 91 (by omega))
      have g5' : ∀ k j, k ≠ 92 → ¬ (k = 59 ∧ j = 61) → M'.2.1 k j = M.2.1 k j := by
        intro k j z1 z2
        rw [g5 k j z1 z2, puI_at]
        by_cases e : k = 59
        · rw [if_pos e, if_neg (fun z => z2 ⟨e, z⟩), i3 59 (by omega), e]
        · rw [if_neg e, i3 k z1]
      refine ⟨M', g1, ⟨h1.fr (fun j _ _ => g5' 91 j (by omega) (by omega)), ?_, fun i hi => ?_, ?_, fun i hi => ?_⟩, g5', g6.trans i4, g7.trans i5⟩
      · rw [g4, List.length_append, List.length_singleton, htl]
      · rw [List.length_append, List.length_singleton, htl] at hi
        by_cases e : i = 39
        · subst e
          have := getD_r (P := P.tail) (W := W)
          rw [htl] at this
          rw [this]
          intro j hj
          have := h1 j hj
          rw [Nat.zero_add] at this
          rw [g2 j (okj hj), f91]
          exact this
        · rw [getD_l (by omega), getD_t]
          intro j hj
          have := okj hj
          rw [g3 _ (by omega), f92, i1 _ (by omega), show 27 * i + j + 27 = 27 * (i + 1) + j by omega]
          exact h3 (i + 1) (by omega) j hj
      · rw [g5' 59 76 (by omega) (by omega)]
        exact h4
      · rw [show M'.2.1 104 = M.2.1 104 from funext (fun j => g5' 104 j (by omega) (by omega))]
        exact h5 i hi
end C51
