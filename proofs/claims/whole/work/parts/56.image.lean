/-! ===== image, restore ===== -/
section C56
variable {X : Nat × (Nat → Int32)} {d n : Nat} {M M1 M2 M' : rM} {A A' : AS} {W V : WD} {P : List WD} {K : List MK}
theorem CWd.mv {w v : Nat} (h : CWd w n W P K M) (hK : K.length ≤ 8) (e4 : ∀ j, j < 27 → M'.2.1 (v + 4) j = M.2.1 (w + 4) j) (e1 : ∀ j, j < 1080 → M'.2.1 (v + 1) j = M.2.1 (w + 1) j) (e2 : ∀ j, j < 8 → M'.2.1 (v + 2) j = M.2.1 (w + 2) j) (f2 : M'.2.1 v 2 = M.2.1 w 2) (f3 : M'.2.1 v 3 = M.2.1 w 3) (f5 : M'.2.1 v 5 = M.2.1 w 5) : CWd v n W P K M' := by
  obtain ⟨h1, ⟨o, h2, h3, h4⟩, h5, h6, h7⟩ := h
  refine ⟨fun j hj => ?_, ⟨o, f2.trans h2, h3, fun i hi j hj => ?_⟩, f3.trans h5, f5.trans h6, fun i hi => ?_⟩
  · have := cl_lt hj
    rw [e4 _ (by omega)]
    exact h1 j hj
  · have := cl_lt hj
    rw [e1 _ (by omega)]
    exact h4 i hi j hj
  · rw [e2 i (by omega)]
    exact h7 i hi
theorem MWd.mv {r a k fa fk r' a' k' fa' fk' : Nat} (h : MWd r a k fa fk n W P K M) (hP : P.length ≤ 40) (hK : K.length ≤ 8) (er : ∀ j, j < 27 → M'.2.1 r' j = M.2.1 r j) (ea : ∀ j, j < 1080 → M'.2.1 a' j = M.2.1 a j) (ek : ∀ j, j < 32 → M'.2.1 k' j = M.2.1 k j) (e1 : M'.2.1 59 fa' = M.2.1 59 fa) (e2 : M'.2.1 59 fk' = M.2.1 59 fk) : MWd r' a' k' fa' fk' n W P K M' := by
  obtain ⟨h1, h2, h3, h4, h5⟩ := h
  refine ⟨fun j hj => ?_, e1.trans h2, fun i hi j hj => ?_, e2.trans h4, fun i hi => ?_⟩
  · have := okj hj
    rw [er _ (by omega)]
    exact h1 j hj
  · have := okj hj
    rw [ea _ (by omega)]
    exact h3 i hi j hj
  · rw [ek _ (by omega), ek _ (by omega), ek _ (by omega), ek _ (by omega)]
    exact h5 i hi
def imgA (A : AS) : AS := (A.1, A.2.1, A.2.2.1, A.2.2.2.1, some (aW A, aP A, aK A), A.2.2.2.2.2)
theorem OKA.img (h : OKA A) : OKA (imgA A) := by
  obtain ⟨h1, h2, h3, h4, h5, h6, h7⟩ := h
  refine ⟨h1, h2, h3, h4, h5, fun V P K z => ?_, h7⟩
  have z : some (aW A, aP A, aK A) = some (V, P, K) := z
  simp only [Option.some.injEq, Prod.mk.injEq] at z
  obtain ⟨rfl, rfl, rfl⟩ := z
  exact ⟨h3, h4, h5⟩
theorem CH.I (h : CH A M) (hd : CWd 36 (nC (aS A)) (aW A) (aP A) (aK A) M') (h9 : M'.2.1 0 9 = 1) (e : ∀ k j, eC k j = true → ¬ (36 ≤ k ∧ k ≤ 40) → ¬ (k = 0 ∧ j = 9) → M'.2.1 k j = M.2.1 k j) : CH (imgA A) M' := by
  have ek : ∀ k, (∀ j, eC k j = true) → ¬ (36 ≤ k ∧ k ≤ 40) → k ≠ 0 → M'.2.1 k = M.2.1 k := fun k hk hn h0 => by
    funext j
    exact e k j (hk j) hn (fun z => h0 z.1)
  have e31 : ∀ k, k = 31 ∨ k = 31 + 1 ∨ k = 31 + 2 ∨ k = 31 + 4 → M'.2.1 k = M.2.1 k := by
    rintro k (rfl | rfl | rfl | rfl) <;> exact ek _ (fun j => by simp [eC]) (by omega) (by omega)
  obtain ⟨h1, h2, h3, h4, h5, h6, h7, h8, h9', h10, h11⟩ := h
  refine ⟨h1.fr (fun k z1 z2 => ek k (fun j => by simp [eC, z1, z2]) (by omega) (by omega)), h2.fr e31, Or.inr ⟨_, _, _, rfl, h9, hd⟩, ?_, ?_, ?_, ?_, ?_, ?_, ?_, ?_⟩
  · rw [e 0 1 (by decide) (by omega) (by omega)]; exact h4
  · intro i hi
    rw [ek 1 (fun j => by simp [eC]) (by omega) (by omega)]; exact h5 i hi
  · rw [e 0 2 (by decide) (by omega) (by omega)]; exact h6
  · intro j hj
    rw [ek 2 (fun j => by simp [eC]) (by omega) (by omega)]; exact h7 j hj
  · rw [e 17 2 (by decide) (by omega) (by omega)]; exact h8
  · rw [e 19 2 (by decide) (by omega) (by omega)]; exact h9'
  · rw [e 21 2 (by decide) (by omega) (by omega)]; exact h10
  · rw [e 23 2 (by decide) (by omega) (by omega)]; exact h11
theorem MH.I (h : MH A M) (hd : MWd 108 109 110 86 87 (nC (aS A)) (aW A) (aP A) (aK A) M') (h9 : M'.2.1 59 85 = 1) (e : ∀ k j, eM k j = true → ¬ (k = 108 ∨ k = 109 ∨ k = 110 ∨ (k = 59 ∧ (j = 85 ∨ j = 86 ∨ j = 87))) → M'.2.1 k j = M.2.1 k j) : MH (imgA A) M' := by
  have ek : ∀ k, (∀ j, eM k j = true) → ¬ (k = 59 ∨ k = 108 ∨ k = 109 ∨ k = 110) → M'.2.1 k = M.2.1 k := fun k hk hn => by
    funext j
    exact e k j (hk j) (by omega)
  obtain ⟨h1, h2, h3, h4, h5, h6, h7⟩ := h
  refine ⟨h1.fr (fun k z1 z2 => ek k (fun j => by simp [eM]; omega) (by omega)) (fun j z1 z2 => e 59 j (by simp [eM]; omega) (by omega)), h2.fr (fun j hj => e 91 j (by simp [eM, hj]) (by omega)) (ek 92 (fun j => by simp [eM]) (by omega)) (ek 104 (fun j => by simp [eM]) (by omega)) (e 59 61 (by decide) (by omega)) (e 59 76 (by decide) (by omega)), Or.inr ⟨_, _, _, rfl, h9, hd⟩, ?_, ?_, ?_, ?_⟩
  · rw [e 59 21 (by decide) (by omega)]; exact h4
  · intro i hi
    rw [ek 73 (fun j => by simp [eM]) (by omega)]; exact h5 i hi
  · rw [e 59 23 (by decide) (by omega)]; exact h6
  · intro j hj
    rw [ek 74 (fun j => by simp [eM]) (by omega)]; exact h7 j hj
theorem cpy0 {f g : Nat → Int} {N j : Nat} (h : j < N) : va_cpy f g 0 0 N j = f j := by
  unfold va_cpy
  rw [if_pos (by omega)]
  congr 1
  omega
/-- a copy between the two worlds of the class -/
theorem c_copy36 (h : CWd 31 n W P K M) (hK : K.length ≤ 8) : ∃ M', fn X (d + 2) 141 [rv 36, rv 31] M = oV M' ∧ CWd 36 n W P K M' ∧ (∀ k, ¬ (36 ≤ k ∧ k ≤ 40) → M'.2.1 k = M.2.1 k) ∧ M'.1 = M.1 := by
  rw [q_141_36_31, q_92_39_34, cV_V]
  refine ⟨_, rfl, h.mv hK (fun j hj => ?_) (fun j hj => ?_) (fun j hj => ?_) ?_ ?_ ?_, fun k hk => ?_, rfl⟩
  · rw [puI_k (by omega), puA_k (by omega), puI_k (by omega), puI_k (by omega), puA_k (by omega), show 36 + 4 = 40 from rfl, puA_eq, cpy0 hj]
  · rw [puI_k (by omega), puA_k (by omega), puI_k (by omega), puI_k (by omega), show 36 + 1 = 37 from rfl, puA_eq, cpy0 hj, puA_k (by omega)]
  · rw [puI_k (by omega), show 36 + 2 = 38 from rfl, puA_eq, cpy0 hj, puA_k (by omega)]
  · rw [puI_nj (by omega), puA_k (by omega), puI_nj (by omega), puI_eq, puA_k (by omega)]
  · rw [puI_nj (by omega), puA_k (by omega), puI_eq, puA_k (by omega)]
  · rw [puI_eq, puA_k (by omega)]
  · rw [puI_k (by omega), puA_k (by omega), puI_k (by omega), puI_k (by omega), puA_k (by omega), puA_k (by omega)]
theorem c_copy31 (h : CWd 36 n W P K M) (hK : K.length ≤ 8) : ∃ M', fn X (d + 2) 141 [rv 31, rv 36] M = oV M' ∧ CWd 31 n W P K M' ∧ (∀ k, ¬ (31 ≤ k ∧ k ≤ 35) → M'.2.1 k = M.2.1 k) ∧ M'.1 = M.1 := by
  rw [q_141_31_36, q_92_34_39, cV_V]
  refine ⟨_, rfl, h.mv hK (fun j hj => ?_) (fun j hj => ?_) (fun j hj => ?_) ?_ ?_ ?_, fun k hk => ?_, rfl⟩
  · rw [puI_k (by omega), puA_k (by omega), puI_k (by omega), puI_k (by omega), puA_k (by omega), show 31 + 4 = 35 from rfl, puA_eq, cpy0 hj]
  · rw [puI_k (by omega), puA_k (by omega), puI_k (by omega), puI_k (by omega), show 31 + 1 = 32 from rfl, puA_eq, cpy0 hj, puA_k (by omega)]
  · rw [puI_k (by omega), show 31 + 2 = 33 from rfl, puA_eq, cpy0 hj, puA_k (by omega)]
  · rw [puI_nj (by omega), puA_k (by omega), puI_nj (by omega), puI_eq, puA_k (by omega)]
  · rw [puI_nj (by omega), puA_k (by omega), puI_eq, puA_k (by omega)]
  · rw [puI_eq, puA_k (by omega)]
  · rw [puI_k (by omega), puA_k (by omega), puI_k (by omega), puI_k (by omega), puA_k (by omega), puA_k (by omega)]
theorem c_image (hA : OKA A) (h : CH A M) : ∃ M', fn X (d + 3) 190 [rv 0] M = oV M' ∧ CH (imgA A) M' ∧ kC M M' ∧ M'.1 = M.1 := by
  obtain ⟨M1, g1, g2, g3, g4⟩ := c_copy36 (X := X) (d := d) h.2.1 hA.2.2.2.2.1.1
  rw [q_190_0, g1, cV_V]
  refine ⟨_, rfl, h.I (g2.fr (fun k hk => puI_k (by omega))) (puI_eq _ _ _ _) (fun k j _ hn h0 => ?_), fun k hk => (puI_k (by omega)).trans (g3 k (by omega)), g4⟩
  rw [puI_at]
  by_cases e : k = 0
  · rw [if_pos e, if_neg (fun z => h0 ⟨e, z⟩), g3 0 (by omega), e]
  · rw [if_neg e, g3 k hn]
/-! restore -/
noncomputable def rstA (A : AS) : AS := match aI A with
  | none => A
  | some z => sD A z.1 z.2.1 z.2.2
def rstV (A : AS) : Int := match aI A with
  | none => 0
  | some _ => 1
theorem OKA.rst (h : OKA A) : OKA (rstA A) := by
  unfold rstA
  cases e : aI A with
  | none => exact h
  | some z =>
    obtain ⟨V, P, K⟩ := z
    obtain ⟨h1, h2, h3, h4, h5, h6, h7⟩ := h
    obtain ⟨y1, y2, y3⟩ := h6 V P K e
    exact ⟨h1, h2, y1, y2, y3, h6, h7⟩
theorem c_restore (hA : OKA A) (h : CH A M) : ∃ M', fn X (d + 3) 191 [rv 0] M = oI (rstV A) M' ∧ CH (rstA A) M' ∧ kC M M' ∧ M'.1 = M.1 := by
  rw [q_191_0]
  unfold rstA rstV
  rcases h.2.2.1 with ⟨z1, z2⟩ | ⟨V, P, K, z1, z2, z3⟩
  · rw [z1, z2, if_pos (show (0 : Int) = 0 from rfl), gdp (Or.inl rfl)]
    exact ⟨M, rfl, h, kC.rf, rfl⟩
  · obtain ⟨y1, y2, y3⟩ := hA.2.2.2.2.2.1 V P K z1
    obtain ⟨M1, g1, g2, g3, g4⟩ := c_copy31 (X := X) (d := d) z3 y3.1
    rw [z1, z2, if_neg n10, g1, cV_V, g3 0 (by omega), z2, gdp (Or.inr rfl)]
    exact ⟨M1, rfl, h.D g2 (fun k j _ hn => by rw [g3 k hn]), fun k hk => g3 k (by omega), g4⟩
/-- copying of the model -/
theorem m_copy {a b N : Nat} (hab : a ≠ b) (hN : N < 100000) (f : Nat → Int → rM → Option rO) (hq : ∀ n l M, f (n + 1) l M = if l < (N : Int) then gd (0 ≤ l ∧ l < (N : Int)) (gd (0 ≤ l ∧ l < (N : Int)) (f n (wr (l + 1)) (puI M b l.toNat (M.2.1 a l.toNat)))) else oV M) (M : rM) : ∃ M', f FU 0 M = oV M' ∧ (∀ j, j < N → M'.2.1 b j = M.2.1 a j) ∧ (∀ j, N ≤ j → M'.2.1 b j = M.2.1 b j) ∧ (∀ k, k ≠ b → M'.2.1 k = M.2.1 k) ∧ M'.1 = M.1 ∧ M'.2.2 = M.2.2 := by
  refine loop_st (σ := rM) (fun c M1 => (∀ j, j < c → M1.2.1 b j = M.2.1 a j) ∧ (∀ j, c ≤ j → M1.2.1 b j = M.2.1 b j) ∧ (∀ k, k ≠ b → M1.2.1 k = M.2.1 k) ∧ M1.1 = M.1 ∧ M1.2.2 = M.2.2) (fun m c M1 => f m (c : Int) M1) (fun r => ∃ M', r = oV M' ∧ (∀ j, j < N → M'.2.1 b j = M.2.1 a j) ∧ (∀ j, N ≤ j → M'.2.1 b j = M.2.1 b j) ∧ (∀ k, k ≠ b → M'.2.1 k = M.2.1 k) ∧ M'.1 = M.1 ∧ M'.2.2 = M.2.2) N ?_ ?_ N 0 FU M (by omega) (FU_lt (by omega)) ⟨fun j hj => by omega, fun j _ => rfl, fun k _ => rfl, rfl, rfl⟩
  · rintro m c M1 hc ⟨i1, i2, i3, i4, i5⟩
    left
    rw [hq, if_pos (by omega), gdx (by omega) (by omega), gdx (by omega) (by omega), Int.toNat_natCast, wr_succ (by omega), i3 a hab]
    refine ⟨_, rfl, fun j hj => ?_, fun j hj => ?_, fun k hk => (puI_k hk).trans (i3 k hk), i4, i5⟩
    · by_cases e : j = c
      · subst e
        rw [puI_eq]
      · rw [puI_nj e]
        exact i1 j (by omega)
    · rw [puI_nj (by omega)]
      exact i2 j (by omega)
  · rintro m M1 ⟨i1, i2, i3, i4, i5⟩
    rw [hq, if_neg (by omega)]
    exact ⟨M1, rfl, i1, i2, i3, i4, i5⟩
theorem m_image (hA : OKA A) (h : MH A M) : ∃ M', fn X (d + 3) 321 [rv 59] M = oV M' ∧ MH (imgA A) M' ∧ kM M M' := by
  have hP := hA.2.2.2.1.1
  have hK := hA.2.2.2.2.1.1
  have w2 : M.2.1 59 61 = ((aP A).length : Int) := h.2.1.2.1
  have w4 : M.2.1 59 76 = ((aK A).length : Int) := h.2.1.2.2.2.1
  rw [q_321_59, w2, w4]
  refine loop_st (σ := rM) (fun c M1 => (∀ j, j < c → M1.2.1 108 j = M.2.1 91 j) ∧ M1.2.1 59 85 = 1 ∧ M1.2.1 59 86 = M.2.1 59 61 ∧ M1.2.1 59 87 = M.2.1 59 76 ∧ (∀ k j, k ≠ 108 → ¬ (k = 59 ∧ (j = 0 ∨ j = 85 ∨ j = 86 ∨ j = 87)) → M1.2.1 k j = M.2.1 k j) ∧ M1.1 = M.1 ∧ M1.2.2 = M.2.2) (fun m c M1 => kb X (d + 2) 321 m 28 [some (rv 59), some (iv (c : Int))] [] M1) (fun r => ∃ M', r = oV M' ∧ MH (imgA A) M' ∧ kM M M') 27 ?_ ?_ 27 0 FU _ (by omega) (FU_lt (by omega)) ⟨fun j hj => by omega, ?_, ?_, ?_, fun k j a1 a2 => ?_, rfl, rfl⟩
  · rintro m c M1 hc ⟨i1, i2, i3, i4, i5, i6, i7⟩
    left
    rw [q_321_59_at28, if_pos (by omega), gdx (by omega) (by omega), gdx (by omega) (by omega), Int.toNat_natCast, wr_succ (by omega), i5 91 _ (by omega) (by omega)]
    refine ⟨_, rfl, fun j hj => ?_, ?_, ?_, ?_, fun k j a1 a2 => ?_, i6, i7⟩
    · by_cases e : j = c
      · subst e
        rw [puI_eq]
      · rw [puI_nj e]
        exact i1 j (by omega)
    · rw [puI_k (by omega)]; exact i2
    · rw [puI_k (by omega)]; exact i3
    · rw [puI_k (by omega)]; exact i4
    · rw [puI_k a1]; exact i5 k j a1 a2
  · rintro m M1 ⟨i1, i2, i3, i4, i5, i6, i7⟩
    rw [q_321_59_at28, if_neg (by omega)]
    obtain ⟨M2, g1, g2, -, g3, g4, g5⟩ := m_copy (a := 92) (b := 109) (N := 1080) (by omega) (by omega) (fun m l M => kb X (d + 1) 212 m 2 [none, some (rv 92), some (rv 109), some (iv l)] [] M) (fun n l M => q_212_59_92_109_at2 l M) M1
    obtain ⟨M3, f1, f2, -, f3, f4, f5⟩ := m_copy (a := 104) (b := 110) (N := 32) (by omega) (by omega) (fun m l M => kb X (d + 1) 212 m 2 [none, some (rv 104), some (rv 110), some (iv l)] [] M) (fun n l M => q_212_59_104_110_at2 l M) M2
    rw [q_212_59_92_109, g1, cV_V, q_212_59_104_110, f1, cV_V]
    have fr : ∀ k j, k ≠ 108 → k ≠ 109 → k ≠ 110 → ¬ (k = 59 ∧ (j = 0 ∨ j = 85 ∨ j = 86 ∨ j = 87)) → M3.2.1 k j = M.2.1 k j := fun k j a1 a2 a3 a4 => by
      rw [f3 k a3, g3 k a2]
      exact i5 k j a1 a4
    have hh : MH (imgA A) M3 := by
      refine MH.I (h.p0 (M3.2.1 59 0)) (h.2.1.mv hP hK (fun j hj => ?_) (fun j hj => ?_) (fun j hj => ?_) ?_ ?_) ?_ (fun k j hk hn => ?_)
      · rw [f3 108 (by omega), g3 108 (by omega)]
        exact i1 j hj
      · rw [f3 109 (by omega), g2 j hj]
        exact i5 92 j (by omega) (by omega)
      · rw [f2 j hj, g3 104 (by omega)]
        exact i5 104 j (by omega) (by omega)
      · rw [f3 59 (by omega), g3 59 (by omega)]
        exact i3
      · rw [f3 59 (by omega), g3 59 (by omega)]
        exact i4
      · rw [f3 59 (by omega), g3 59 (by omega)]
        exact i2
      · by_cases e0 : k = 59 ∧ j = 0
        · obtain ⟨rfl, rfl⟩ := e0
          rw [puI_eq]
        · rw [fr k j (by omega) (by omega) (by omega) (by omega), puI_at]
          by_cases e1 : k = 59
          · rw [if_pos e1, if_neg (fun z => e0 ⟨e1, z⟩), e1]
          · rw [if_neg e1]
    exact ⟨M3, rfl, hh, f4.trans (g4.trans i6), fun k hk => funext (fun j => fr k j (by omega) (by omega) (by omega) (by omega)), by rw [f5, g5, i7]⟩
  · rw [puI_nj (by omega), puI_nj (by omega), puI_eq]
  · rw [puI_nj (by omega), puI_eq, w2]
  · rw [puI_eq, w4]
  · by_cases e : k = 59
    · subst e
      rw [puI_nj (by omega), puI_nj (by omega), puI_nj (by omega), puI_nj (by omega)]
    · rw [puI_k e, puI_k e, puI_k e, puI_k e]
theorem m_restore (hA : OKA A) (h : MH A M) : ∃ M', fn X (d + 3) 322 [rv 59] M = oI (rstV A) M' ∧ MH (rstA A) M' ∧ kM M M' := by
  obtain ⟨h0, z0, k0⟩ := m_0 h
  rw [q_322_59]
  unfold rstA rstV
  rcases h.2.2.1 with ⟨z1, z2⟩ | ⟨V, P, K, z1, z2, z3⟩
  · rw [z1, z2, if_pos (show (0 : Int) = 0 from rfl)]
    exact ⟨_, rfl, h0, k0⟩
  · obtain ⟨y1, y2, y3⟩ := hA.2.2.2.2.2.1 V P K z1
    rw [z1, z2, if_neg n10]
    have e86 := z3.2.1
    have e87 := z3.2.2.2.1
    have n0 : ∀ j, j ≠ 0 → (puI M 59 0 0).2.1 59 j = M.2.1 59 j := fun j hj => puI_nj hj
    have nk : ∀ k, k ≠ 59 → (puI M 59 0 0).2.1 k = M.2.1 k := fun k hk => puI_k hk
    generalize puI M 59 0 0 = M0 at *
    refine loop_st (σ := rM) (fun c M1 => (∀ j, j < c → M1.2.1 91 j = M.2.1 108 j) ∧ M1.2.1 59 61 = M.2.1 59 86 ∧ M1.2.1 59 76 = M.2.1 59 87 ∧ (∀ k j, k ≠ 91 → ¬ (k = 59 ∧ (j = 61 ∨ j = 76)) → M1.2.1 k j = M0.2.1 k j) ∧ M1.1 = M0.1 ∧ M1.2.2 = M0.2.2) (fun m c M1 => kb X (d + 2) 322 m 32 [some (rv 59), some (iv (c : Int))] [] M1) (fun r => ∃ M', r = oI 1 M' ∧ MH (sD A V P K) M' ∧ kM M M') 27 ?_ ?_ 27 0 FU _ (by omega) (FU_lt (by omega)) ⟨fun j hj => by omega, ?_, puI_eq _ _ _ _, fun k j a1 a2 => ?_, rfl, rfl⟩
    · rintro m c M1 hc ⟨i1, i2, i3, i5, i6, i7⟩
      left
      rw [q_322_59_at32, if_pos (by omega), gdx (by omega) (by omega), gdx (by omega) (by omega), Int.toNat_natCast, wr_succ (by omega), i5 108 _ (by omega) (by omega), nk 108 (by omega)]
      refine ⟨_, rfl, fun j hj => ?_, ?_, ?_, fun k j a1 a2 => ?_, i6, i7⟩
      · by_cases e : j = c
        · subst e
          rw [puI_eq]
        · rw [puI_nj e]
          exact i1 j (by omega)
      · rw [puI_k (by omega)]; exact i2
      · rw [puI_k (by omega)]; exact i3
      · rw [puI_k a1]; exact i5 k j a1 a2
    · rintro m M1 ⟨i1, i2, i3, i5, i6, i7⟩
      rw [q_322_59_at32, if_neg (by omega)]
      obtain ⟨M2, g1, g2, -, g3, g4, g5⟩ := m_copy (a := 109) (b := 92) (N := 1080) (by omega) (by omega) (fun m l M => kb X (d + 1) 212 m 2 [none, some (rv 109), some (rv 92), some (iv l)] [] M) (fun n l M => q_212_59_109_92_at2 l M) M1
      obtain ⟨M3, f1, f2, -, f3, f4, f5⟩ := m_copy (a := 110) (b := 104) (N := 32) (by omega) (by omega) (fun m l M => kb X (d + 1) 212 m 2 [none, some (rv 110), some (rv 104), some (iv l)] [] M) (fun n l M => q_212_59_110_104_at2 l M) M2
      rw [q_212_59_109_92, g1, cV_V, q_212_59_110_104, f1, cV_V]
      have fr : ∀ k j, k ≠ 91 → k ≠ 92 → k ≠ 104 → ¬ (k = 59 ∧ (j = 61 ∨ j = 76)) → M3.2.1 k j = M0.2.1 k j := fun k j a1 a2 a3 a4 => by
        rw [f3 k a3, g3 k a2]
        exact i5 k j a1 a4
      refine ⟨M3, rfl, h0.D (z3.mv y2.1 y3.1 (fun j hj => ?_) (fun j hj => ?_) (fun j hj => ?_) ?_ ?_) (fun k j _ hn => fr k j (by omega) (by omega) (by omega) (by omega)), k0.tr ⟨f4.trans (g4.trans i6), fun k hk => funext (fun j => fr k j (by omega) (by omega) (by omega) (by omega)), by rw [f5, g5, i7]⟩⟩
      · rw [f3 91 (by omega), g3 91 (by omega)]
        exact i1 j hj
      · rw [f3 92 (by omega), g2 j hj, i5 109 j (by omega) (by omega), nk 109 (by omega)]
      · rw [f2 j hj, g3 110 (by omega), i5 110 j (by omega) (by omega), nk 110 (by omega)]
      · rw [f3 59 (by omega), g3 59 (by omega)]
        exact i2
      · rw [f3 59 (by omega), g3 59 (by omega)]
        exact i3
    · rw [puI_nj (by omega), puI_eq]
    · by_cases e : k = 59
      · subst e
        rw [puI_nj (by omega), puI_nj (by omega)]
      · rw [puI_k e, puI_k e]
end C56
