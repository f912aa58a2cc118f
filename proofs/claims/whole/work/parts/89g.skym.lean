/-! ===== sky, the model (printed by wip/whole/gen89g.py) ===== -/
section C89g
variable {X : Nat × (Nat → Int32)} {d : Nat} {A : AS} {M M' : rM} {b : Nat → Nat} {n : Nat} {D : DF}
def MEn (b : Nat → Nat) (n : Nat) (y : (Nat × Nat) ⊕ DF) (M : rM) : Prop := (∀ g p, y = .inl (g, p) → MF b n g p M) ∧ ∀ D, y = .inr D → M.2.1 59 22 = 0 ∧ M.2.1 59 23 = -1 ∧ MD D M
theorem srt_0 {q : Nat} (h : srt q = 0) : q = 0 := by
  apply Classical.byContradiction
  intro z
  by_cases h3 : 3 ≤ q
  · by_cases h4 : 100 ≤ q
    · rw [srt_wd h4] at h
      omega
    · rw [srt_sg h3 (by omega)] at h
      omega
  · obtain rfl | rfl : q = 1 ∨ q = 2 := by omega
    · exact absurd h (by decide)
    · exact absurd h (by decide)
theorem m_lines (hT : Tok (tks b n)) (hV : TokV (tks b n)) : ∀ (f k : Nat) (D : DF) (M : rM) (m : Nat), 700 < k + f → k ≤ 700 → DFo D → MG b n k M → MD D M → f + 1 < m → ∃ M' m', kb X (d + 7) 244 m 115 [some (rv 59), none, none] [] M = kb X (d + 7) 244 (m' + 1) 136 [some (rv 59), none, none] [] M' ∧ m ≤ m' + f + 2 ∧ sf Pm M M' ∧ MEn b n (pSky (tks b n) f k D) M'
  | 0, k, D, M, m, h1, h2, hD, hg, hd, hm => by omega
  | f + 1, k, D, M, m, h1, h2, hD, hg, hd, hm => by
    obtain ⟨m, rfl⟩ : ∃ m', m = m' + 2 := ⟨m - 2, by omega⟩
    have hs := hg.1.2.2.2.1
    rw [q_244_59_at115, m_good (X := X) (d := d + 6) hg.2.1, cI_I, if_neg (by decide)]
    unfold pSky
    by_cases h0 : tkK (tks b n) k = 0
    · have hs0 : M.2.1 59 27 = 0 := by rw [hs, h0]; rfl
      rw [if_pos hs0, if_pos h0]
      refine ⟨M, m, rfl, by omega, sf.rf, fun g p z => (by cases z), fun D' z => ?_⟩
      cases z
      exact ⟨hg.2.1, hg.2.2, hd⟩
    · have hs0 : M.2.1 59 27 ≠ 0 := fun z => h0 (srt_0 (by omega))
      obtain ⟨M1, a1, a2, a3⟩ := m_line (X := X) (d := d) hT hV hg hd hD h0
      rw [if_neg hs0, if_neg h0, a1, cV_V]
      cases e : pEnd (tks b n) (pBody (tks b n) (tkK (tks b n) k) k D) with
      | inl x =>
        have hf := a3.1 x.1 x.2 e
        obtain ⟨m, rfl⟩ : ∃ m', m = m' + 1 := ⟨m - 1, by omega⟩
        rw [q_244_59_at115, m_bad (X := X) (d := d + 6) (MF_ne hf), cI_I, if_pos rfl]
        refine ⟨M1, m, rfl, by omega, a2, fun g p z => ?_, fun D' z => (by cases z)⟩
        cases z
        exact hf
      | inr y =>
        obtain ⟨k2, D2⟩ := y
        obtain ⟨g1, g2⟩ := a3.2 k2 D2 e
        obtain ⟨k3, e1, e2, e3⟩ := pEnd_in e
        obtain ⟨o1, o2, o3⟩ := pBody_ok hT hV hD h0 e1
        have hk3 : k3 < 700 := hT k3 (by omega)
        obtain ⟨M2, m', c1, c2, c3, c4⟩ := m_lines hT hV f k2 D2 M1 (m + 1) (by omega) (by omega) o1 g1 g2 (by omega)
        exact ⟨M2, m', c1, by omega, a2.tr c3, c4⟩
/-- what was read is taken over -/
theorem m_228 (t2 : Int) (M : rM) (m : Nat) : ∃ M', kb X (d + 2) 244 (m + 29) 228 [some (rv 59), none, none] [iv t2, iv 0, rv 87] M = oI 0 M' ∧ M'.1 = M.1 ∧ M'.2.2 = M.2.2 ∧ (∀ k, k < 59 ∨ k = 73 ∨ k = 74 → M'.2.1 k = M.2.1 k) ∧ (∀ j, j ≠ 61 → j ≠ 76 → j ≠ 85 → M'.2.1 59 j = M.2.1 59 j) ∧ M'.2.1 59 61 = 0 ∧ M'.2.1 59 76 = 0 ∧ M'.2.1 59 85 = 0 ∧ M'.2.1 91 0 = t2 ∧ (∀ j, j ≠ 0 → j < 27 → M'.2.1 91 j = M.2.1 87 j) ∧ (∀ j, j < 6 → M'.2.1 60 j = M.2.1 75 j) ∧ (∀ j, j < 6 → M'.2.1 61 j = M.2.1 76 j) ∧ (∀ j, j < 6 → M'.2.1 62 j = M.2.1 77 j) ∧ (∀ j, j < 8 → M'.2.1 63 j = M.2.1 78 j) ∧ (∀ j, j < 8 → M'.2.1 64 j = M.2.1 79 j) ∧ (∀ j, j < 8 → M'.2.1 65 j = M.2.1 80 j) ∧ (∀ j, j < 8 → M'.2.1 66 j = M.2.1 81 j) ∧ (∀ j, j < 8 → M'.2.1 67 j = M.2.1 82 j) ∧ (∀ j, j < 8 → M'.2.1 68 j = M.2.1 83 j) ∧ (∀ j, j < 6 → M'.2.1 69 j = M.2.1 84 j) ∧ (∀ j, j < 6 → M'.2.1 70 j = M.2.1 85 j) ∧ (∀ j, j < 8 → M'.2.1 71 j = M.2.1 86 j) ∧ (∀ j, j < 1400 → M'.2.1 72 j = M.2.1 88 j) := by
  obtain ⟨M0, e0⟩ : ∃ M0, M0 = puI M 87 0 t2 := ⟨_, rfl⟩
  have k0 : ∀ k, k ≠ 87 → M0.2.1 k = M.2.1 k := fun k hk => by rw [e0, puI_k hk]
  have x0 : M0.1 = M.1 := by rw [e0]; rfl
  have y0 : M0.2.2 = M.2.2 := by rw [e0]; rfl
  obtain ⟨M1, a1, c1, -, k1, x1, y1⟩ := m_copy (a := 75) (b := 60) (N := 6) (by omega) (by omega) (fun m l M => kb X (d + 1) 212 m 2 [none, some (rv 75), some (rv 60), some (iv l)] [] M) (fun n l M => q_212_59_75_60_at2 l M) M0
  replace a1 : fn X (d + 2) 212 [rv 59, rv 75, rv 60] M0 = oV M1 := (q_212_59_75_60 M0).trans a1
  obtain ⟨M2, a2, c2, -, k2, x2, y2⟩ := m_copy (a := 76) (b := 61) (N := 6) (by omega) (by omega) (fun m l M => kb X (d + 1) 212 m 2 [none, some (rv 76), some (rv 61), some (iv l)] [] M) (fun n l M => q_212_59_76_61_at2 l M) M1
  replace a2 : fn X (d + 2) 212 [rv 59, rv 76, rv 61] M1 = oV M2 := (q_212_59_76_61 M1).trans a2
  obtain ⟨M3, a3, c3, -, k3, x3, y3⟩ := m_copy (a := 77) (b := 62) (N := 6) (by omega) (by omega) (fun m l M => kb X (d + 1) 212 m 2 [none, some (rv 77), some (rv 62), some (iv l)] [] M) (fun n l M => q_212_59_77_62_at2 l M) M2
  replace a3 : fn X (d + 2) 212 [rv 59, rv 77, rv 62] M2 = oV M3 := (q_212_59_77_62 M2).trans a3
  obtain ⟨M4, a4, c4, -, k4, x4, y4⟩ := m_copy (a := 78) (b := 63) (N := 8) (by omega) (by omega) (fun m l M => kb X (d + 1) 212 m 2 [none, some (rv 78), some (rv 63), some (iv l)] [] M) (fun n l M => q_212_59_78_63_at2 l M) M3
  replace a4 : fn X (d + 2) 212 [rv 59, rv 78, rv 63] M3 = oV M4 := (q_212_59_78_63 M3).trans a4
  obtain ⟨M5, a5, c5, -, k5, x5, y5⟩ := m_copy (a := 79) (b := 64) (N := 8) (by omega) (by omega) (fun m l M => kb X (d + 1) 212 m 2 [none, some (rv 79), some (rv 64), some (iv l)] [] M) (fun n l M => q_212_59_79_64_at2 l M) M4
  replace a5 : fn X (d + 2) 212 [rv 59, rv 79, rv 64] M4 = oV M5 := (q_212_59_79_64 M4).trans a5
  obtain ⟨M6, a6, c6, -, k6, x6, y6⟩ := m_copy (a := 80) (b := 65) (N := 8) (by omega) (by omega) (fun m l M => kb X (d + 1) 212 m 2 [none, some (rv 80), some (rv 65), some (iv l)] [] M) (fun n l M => q_212_59_80_65_at2 l M) M5
  replace a6 : fn X (d + 2) 212 [rv 59, rv 80, rv 65] M5 = oV M6 := (q_212_59_80_65 M5).trans a6
  obtain ⟨M7, a7, c7, -, k7, x7, y7⟩ := m_copy (a := 81) (b := 66) (N := 8) (by omega) (by omega) (fun m l M => kb X (d + 1) 212 m 2 [none, some (rv 81), some (rv 66), some (iv l)] [] M) (fun n l M => q_212_59_81_66_at2 l M) M6
  replace a7 : fn X (d + 2) 212 [rv 59, rv 81, rv 66] M6 = oV M7 := (q_212_59_81_66 M6).trans a7
  obtain ⟨M8, a8, c8, -, k8, x8, y8⟩ := m_copy (a := 82) (b := 67) (N := 8) (by omega) (by omega) (fun m l M => kb X (d + 1) 212 m 2 [none, some (rv 82), some (rv 67), some (iv l)] [] M) (fun n l M => q_212_59_82_67_at2 l M) M7
  replace a8 : fn X (d + 2) 212 [rv 59, rv 82, rv 67] M7 = oV M8 := (q_212_59_82_67 M7).trans a8
  obtain ⟨M9, a9, c9, -, k9, x9, y9⟩ := m_copy (a := 83) (b := 68) (N := 8) (by omega) (by omega) (fun m l M => kb X (d + 1) 212 m 2 [none, some (rv 83), some (rv 68), some (iv l)] [] M) (fun n l M => q_212_59_83_68_at2 l M) M8
  replace a9 : fn X (d + 2) 212 [rv 59, rv 83, rv 68] M8 = oV M9 := (q_212_59_83_68 M8).trans a9
  obtain ⟨M10, a10, c10, -, k10, x10, y10⟩ := m_copy (a := 84) (b := 69) (N := 6) (by omega) (by omega) (fun m l M => kb X (d + 1) 212 m 2 [none, some (rv 84), some (rv 69), some (iv l)] [] M) (fun n l M => q_212_59_84_69_at2 l M) M9
  replace a10 : fn X (d + 2) 212 [rv 59, rv 84, rv 69] M9 = oV M10 := (q_212_59_84_69 M9).trans a10
  obtain ⟨M11, a11, c11, -, k11, x11, y11⟩ := m_copy (a := 85) (b := 70) (N := 6) (by omega) (by omega) (fun m l M => kb X (d + 1) 212 m 2 [none, some (rv 85), some (rv 70), some (iv l)] [] M) (fun n l M => q_212_59_85_70_at2 l M) M10
  replace a11 : fn X (d + 2) 212 [rv 59, rv 85, rv 70] M10 = oV M11 := (q_212_59_85_70 M10).trans a11
  obtain ⟨M12, a12, c12, -, k12, x12, y12⟩ := m_copy (a := 86) (b := 71) (N := 8) (by omega) (by omega) (fun m l M => kb X (d + 1) 212 m 2 [none, some (rv 86), some (rv 71), some (iv l)] [] M) (fun n l M => q_212_59_86_71_at2 l M) M11
  replace a12 : fn X (d + 2) 212 [rv 59, rv 86, rv 71] M11 = oV M12 := (q_212_59_86_71 M11).trans a12
  obtain ⟨M13, a13, c13, -, k13, x13, y13⟩ := m_copy (a := 88) (b := 72) (N := 1400) (by omega) (by omega) (fun m l M => kb X (d + 1) 212 m 2 [none, some (rv 88), some (rv 72), some (iv l)] [] M) (fun n l M => q_212_59_88_72_at2 l M) M12
  replace a13 : fn X (d + 2) 212 [rv 59, rv 88, rv 72] M12 = oV M13 := (q_212_59_88_72 M12).trans a13
  have kk : ∀ k, (k < 60 ∨ 72 < k) → M13.2.1 k = M0.2.1 k := fun k hk => (k13 k (by omega)).trans ((k12 k (by omega)).trans ((k11 k (by omega)).trans ((k10 k (by omega)).trans ((k9 k (by omega)).trans ((k8 k (by omega)).trans ((k7 k (by omega)).trans ((k6 k (by omega)).trans ((k5 k (by omega)).trans ((k4 k (by omega)).trans ((k3 k (by omega)).trans ((k2 k (by omega)).trans ((k1 k (by omega))))))))))))))
  have e1 : kb X (d + 2) 244 (m + 29) 228 [some (rv 59), none, none] [iv t2, iv 0, rv 87] M = kb X (d + 2) 244 (m + 28) 387 [some (rv 59), none, some (iv 0)] [] M13 := by
    rw [q_244_59_at228, gdx (by decide) (by decide), show (0 : Int).toNat = 0 from rfl, ← e0, a1, cV_V, a2, cV_V, a3, cV_V, a4, cV_V, a5, cV_V, a6, cV_V, a7, cV_V, a8, cV_V, a9, cV_V, a10, cV_V, a11, cV_V, a12, cV_V, a13, cV_V]
  rw [e1]
  have hl : ∃ M2, kb X (d + 2) 244 (m + 28) 387 [some (rv 59), none, some (iv 0)] [] M13 = oI 0 (puI (puI (puI M2 59 61 0) 59 76 0) 59 85 0) ∧ (∀ j, j < 27 → M2.2.1 91 j = M13.2.1 87 j) ∧ (∀ k, k ≠ 91 → M2.2.1 k = M13.2.1 k) ∧ M2.1 = M13.1 ∧ M2.2.2 = M13.2.2 := by
    refine loop_st (σ := rM) (fun c M1 => (∀ j, j < c → M1.2.1 91 j = M13.2.1 87 j) ∧ (∀ k, k ≠ 91 → M1.2.1 k = M13.2.1 k) ∧ M1.1 = M13.1 ∧ M1.2.2 = M13.2.2) (fun m c M1 => kb X (d + 2) 244 m 387 [some (rv 59), none, some (iv (c : Int))] [] M1) (fun r => ∃ M2, r = oI 0 (puI (puI (puI M2 59 61 0) 59 76 0) 59 85 0) ∧ (∀ j, j < 27 → M2.2.1 91 j = M13.2.1 87 j) ∧ (∀ k, k ≠ 91 → M2.2.1 k = M13.2.1 k) ∧ M2.1 = M13.1 ∧ M2.2.2 = M13.2.2) 27 ?_ ?_ 27 0 (m + 28) M13 (by omega) (by omega) ⟨fun j hj => absurd hj (Nat.not_lt_zero _), fun k _ => rfl, rfl, rfl⟩
    · rintro m c M1 hc ⟨i1, i2, i3, i4⟩
      left
      rw [q_244_59_at387, if_pos (by omega), gdx (by omega) (by omega), gdx (by omega) (by omega), Int.toNat_natCast, wr_succ (by omega)]
      refine ⟨_, rfl, fun j hj => ?_, fun k hk => (puI_k hk).trans (i2 k hk), i3, i4⟩
      by_cases e : j = c
      · subst e
        rw [puI_eq, i2 87 (by omega)]
      · rw [puI_nj e]
        exact i1 j (by omega)
    · rintro m M1 ⟨i1, i2, i3, i4⟩
      rw [q_244_59_at387, if_neg (by omega)]
      exact ⟨M1, rfl, i1, i2, i3, i4⟩
  obtain ⟨M2', e2, l1, l2, l3, l4⟩ := hl
  have kz : ∀ k, k ≠ 91 → (k < 60 ∨ 72 < k) → k ≠ 87 → M2'.2.1 k = M.2.1 k := fun k h1 h2 h3 => (l2 k h1).trans ((kk k h2).trans (k0 k h3))
  have kp : ∀ k, k ≠ 59 → (puI (puI (puI M2' 59 61 0) 59 76 0) 59 85 0).2.1 k = M2'.2.1 k := fun k hk => by rw [puI_k hk, puI_k hk, puI_k hk]
  refine ⟨_, e2, l3.trans (x13.trans (x12.trans (x11.trans (x10.trans (x9.trans (x8.trans (x7.trans (x6.trans (x5.trans (x4.trans (x3.trans (x2.trans (x1.trans (x0)))))))))))))), l4.trans (y13.trans (y12.trans (y11.trans (y10.trans (y9.trans (y8.trans (y7.trans (y6.trans (y5.trans (y4.trans (y3.trans (y2.trans (y1.trans (y0)))))))))))))), fun k hk => ?_, fun j h1 h2 h3 => ?_, ?_, ?_, puI_eq _ _ _ _, ?_, fun j h1 h2 => ?_, fun j hj => ?_, fun j hj => ?_, fun j hj => ?_, fun j hj => ?_, fun j hj => ?_, fun j hj => ?_, fun j hj => ?_, fun j hj => ?_, fun j hj => ?_, fun j hj => ?_, fun j hj => ?_, fun j hj => ?_, fun j hj => ?_⟩
  · rw [kp k (by omega), kz k (by omega) (by omega) (by omega)]
  · rw [puI_nj h3, puI_nj h2, puI_nj h1, kz 59 (by omega) (by omega) (by omega)]
  · rw [puI_nj (by omega), puI_nj (by omega), puI_eq]
  · rw [puI_nj (by omega), puI_eq]
  · rw [kp 91 (by omega), l1 0 (by omega), kk 87 (by omega), e0, puI_eq]
  · rw [kp 91 (by omega), l1 j h2, kk 87 (by omega), e0, puI_nj h1]
  · rw [kp 60 (by omega), l2 60 (by omega), k13 60 (by omega), k12 60 (by omega), k11 60 (by omega), k10 60 (by omega), k9 60 (by omega), k8 60 (by omega), k7 60 (by omega), k6 60 (by omega), k5 60 (by omega), k4 60 (by omega), k3 60 (by omega), k2 60 (by omega), c1 j hj, k0 75 (by omega)]
  · rw [kp 61 (by omega), l2 61 (by omega), k13 61 (by omega), k12 61 (by omega), k11 61 (by omega), k10 61 (by omega), k9 61 (by omega), k8 61 (by omega), k7 61 (by omega), k6 61 (by omega), k5 61 (by omega), k4 61 (by omega), k3 61 (by omega), c2 j hj, k1 76 (by omega), k0 76 (by omega)]
  · rw [kp 62 (by omega), l2 62 (by omega), k13 62 (by omega), k12 62 (by omega), k11 62 (by omega), k10 62 (by omega), k9 62 (by omega), k8 62 (by omega), k7 62 (by omega), k6 62 (by omega), k5 62 (by omega), k4 62 (by omega), c3 j hj, k2 77 (by omega), k1 77 (by omega), k0 77 (by omega)]
  · rw [kp 63 (by omega), l2 63 (by omega), k13 63 (by omega), k12 63 (by omega), k11 63 (by omega), k10 63 (by omega), k9 63 (by omega), k8 63 (by omega), k7 63 (by omega), k6 63 (by omega), k5 63 (by omega), c4 j hj, k3 78 (by omega), k2 78 (by omega), k1 78 (by omega), k0 78 (by omega)]
  · rw [kp 64 (by omega), l2 64 (by omega), k13 64 (by omega), k12 64 (by omega), k11 64 (by omega), k10 64 (by omega), k9 64 (by omega), k8 64 (by omega), k7 64 (by omega), k6 64 (by omega), c5 j hj, k4 79 (by omega), k3 79 (by omega), k2 79 (by omega), k1 79 (by omega), k0 79 (by omega)]
  · rw [kp 65 (by omega), l2 65 (by omega), k13 65 (by omega), k12 65 (by omega), k11 65 (by omega), k10 65 (by omega), k9 65 (by omega), k8 65 (by omega), k7 65 (by omega), c6 j hj, k5 80 (by omega), k4 80 (by omega), k3 80 (by omega), k2 80 (by omega), k1 80 (by omega), k0 80 (by omega)]
  · rw [kp 66 (by omega), l2 66 (by omega), k13 66 (by omega), k12 66 (by omega), k11 66 (by omega), k10 66 (by omega), k9 66 (by omega), k8 66 (by omega), c7 j hj, k6 81 (by omega), k5 81 (by omega), k4 81 (by omega), k3 81 (by omega), k2 81 (by omega), k1 81 (by omega), k0 81 (by omega)]
  · rw [kp 67 (by omega), l2 67 (by omega), k13 67 (by omega), k12 67 (by omega), k11 67 (by omega), k10 67 (by omega), k9 67 (by omega), c8 j hj, k7 82 (by omega), k6 82 (by omega), k5 82 (by omega), k4 82 (by omega), k3 82 (by omega), k2 82 (by omega), k1 82 (by omega), k0 82 (by omega)]
  · rw [kp 68 (by omega), l2 68 (by omega), k13 68 (by omega), k12 68 (by omega), k11 68 (by omega), k10 68 (by omega), c9 j hj, k8 83 (by omega), k7 83 (by omega), k6 83 (by omega), k5 83 (by omega), k4 83 (by omega), k3 83 (by omega), k2 83 (by omega), k1 83 (by omega), k0 83 (by omega)]
  · rw [kp 69 (by omega), l2 69 (by omega), k13 69 (by omega), k12 69 (by omega), k11 69 (by omega), c10 j hj, k9 84 (by omega), k8 84 (by omega), k7 84 (by omega), k6 84 (by omega), k5 84 (by omega), k4 84 (by omega), k3 84 (by omega), k2 84 (by omega), k1 84 (by omega), k0 84 (by omega)]
  · rw [kp 70 (by omega), l2 70 (by omega), k13 70 (by omega), k12 70 (by omega), c11 j hj, k10 85 (by omega), k9 85 (by omega), k8 85 (by omega), k7 85 (by omega), k6 85 (by omega), k5 85 (by omega), k4 85 (by omega), k3 85 (by omega), k2 85 (by omega), k1 85 (by omega), k0 85 (by omega)]
  · rw [kp 71 (by omega), l2 71 (by omega), k13 71 (by omega), c12 j hj, k11 86 (by omega), k10 86 (by omega), k9 86 (by omega), k8 86 (by omega), k7 86 (by omega), k6 86 (by omega), k5 86 (by omega), k4 86 (by omega), k3 86 (by omega), k2 86 (by omega), k1 86 (by omega), k0 86 (by omega)]
  · rw [kp 72 (by omega), l2 72 (by omega), c13 j hj, k12 88 (by omega), k11 88 (by omega), k10 88 (by omega), k9 88 (by omega), k8 88 (by omega), k7 88 (by omega), k6 88 (by omega), k5 88 (by omega), k4 88 (by omega), k3 88 (by omega), k2 88 (by omega), k1 88 (by omega), k0 88 (by omega)]
theorem MH_F (h : MH A M) {p : Nat} (e : ∀ k j, eM k j = true → ¬ (k = 59 ∧ (j = 21 ∨ j = 23)) → ¬ (k = 74 ∧ j = 0) → M'.2.1 k j = M.2.1 k j) (h1 : M'.2.1 59 21 = 0) (h2 : M'.2.1 59 23 = (p : Int)) (h0 : M'.2.1 74 0 = wr (M.2.1 74 0 + 1)) : MH (skF A p) M' := by
  have ek : ∀ k, (∀ j, eM k j = true) → k ≠ 59 → k ≠ 74 → M'.2.1 k = M.2.1 k := fun k hk n0 n2 => by
    funext j
    exact e k j (hk j) (by omega) (by omega)
  obtain ⟨a1, a2, a3, a4, a5, a6, a7⟩ := h
  refine ⟨a1.fr (fun k z1 z2 => ek k (fun j => by simp [eM]; omega) (by omega) (by omega)) (fun j z1 z2 => e 59 j (by simp [eM]; omega) (by omega) (by omega)), a2.fr (fun j hj => e 91 j (by simp [eM, hj]) (by omega) (by omega)) (ek 92 (fun j => by simp [eM]) (by omega) (by omega)) (ek 104 (fun j => by simp [eM]) (by omega) (by omega)) (e 59 61 (by decide) (by omega) (by omega)) (e 59 76 (by decide) (by omega) (by omega)), ?_, h1, fun i hi => (by cases hi), h2, fun j hj => ?_⟩
  · rcases a3 with ⟨z1, z2⟩ | ⟨V, P, K, z1, z2, z3⟩
    · exact Or.inl ⟨z1, by rw [e 59 85 (by decide) (by omega) (by omega)]; exact z2⟩
    · exact Or.inr ⟨V, P, K, z1, by rw [e 59 85 (by decide) (by omega) (by omega)]; exact z2, z3.fr (fun j _ => e 108 j (by simp [eM]) (by omega) (by omega)) (ek 109 (fun j => by simp [eM]) (by omega) (by omega)) (ek 110 (fun j => by simp [eM]) (by omega) (by omega)) (e 59 86 (by decide) (by omega) (by omega)) (e 59 87 (by decide) (by omega) (by omega))⟩
  · show M'.2.1 74 j = (if j = 0 then wr (aR A 0 + 1) else aR A j)
    by_cases c : j = 0
    · rw [if_pos c, c, h0, a7 0 (by omega)]
    · rw [if_neg c, e 74 j (by simp [eM]) (by omega) (by omega)]
      exact a7 j hj
theorem enc_len (x : Int) : (enc x).length ≤ 2 := by
  unfold enc
  repeat' split
  all_goals first
    | exact Nat.le_refl 2
    | exact Nat.le_succ 1
theorem encs_len : ∀ r : List Int, (encs r).length ≤ 2 * r.length
  | [] => Nat.le_refl _
  | x :: r => by
    have h1 := encs_len r
    have h2 := enc_len x
    have e : encs (x :: r) = enc x ++ encs r := rfl
    rw [e, List.length_append, List.length_cons]
    omega
/-- the sky that was read, behind the model's copying -/
theorem m_new {M0 : rM} (hA : ∀ j, j < 3 → M.2.1 74 j = aR A j) (hd : MD D M) (hD : DFo D) (hp : M.2.1 59 1 = (nC D.1 : Int) ∧ M.2.1 59 2 = (nT D.1 : Int) ∧ M.2.1 59 3 = (nH D.1 : Int) ∧ M.2.1 59 4 = (nL D.1 : Int) ∧ M.2.1 59 5 = (if riv D.1 = 0 then -1 else (riv D.1 : Int)) ∧ M.2.1 59 6 = (if rul D.1 = [] then -1 else 0)) (h21 : M.2.1 59 21 = 0) (h23 : M.2.1 59 23 = -1) (h0 : M.2.1 59 0 = 0) (hk : kM M0 M) (m : Nat) : ∃ M', kb X (d + 2) 244 (m + 29) 228 [some (rv 59), none, none] [iv ((D.2.getD 50 : Nat) : Int), iv 0, rv 87] M = oI 0 M' ∧ M'.2.1 59 0 = 0 ∧ MH (skG A D) M' ∧ kM M0 M' := by
  obtain ⟨M', e0, x1, y1, k1, k2, f61, f76, f85, w0, w1, c1, c2, c3, c4, c5, c6, c7, c8, c9, c10, c11, c12, c13⟩ := m_228 (X := X) (d := d) ((D.2.getD 50 : Nat) : Int) M m
  obtain ⟨⟨w1', w2', w3', w4', w5'⟩, hw, hv, hl⟩ := hD
  obtain ⟨⟨-, d1⟩, ⟨-, d2⟩, ⟨-, d3⟩, ⟨-, d4⟩, d5, d6, d7, d8, d9, d10⟩ := hd
  obtain ⟨p1, p2, p3, p4, p5, p6⟩ := hp
  have q9 : ∀ j, j ≤ 23 → M'.2.1 59 j = M.2.1 59 j := fun j hj => k2 j (by omega) (by omega) (by omega)
  refine ⟨M', e0, (q9 0 (by omega)).trans h0, ⟨⟨(q9 1 (by omega)).trans p1, (q9 2 (by omega)).trans p2, (q9 3 (by omega)).trans p3, (q9 4 (by omega)).trans p4, fun c hc => ?_, fun c hc => ?_, fun c hc => ?_, fun c hc => ?_, ?_, ?_⟩, ⟨fun j hj => ?_, f61, fun i hi => (by cases hi), f76, fun i hi => (by cases hi)⟩, Or.inl ⟨rfl, f85⟩, (q9 21 (by omega)).trans h21, fun i hi => (by cases hi), (q9 23 (by omega)).trans h23, fun j hj => ?_⟩, ⟨x1.trans hk.1, fun k z => (k1 k (by omega)).trans (hk.2.1 k z), by rw [y1]; exact hk.2.2⟩⟩
  · replace hc : c < nC D.1 := hc
    obtain ⟨g1, g2, g3, g4, g5, g6, g7⟩ := d1 c hc
    exact ⟨(c1 c (by omega)).trans g1, (c2 c (by omega)).trans g4, (c3 c (by omega)).trans g5⟩
  · replace hc : c < nT D.1 := hc
    obtain ⟨g1, g2, g3, g4, g5, g6⟩ := d2 c hc
    exact ⟨(c4 c (by omega)).trans g1, (c5 c (by omega)).trans g2, (c6 c (by omega)).trans g3, (c7 c (by omega)).trans g4, (c8 c (by omega)).trans g5, (c9 c (by omega)).trans g6⟩
  · replace hc : c < nH D.1 := hc
    obtain ⟨g1, g2⟩ := d3 c hc
    exact ⟨(c10 c (by omega)).trans g1, (c11 c (by omega)).trans g2⟩
  · replace hc : c < nL D.1 := hc
    exact (c12 c (by omega)).trans (d4 c hc)
  · show (riv D.1 = 0 ∧ (M'.2.1 59 5 = -1 ∨ M'.2.1 59 5 = 0)) ∨ (riv D.1 ≠ 0 ∧ M'.2.1 59 5 = (riv D.1 : Int))
    rw [q9 5 (by omega), p5]
    by_cases c : riv D.1 = 0
    · rw [if_pos c]; exact Or.inl ⟨c, Or.inl rfl⟩
    · rw [if_neg c]; exact Or.inr ⟨c, rfl⟩
  · show (rul D.1 = [] ∧ M'.2.1 59 6 = -1) ∨ (rul D.1 ≠ [] ∧ ∃ a : Nat, M'.2.1 59 6 = (a : Int) ∧ a + (encs (rul D.1)).length < 1400 ∧ (∀ i, i < (encs (rul D.1)).length → M'.2.1 72 (a + i) = (encs (rul D.1)).getD i 0) ∧ M'.2.1 72 (a + (encs (rul D.1)).length) = 0)
    rw [q9 6 (by omega), p6]
    by_cases c : rul D.1 = []
    · rw [if_pos c]; exact Or.inl ⟨c, rfl⟩
    · rw [if_neg c]
      have hle := encs_len (rul D.1)
      unfold crd at d8
      rw [if_neg c] at d8
      have d8' := d8.2
      rw [List.length_append, List.length_singleton] at d8'
      refine Or.inr ⟨c, 0, rfl, by omega, fun i hi => ?_, ?_⟩
      · rw [Nat.zero_add, c13 i (by omega), d8' i (by omega), List.getD_eq_getElem?_getD, List.getElem?_append_left hi, List.getD_eq_getElem?_getD]
      · rw [Nat.zero_add, c13 _ (by omega), d8' _ (by omega), List.getD_eq_getElem?_getD, List.getElem?_append_right (Nat.le_refl _), Nat.sub_self]
        rfl
  · rw [Nat.zero_add]
    replace hj : okI (nC D.1) j := hj
    unfold okI at hj
    rcases hj with hj | ⟨h1, h2, h3⟩
    · obtain rfl | rfl | rfl : j = 0 ∨ j = 1 ∨ j = 2 := by omega
      · exact w0
      · exact (w1 1 (by omega) (by omega)).trans d9
      · exact (w1 2 (by omega) (by omega)).trans d10
    · obtain ⟨a, q, ha, hq, hj⟩ : ∃ a q, a < nC D.1 ∧ q < 4 ∧ j = 3 + 6 * q + a := ⟨(j - 3) % 6, (j - 3) / 6, h3, by omega, by omega⟩
      have e2 : wv (W0s D) j = (W0s D j : Int) := by
        unfold wv
        rw [if_neg (by omega)]
      obtain ⟨g1, g2, g3, g4, g5, g6, g7⟩ := d1 a ha
      obtain ⟨l1, l2, l3, l4⟩ := W0s_c (D := D) (c := a) (by omega)
      show M'.2.1 91 j = wv (W0s D) j
      rw [w1 j (by omega) (by omega), e2]
      obtain rfl | rfl | rfl | rfl : q = 0 ∨ q = 1 ∨ q = 2 ∨ q = 3 := by omega
      · rw [hj, show 3 + 6 * 0 + a = 3 + a by omega, l1]; exact g2
      · rw [hj, show 3 + 6 * 1 + a = 9 + a by omega, l2]; exact g3
      · rw [hj, show 3 + 6 * 2 + a = 15 + a by omega, l3]; exact g6
      · rw [hj, show 3 + 6 * 3 + a = 21 + a by omega, l4]; exact g7
  · rw [k1 74 (by omega)]
    exact hA j hj
def Pe (k j : Nat) : Bool := decide ((k = 59 ∧ (j = 0 ∨ j = 21 ∨ j = 22 ∨ j = 23 ∨ j = 25 ∨ j = 26 ∨ (33 ≤ j ∧ j ≤ 40))) ∨ (k = 87 ∧ (j = 1 ∨ j = 2)))
def Pe2 (k j : Nat) : Bool := decide ((75 ≤ k ∧ k ≤ 90) ∨ (k = 59 ∧ (j = 0 ∨ (21 ≤ j ∧ j ≤ 42))))
theorem Pe2_e : ∀ k j, Pe2 k j = false → Pe k j = false := fun k j z => fal_of (by omega) z
theorem Pe2_m : ∀ k j, Pe2 k j = false → Pm k j = false := fun k j z => fal_of (by omega) z
theorem Pe2_9 : ∀ k j, Pe2 k j = false → P59 k j = false := fun k j z => P6_9 k j (fal_of (by omega) z)
theorem eM_e2 {k j : Nat} (h : eM k j = true) (h1 : ¬ (k = 59 ∧ (j = 21 ∨ j = 23))) : Pe2 k j = false := by
  unfold eM at h
  simp only [Bool.or_eq_true, Bool.and_eq_true, beq_iff_eq, decide_eq_true_eq] at h
  exact decide_eq_false (by omega)
theorem m_sky (hA : OKA A) (h : MH A M) (hn : n ≤ (aT A).length) : mOut (skyA A n) 0 (skyV A n) M (fn X (d + 8) 244 [rv 59, iv (n : Int)] M) := by
  have h7 : (aT A).length ≤ 700 := hA.2.2.2.2.2.2.1
  have hT : Tok (tks (fun i => (aT A).getD i 0) n) := tks_Tok (by omega)
  have hV : TokV (tks (fun i => (aT A).getD i 0) n) := tks_TokV
  obtain ⟨a1, a2, a3, a4, a5, a6, a7⟩ := id h
  obtain ⟨F, hF⟩ : ∃ F, FU = F + 800 := ⟨FU - 800, by have := FU_lt (k := 800) (by omega); omega⟩
  obtain ⟨Mc, ec⟩ : ∃ Mc, puI (puI (puI (puI (puI (puI (puI (puI (puI (puI (puI (puI (puI (puI (puI (puI M 59 0 0) 59 21 0) 59 23 (-1)) 59 22 0) 59 25 (n : Int)) 59 26 0) 59 33 0) 59 34 0) 59 35 0) 59 36 0) 59 37 (-1)) 59 38 (-1)) 59 39 (-1)) 87 1 0) 87 2 (-1)) 59 40 0 = Mc := ⟨_, rfl⟩
  have sc : sf Pe M Mc := by
    rw [← ec]
    exact (((((((((((((((sf.rf.pu rfl _).pu rfl _).pu rfl _).pu rfl _).pu rfl _).pu rfl _).pu rfl _).pu rfl _).pu rfl _).pu rfl _).pu rfl _).pu rfl _).pu rfl _).pu rfl _).pu rfl _).pu rfl _
  have v0 : Mc.2.1 59 0 = 0 := by rw [← ec]; simp [puI_at]
  have v21 : Mc.2.1 59 21 = 0 := by rw [← ec]; simp [puI_at]
  have v23 : Mc.2.1 59 23 = -1 := by rw [← ec]; simp [puI_at]
  have v22 : Mc.2.1 59 22 = 0 := by rw [← ec]; simp [puI_at]
  have v25 : Mc.2.1 59 25 = (n : Int) := by rw [← ec]; simp [puI_at]
  have v26 : Mc.2.1 59 26 = 0 := by rw [← ec]; simp [puI_at]
  have v33 : Mc.2.1 59 33 = 0 := by rw [← ec]; simp [puI_at]
  have v34 : Mc.2.1 59 34 = 0 := by rw [← ec]; simp [puI_at]
  have v35 : Mc.2.1 59 35 = 0 := by rw [← ec]; simp [puI_at]
  have v36 : Mc.2.1 59 36 = 0 := by rw [← ec]; simp [puI_at]
  have v37 : Mc.2.1 59 37 = -1 := by rw [← ec]; simp [puI_at]
  have v38 : Mc.2.1 59 38 = -1 := by rw [← ec]; simp [puI_at]
  have v39 : Mc.2.1 59 39 = -1 := by rw [← ec]; simp [puI_at]
  have v40 : Mc.2.1 59 40 = 0 := by rw [← ec]; simp [puI_at]
  have u1 : Mc.2.1 87 1 = 0 := by rw [← ec]; simp [puI_at]
  have u2 : Mc.2.1 87 2 = -1 := by rw [← ec]; simp [puI_at]
  have hB : MB (fun i => (aT A).getD i 0) n Mc := ⟨by omega, fun i hi => by rw [(sc.2 73 i rfl).1]; exact a5 i (by omega), tape_b hA, v25⟩
  obtain ⟨M1, b1, b2, b3⟩ := m_goes (X := X) (d := d + 5) hB (k := 0) v26
  have hg : MG (fun i => (aT A).getD i 0) n 0 M1 := ⟨b2, by rw [(b3.2 59 22 rfl).1]; exact v22, by rw [(b3.2 59 23 rfl).1]; exact v23⟩
  have hd : MD D00 M1 := ⟨⟨by rw [(b3.2 59 33 rfl).1]; exact v33, fun c hc => absurd hc (Nat.not_lt_zero _)⟩, ⟨by rw [(b3.2 59 34 rfl).1]; exact v34, fun c hc => absurd hc (Nat.not_lt_zero _)⟩, ⟨by rw [(b3.2 59 35 rfl).1]; exact v35, fun c hc => absurd hc (Nat.not_lt_zero _)⟩, ⟨by rw [(b3.2 59 36 rfl).1]; exact v36, fun c hc => absurd hc (Nat.not_lt_zero _)⟩, by rw [(b3.2 59 37 rfl).1]; exact v37, by rw [(b3.2 59 38 rfl).1]; exact v38, by rw [(b3.2 59 39 rfl).1]; exact v39, ⟨by rw [(b3.2 59 40 rfl).1]; exact v40, fun i hi => absurd hi (Nat.not_lt_zero _)⟩, by rw [(b3.2 87 1 rfl).1]; exact u1, by rw [(b3.2 87 2 rfl).1]; exact u2⟩
  obtain ⟨M2, m', c1, c2, c3, c4⟩ := m_lines (X := X) (d := d) hT hV 701 0 D00 M1 (F + 799) (by omega) (by omega) D00_ok hg hd (by omega)
  have s2 : sf Pe2 M M2 := (sc.mo Pe2_e).tr ((b3.mo Pe2_9).tr (c3.mo Pe2_m))
  have r0 : M2.2.1 59 0 = 0 := by rw [(c3.2 59 0 rfl).1, (b3.2 59 0 rfl).1]; exact v0
  have r21 : M2.2.1 59 21 = 0 := by rw [(c3.2 59 21 rfl).1, (b3.2 59 21 rfl).1]; exact v21
  have hk2 : kM M M2 := kM.sf s2 (fun k j hk => decide_eq_false (by omega))
  have e1 : fn X (d + 8) 244 [rv 59, iv (n : Int)] M = kb X (d + 7) 244 (m' + 1) 136 [some (rv 59), none, none] [] M2 := by
    rw [q_244_59, if_neg (by omega), a4, if_neg (by omega), hF, q_244_59_at23, q_209_59, if_pos (puI_eq _ _ _ _), if_neg (by decide), if_pos (puI_eq _ _ _ _), cI_I, if_neg (by decide), ec, b1, cV_V, c1]
  obtain ⟨m', rfl⟩ : ∃ m'', m' = m'' + 29 := ⟨m' - 29, by omega⟩
  rw [e1, q_244_59_at136]
  unfold skyA skyV
  cases e : pSky (tks (fun i => (aT A).getD i 0) n) 701 0 D00 with
  | inl x =>
    have hf := c4.1 x.1 x.2 e
    dsimp only
    rw [m_bad (X := X) (d := d + 6) (MF_ne hf), cI_I, if_pos rfl, hf.2.1]
    refine ⟨_, rfl, by rw [puI_ne (by omega)]; exact r0, MH_F h (fun k j z n1 n2 => ?_) ?_ ?_ ?_, hk2.pu (by omega) _ _⟩
    · by_cases e4 : k = 74
      · subst e4
        rw [puI_nj (by omega), (s2.2 74 j rfl).1]
      · rw [puI_ne e4, (s2.2 k j (eM_e2 z n1)).1]
    · rw [puI_ne (by omega)]; exact r21
    · rw [puI_ne (by omega)]; exact hf.2.2
    · rw [puI_eq, (s2.2 74 0 rfl).1]
  | inr D =>
    obtain ⟨g1, g2, g3⟩ := c4.2 D e
    have hD : DFo D := pSky_ok hT hV 701 0 D00 D D00_ok e
    dsimp only
    rw [m_good (X := X) (d := d + 6) g1, cI_I, if_neg (by decide)]
    obtain ⟨M3, e3⟩ : ∃ M3, puI (puI (puI (puI (puI (puI M2 59 1 (M2.2.1 59 33)) 59 2 (M2.2.1 59 34)) 59 3 (M2.2.1 59 35)) 59 4 (M2.2.1 59 36)) 59 5 (M2.2.1 59 38)) 59 6 (M2.2.1 59 39) = M3 := ⟨_, rfl⟩
    rw [e3]
    have s3 : sf (fun k j => decide (k = 59 ∧ 1 ≤ j ∧ j ≤ 6)) M2 M3 := by
      rw [← e3]
      exact (((((sf.rf.pu rfl _).pu rfl _).pu rfl _).pu rfl _).pu rfl _).pu rfl _
    have hd3 : MD D M3 := ⟨MDa g3 s3 rfl (fun c _ => ⟨rfl, rfl, rfl, rfl, rfl, rfl, rfl⟩), MDb g3 s3 rfl (fun c _ => ⟨rfl, rfl, rfl, rfl, rfl, rfl⟩), MDc g3 s3 rfl (fun c _ => ⟨rfl, rfl⟩), MDd g3 s3 rfl (fun c _ => rfl), MDe g3 s3 rfl rfl rfl rfl (fun _ => rfl) rfl rfl⟩
    have p1 : M3.2.1 59 1 = (nC D.1 : Int) := by rw [← e3, puI_nj (by omega), puI_nj (by omega), puI_nj (by omega), puI_nj (by omega), puI_nj (by omega), puI_eq]; exact g3.1.1
    have p2 : M3.2.1 59 2 = (nT D.1 : Int) := by rw [← e3, puI_nj (by omega), puI_nj (by omega), puI_nj (by omega), puI_nj (by omega), puI_eq]; exact g3.2.1.1
    have p3 : M3.2.1 59 3 = (nH D.1 : Int) := by rw [← e3, puI_nj (by omega), puI_nj (by omega), puI_nj (by omega), puI_eq]; exact g3.2.2.1.1
    have p4 : M3.2.1 59 4 = (nL D.1 : Int) := by rw [← e3, puI_nj (by omega), puI_nj (by omega), puI_eq]; exact g3.2.2.2.1.1
    have p5 : M3.2.1 59 5 = (if riv D.1 = 0 then -1 else (riv D.1 : Int)) := by rw [← e3, puI_nj (by omega), puI_eq]; exact g3.2.2.2.2.2.1
    have p6 : M3.2.1 59 6 = (if rul D.1 = [] then -1 else 0) := by rw [← e3, puI_eq]; exact g3.2.2.2.2.2.2.1
    obtain ⟨M4, f1, f2, f3, f4⟩ := m_new (X := X) (d := d + 5) (A := A) (M0 := M) (M := M3) (fun j hj => by rw [(s3.2 74 j rfl).1, (s2.2 74 j rfl).1]; exact a7 j hj) hd3 hD ⟨p1, p2, p3, p4, p5, p6⟩ (by rw [(s3.2 59 21 rfl).1]; exact r21) (by rw [(s3.2 59 23 rfl).1]; exact g2) (by rw [(s3.2 59 0 rfl).1]; exact r0) (hk2.tr (kM.sf s3 (fun k j hk => decide_eq_false (by omega)))) m'
    have g37 := g3.2.2.2.2.1
    refine ⟨M4, ?_, f2, f3, f4⟩
    rw [g37, ← f1]
    obtain ⟨S, o⟩ := D
    cases o with
    | none =>
      dsimp only
      exact if_pos rfl
    | some v =>
      dsimp only
      exact if_neg (show ¬ (v : Int) = -1 by omega)
theorem m_skyX (h : MH A M) {a : Int} (hn : a < 0 ∨ ((aT A).length : Int) < a) : mOut A 1 0 M (fn X (d + 2) 244 [rv 59, iv a] M) := by
  obtain ⟨F, hF⟩ : ∃ F, FU = F + 2 := ⟨FU - 2, by have := FU_lt (k := 800) (by omega); omega⟩
  have e1 : fn X (d + 2) 244 [rv 59, iv a] M = kb X (d + 1) 244 FU 22 [some (rv 59), some (iv a), none] [rv 59] (puI M 59 0 0) := by
    rw [q_244_59, h.2.2.2.1]
    by_cases c : a < 0
    · rw [if_pos c]
    · rw [if_neg c, if_pos (by omega)]
  rw [e1, hF, q_244_59_at22, q_244_59_at23, q_209_59, if_pos (puI_eq _ _ _ _), if_pos rfl, if_neg (by decide), cI_I, if_pos rfl]
  exact ⟨_, rfl, puI_eq _ _ _ _, (h.p0 0).p0 1, (kM.rf.pu (by omega) _ _).pu (by omega) _ _⟩
end C89g
