/-! ===== sky, the class ===== -/
def W0s (D : DF) : WD := fun j => if j = 0 then D.2.getD 50 else if 3 ≤ j ∧ j < 9 then cre D.1 (j - 3) 1 else if 9 ≤ j ∧ j < 15 then cre D.1 (j - 9) 2 else 0
def skG (A : AS) (D : DF) : AS := (D.1, W0s D, [], [], none, [], -1, aR A)
noncomputable def skF (A : AS) (p : Nat) : AS := (A.1, A.2.1, A.2.2.1, A.2.2.2.1, A.2.2.2.2.1, [], (p : Int), fun j => if j = 0 then wr (aR A 0 + 1) else aR A j)
section C89f
variable {X : Nat × (Nat → Int32)} {d : Nat} {A : AS} {M M' : rM} {b : Nat → Nat} {n : Nat} {D : DF} {S : SK}
theorem W0s_c {c : Nat} (hc : c < 6) : W0s D (3 + c) = cre D.1 c 1 ∧ W0s D (9 + c) = cre D.1 c 2 ∧ W0s D (15 + c) = 0 ∧ W0s D (21 + c) = 0 := by
  unfold W0s
  refine ⟨?_, ?_, ?_, ?_⟩
  · rw [if_neg (by omega), if_pos (by omega), show 3 + c - 3 = c by omega]
  · rw [if_neg (by omega), if_neg (by omega), if_pos (by omega), show 9 + c - 9 = c by omega]
  · rw [if_neg (by omega), if_neg (by omega), if_neg (by omega)]
  · rw [if_neg (by omega), if_neg (by omega), if_neg (by omega)]
theorem skG_ok (hD : DFo D) : OKA (skG A D) := by
  obtain ⟨w1, w2, w3⟩ := hD
  have h6 := w1.1
  refine ⟨w1, w2, ⟨⟨?_, Nat.zero_le _, fun c hc => ?_⟩, Nat.zero_le _⟩, ⟨Nat.zero_le _, fun V hV => (by cases hV)⟩, ⟨Nat.zero_le _, fun m hm => (by cases hm)⟩, fun V P K z => (by cases z), Nat.zero_le _, fun x hx => (by cases hx)⟩
  · show D.2.getD 50 ≤ 999
    obtain ⟨S, o⟩ := D
    cases o with
    | none => exact (show 50 ≤ 999 by decide)
    | some v => exact w3.1 v rfl
  · replace hc : c < nC D.1 := hc
    obtain ⟨e1, e2, e3, e4⟩ := W0s_c (D := D) (c := c) (by omega)
    obtain ⟨q1, q2, q3, q4, q5⟩ := w1.2.2.2.2.1 c hc
    show W0s D (3 + c) ≤ 63 ∧ W0s D (9 + c) ≤ 9 ∧ W0s D (15 + c) ≤ 60 ∧ W0s D (21 + c) ≤ 2
    rw [e1, e2, e3, e4]
    exact ⟨q2, q3, Nat.zero_le _, Nat.zero_le _⟩
theorem skF_ok {p : Nat} (hA : OKA A) : OKA (skF A p) := ⟨hA.1, hA.2.1, hA.2.2.1, hA.2.2.2.1, hA.2.2.2.2.1, hA.2.2.2.2.2.1, Nat.zero_le _, fun x hx => (by cases hx)⟩
/-- the class begins anew -/
theorem c_91 (hS : CS S M) (hF : WF S) {co : Nat} (h5 : M.2.1 3 5 = (co : Int)) {W : WD} (w0 : W 0 = co) (w1 : W 1 = 0) (w2 : W 2 = 0) (w3 : ∀ c, c < nC S → W (3 + c) = cre S c 1 ∧ W (9 + c) = cre S c 2 ∧ W (15 + c) = 0 ∧ W (21 + c) = 0) : ∃ M', fn X (d + 2) 91 [rv 34] M = oV M' ∧ CW 35 0 (nC S) W M' ∧ sf (Po 35) M M' := by
  have h6 := hF.1
  have e : fn X (d + 2) 91 [rv 34] M = cI (fn X (d + 1) 66 [rv 3] M) (fun x2 M1 => kb X (d + 1) 91 FU 29 [some (rv 34), some (iv 0)] [] (puI (puI (puI M1 35 0 x2) 35 1 0) 35 2 (-1))) := q_91_s M (Or.inl rfl)
  rw [e, q_66_3, cI_I, h5]
  refine loop_st (σ := rM) (fun c M1 => sf (Po 35) M M1 ∧ M1.2.1 35 0 = (co : Int) ∧ M1.2.1 35 1 = 0 ∧ M1.2.1 35 2 = -1 ∧ ∀ a, a < c → M1.2.1 35 (4 * a + 3) = (cre S a 1 : Int) ∧ M1.2.1 35 (4 * a + 4) = (cre S a 2 : Int) ∧ M1.2.1 35 (4 * a + 5) = 0 ∧ M1.2.1 35 (4 * a + 6) = 0) (fun m c M1 => kb X (d + 1) 91 m 29 [some (rv 34), some (iv (c : Int))] [] M1) (fun r => ∃ M', r = oV M' ∧ CW 35 0 (nC S) W M' ∧ sf (Po 35) M M') (nC S) ?_ ?_ (nC S) 0 FU _ (by omega) (FU_lt (by omega)) ⟨((sf.rf.pu rfl _).pu rfl _).pu rfl _, ?_, ?_, puI_eq _ _ _ _, fun a ha => absurd ha (Nat.not_lt_zero _)⟩
  · rintro m c M1 hc ⟨i1, i2, i3, i4, i5⟩
    left
    have hS1 : CS S M1 := hS.fr (fun k z1 z2 => by
      funext j
      exact (i1.2 k j (beq_false_of_ne (by omega))).1)
    have i7 : wr (wr (4 * (c : Int)) + 3) = ((4 * c + 3 : Nat) : Int) := ix4 (by omega) (by decide) (by decide)
    have i8 : wr (wr (4 * (c : Int)) + 4) = ((4 * c + 4 : Nat) : Int) := ix4 (by omega) (by decide) (by decide)
    have i9 : wr (wr (4 * (c : Int)) + 5) = ((4 * c + 5 : Nat) : Int) := ix4 (by omega) (by decide) (by decide)
    have i10 : wr (wr (4 * (c : Int)) + 6) = ((4 * c + 6 : Nat) : Int) := ix4 (by omega) (by decide) (by decide)
    have g1 : fn X (d + 1) 118 [rv 4, iv (c : Int), iv 1] M1 = oI (cre S c 1 : Int) M1 := c_get4 hS1 hF hc (j := 1) (by omega)
    have s2 : sf (Po 35) M (puI M1 35 (4 * c + 3) (cre S c 1 : Int)) := i1.pu rfl _
    have hS2 : CS S (puI M1 35 (4 * c + 3) (cre S c 1 : Int)) := hS.fr (fun k z1 z2 => by
      funext j
      exact (s2.2 k j (beq_false_of_ne (by omega))).1)
    have g2 : fn X (d + 1) 118 [rv 4, iv (c : Int), iv 2] (puI M1 35 (4 * c + 3) (cre S c 1 : Int)) = oI (cre S c 2 : Int) (puI M1 35 (4 * c + 3) (cre S c 1 : Int)) := c_get4 hS2 hF hc (j := 2) (by omega)
    have ea : kb X (d + 1) 91 (m + 1) 29 [some (rv 34), some (iv (c : Int))] [] M1 = cI (fn X (d + 1) 112 [rv 4] M1) (fun x2 M1 => if (c : Int) < x2 then cI (fn X (d + 1) 118 [rv 4, iv (c : Int), iv 1] M1) (fun x4 M3 => gd (0 ≤ wr ((wr (4 * (c : Int))) + 3) ∧ wr ((wr (4 * (c : Int))) + 3) < 27) (cI (fn X (d + 1) 118 [rv 4, iv (c : Int), iv 2] (puI M3 35 ((wr ((wr (4 * (c : Int))) + 3)).toNat) x4)) (fun x6 M5 => gd (0 ≤ wr ((wr (4 * (c : Int))) + 4) ∧ wr ((wr (4 * (c : Int))) + 4) < 27) (gd (0 ≤ wr ((wr (4 * (c : Int))) + 5) ∧ wr ((wr (4 * (c : Int))) + 5) < 27) (gd (0 ≤ wr ((wr (4 * (c : Int))) + 6) ∧ wr ((wr (4 * (c : Int))) + 6) < 27) (kb X (d + 1) 91 m 29 [some (rv 34), some (iv (wr ((c : Int) + 1)))] [] (puI (puI (puI M5 35 ((wr ((wr (4 * (c : Int))) + 4)).toNat) x6) 35 ((wr ((wr (4 * (c : Int))) + 5)).toNat) 0) 35 ((wr ((wr (4 * (c : Int))) + 6)).toNat) 0))))))) else oV M1) := q_91_s_at29 (c : Int) M1 (Or.inl rfl)
    rw [ea, q_112_4, cI_I, hS1.1, if_pos (by omega), g1, cI_I, i7, i8, i9, i10, gdx (by omega) (by omega), Int.toNat_natCast, g2, cI_I, gdx (by omega) (by omega), gdx (by omega) (by omega), gdx (by omega) (by omega), Int.toNat_natCast, Int.toNat_natCast, Int.toNat_natCast, wr_succ (by omega)]
    refine ⟨_, rfl, ((s2.pu rfl _).pu rfl _).pu rfl _, ?_, ?_, ?_, fun a ha => ?_⟩
    · rw [puI_nj (by omega), puI_nj (by omega), puI_nj (by omega), puI_nj (by omega)]; exact i2
    · rw [puI_nj (by omega), puI_nj (by omega), puI_nj (by omega), puI_nj (by omega)]; exact i3
    · rw [puI_nj (by omega), puI_nj (by omega), puI_nj (by omega), puI_nj (by omega)]; exact i4
    · by_cases ec : a = c
      · subst ec
        refine ⟨?_, ?_, ?_, ?_⟩
        · rw [puI_nj (by omega), puI_nj (by omega), puI_nj (by omega), puI_eq]
        · rw [puI_nj (by omega), puI_nj (by omega), puI_eq]
        · rw [puI_nj (by omega), puI_eq]
        · rw [puI_eq]
      · obtain ⟨k1, k2, k3, k4⟩ := i5 a (by omega)
        refine ⟨?_, ?_, ?_, ?_⟩
        · rw [puI_nj (by omega), puI_nj (by omega), puI_nj (by omega), puI_nj (by omega)]; exact k1
        · rw [puI_nj (by omega), puI_nj (by omega), puI_nj (by omega), puI_nj (by omega)]; exact k2
        · rw [puI_nj (by omega), puI_nj (by omega), puI_nj (by omega), puI_nj (by omega)]; exact k3
        · rw [puI_nj (by omega), puI_nj (by omega), puI_nj (by omega), puI_nj (by omega)]; exact k4
  · rintro m M1 ⟨i1, i2, i3, i4, i5⟩
    have hS1 : CS S M1 := hS.fr (fun k z1 z2 => by
      funext j
      exact (i1.2 k j (beq_false_of_ne (by omega))).1)
    have ea : kb X (d + 1) 91 (m + 1) 29 [some (rv 34), some (iv ((nC S : Nat) : Int))] [] M1 = oV M1 := by
      rw [q_91_s_at29 _ M1 (Or.inl rfl), q_112_4, cI_I, hS1.1, if_neg (by omega)]
    refine ⟨M1, ea, fun j hj => ?_, i1⟩
    unfold okI at hj
    rcases hj with hj | ⟨h1, h2, h3⟩
    · obtain rfl | rfl | rfl : j = 0 ∨ j = 1 ∨ j = 2 := by omega
      · show M1.2.1 35 0 = (W 0 : Int)
        rw [w0]; exact i2
      · show M1.2.1 35 1 = (W 1 : Int)
        rw [w1]; exact i3
      · show M1.2.1 35 2 = (W 2 : Int) - 1
        rw [w2]; exact i4
    · obtain ⟨a, q, ha, hq, hj⟩ : ∃ a q, a < nC S ∧ q < 4 ∧ j = 3 + 6 * q + a := ⟨(j - 3) % 6, (j - 3) / 6, h3, by omega, by omega⟩
      have e1 : cl j = 4 * a + 3 + q := by
        unfold cl
        rw [if_neg (by omega)]
        omega
      have e2 : wv W j = (W j : Int) := by
        unfold wv
        rw [if_neg (by omega)]
      obtain ⟨k1, k2, k3, k4⟩ := i5 a ha
      obtain ⟨l1, l2, l3, l4⟩ := w3 a ha
      rw [e1, e2, Nat.zero_add]
      obtain rfl | rfl | rfl | rfl : q = 0 ∨ q = 1 ∨ q = 2 ∨ q = 3 := by omega
      · rw [hj, show 3 + 6 * 0 + a = 3 + a by omega, l1]; exact k1
      · rw [hj, show 3 + 6 * 1 + a = 9 + a by omega, l2]; exact k2
      · rw [hj, show 3 + 6 * 2 + a = 15 + a by omega, l3]; exact k3
      · rw [hj, show 3 + 6 * 3 + a = 21 + a by omega, l4]; exact k4
  · rw [puI_nj (by omega), puI_nj (by omega), puI_eq]
  · rw [puI_nj (by omega), puI_eq]
theorem cp_tb {a c T B w cap cnt N : Nat} {f : Nat → Nat → Nat} (ht : Tb T B w cap cnt f M) (hac : a ≠ c) (hN : ∀ i j, i < cnt → j < w → w * i + j < N) : ∃ M1, M1 = puA (puI M a 3 (M.2.1 T 3)) c (va_cpy (M.2.1 B) (M.2.1 c) 0 0 N) ∧ M1.2.1 a 3 = (cnt : Int) ∧ (∀ i j, i < cnt → j < w → M1.2.1 c (w * i + j) = (f i j : Int)) ∧ (∀ k, k ≠ a → k ≠ c → M1.2.1 k = M.2.1 k) ∧ M1.1 = M.1 ∧ M1.2.2 = M.2.2 := by
  refine ⟨_, rfl, ?_, fun i j hi hj => ?_, fun k h1 h2 => ?_, rfl, rfl⟩
  · rw [puA_k hac, puI_eq]; exact ht.1
  · rw [puA_eq, cpy0 (hN i j hi hj)]; exact ht.2.2 i j hi hj
  · rw [puA_k h2, puI_k h1]
theorem Tb_k {T B w cap cnt : Nat} {f : Nat → Nat → Nat} (h : Tb T B w cap cnt f M) (h1 : M'.2.1 T = M.2.1 T) (h2 : M'.2.1 B = M.2.1 B) : Tb T B w cap cnt f M' := ⟨by rw [h1]; exact h.1, by rw [h1]; exact h.2.1, fun c j hc hj => by rw [h2]; exact h.2.2 c j hc hj⟩
/-- what was read is taken over -/
theorem c_65 (hd : CDr D M) (hr : RU (rul D.1) M) (hD : DFo D) : ∃ M', fn X (d + 2) 65 [rv 3, rv 16] M = oV M' ∧ CS D.1 M' ∧ M'.2.1 3 5 = ((D.2.getD 50 : Nat) : Int) ∧ (∀ k, k < 3 ∨ 13 < k → M'.2.1 k = M.2.1 k) ∧ M'.1 = M.1 ∧ M'.2.2 = M.2.2 := by
  obtain ⟨t1, t2, t3, t4, t5, t6, t7, t8⟩ := hd
  obtain ⟨⟨w1, w2, w3, w4, w5⟩, hw, hv⟩ := hD
  have hl := rul_len hw
  obtain ⟨M1, e1, f1, g1, k1, x1, y1⟩ := cp_tb (a := 4) (c := 5) (N := 30) t1 (by omega) (fun i j hi hj => by omega)
  have t2' := Tb_k (M' := M1) t2 (k1 19 (by omega) (by omega)) (k1 20 (by omega) (by omega))
  obtain ⟨M2, e2, f2, g2, k2, x2, y2⟩ := cp_tb (a := 6) (c := 7) (N := 48) t2' (by omega) (fun i j hi hj => by omega)
  have t3' := Tb_k (M' := M2) t3 ((k2 21 (by omega) (by omega)).trans (k1 21 (by omega) (by omega))) ((k2 22 (by omega) (by omega)).trans (k1 22 (by omega) (by omega)))
  obtain ⟨M3, e3, f3, g3, k3, x3, y3⟩ := cp_tb (a := 8) (c := 9) (N := 12) t3' (by omega) (fun i j hi hj => by omega)
  have t4' := Tb_k (M' := M3) t4 ((k3 23 (by omega) (by omega)).trans ((k2 23 (by omega) (by omega)).trans (k1 23 (by omega) (by omega)))) ((k3 24 (by omega) (by omega)).trans ((k2 24 (by omega) (by omega)).trans (k1 24 (by omega) (by omega))))
  obtain ⟨M4, e4, f4, g4, k4, x4, y4⟩ := cp_tb (a := 10) (c := 11) (N := 8) t4' (by omega) (fun i j hi hj => by omega)
  have kk : ∀ k, k < 3 ∨ 11 < k → M4.2.1 k = M.2.1 k := fun k hk => (k4 k (by omega) (by omega)).trans ((k3 k (by omega) (by omega)).trans ((k2 k (by omega) (by omega)).trans (k1 k (by omega) (by omega))))
  have h25 : M4.2.1 25 3 = ((rul D.1).length : Int) := by rw [kk 25 (by omega)]; exact hr.1
  obtain ⟨M5, e5⟩ : ∃ M5, M5 = puA (puI M4 12 3 ((rul D.1).length : Int)) 13 (va_cpy (M4.2.1 26) (M4.2.1 13) 0 0 (rul D.1).length) := ⟨_, rfl⟩
  have k5 : ∀ k, k ≠ 12 → k ≠ 13 → M5.2.1 k = M4.2.1 k := fun k h1 h2 => by rw [e5, puA_k h2, puI_k h1]
  refine ⟨puI (puI M5 3 5 (M5.2.1 16 5)) 3 6 (M5.2.1 16 6), ?_, ?_, ?_, fun k hk => ?_, ?_, ?_⟩
  · rw [q_65_3_16, q_122_4_17, ← e1, cV_V, q_122_6_19, ← e2, cV_V, q_122_8_21, ← e3, cV_V, q_122_10_23, ← e4, cV_V, q_46_12_25, h25, gdp ⟨by omega, by omega, by omega, by omega, by omega⟩, Int.toNat_natCast, ← e5, cV_V]
  · have k9 : ∀ k, k ≠ 3 → (puI (puI M5 3 5 (M5.2.1 16 5)) 3 6 (M5.2.1 16 6)).2.1 k = M5.2.1 k := fun k hk => by rw [puI_k hk, puI_k hk]
    refine ⟨?_, ?_, ?_, ?_, fun c j hc hj => ?_, fun c j hc hj => ?_, fun c j hc hj => ?_, fun c hc => ?_, ?_, ?_, fun i hi => ?_⟩
    · rw [k9 4 (by omega), k5 4 (by omega) (by omega), k4 4 (by omega) (by omega), k3 4 (by omega) (by omega), k2 4 (by omega) (by omega)]; exact f1
    · rw [k9 6 (by omega), k5 6 (by omega) (by omega), k4 6 (by omega) (by omega), k3 6 (by omega) (by omega)]; exact f2
    · rw [k9 8 (by omega), k5 8 (by omega) (by omega), k4 8 (by omega) (by omega)]; exact f3
    · rw [k9 10 (by omega), k5 10 (by omega) (by omega)]; exact f4
    · rw [k9 5 (by omega), k5 5 (by omega) (by omega), k4 5 (by omega) (by omega), k3 5 (by omega) (by omega), k2 5 (by omega) (by omega)]; exact g1 c j hc hj
    · rw [k9 7 (by omega), k5 7 (by omega) (by omega), k4 7 (by omega) (by omega), k3 7 (by omega) (by omega)]; exact g2 c j hc hj
    · rw [k9 9 (by omega), k5 9 (by omega) (by omega), k4 9 (by omega) (by omega)]; exact g3 c j hc hj
    · rw [k9 11 (by omega), k5 11 (by omega) (by omega)]
      have := g4 c 0 hc (by omega)
      rw [Nat.one_mul, Nat.add_zero] at this
      exact this
    · rw [puI_eq, k5 16 (by omega) (by omega), kk 16 (by omega)]; exact t6
    · rw [k9 12 (by omega), e5, puA_k (by omega), puI_eq]
    · rw [k9 13 (by omega), e5, puA_eq, cpy0 hi, kk 26 (by omega)]; exact hr.2 i hi
  · rw [puI_nj (by omega), puI_eq, k5 16 (by omega) (by omega), kk 16 (by omega)]; exact t5
  · rw [puI_k (by omega), puI_k (by omega), k5 k (by omega) (by omega), kk k (by omega)]
  · show M5.1 = M.1
    rw [e5]
    exact x4.trans (x3.trans (x2.trans x1))
  · show M5.2.2 = M.2.2
    rw [e5]
    exact y4.trans (y3.trans (y2.trans y1))
theorem tape_b (hA : OKA A) (i : Nat) : (aT A).getD i 0 ≤ 255 := by
  rw [List.getD_eq_getElem?_getD]
  cases e : (aT A)[i]? with
  | none => exact Nat.zero_le _
  | some v => exact hA.2.2.2.2.2.2.2 v (List.mem_of_getElem? e)
/-- what remains behind a text with a fault -/
theorem CH_F (h : CH A M) {p : Nat} (e : ∀ k j, eC k j = true → ¬ (k = 0 ∧ (j = 1 ∨ j = 2)) → ¬ (k = 2 ∧ j = 0) → M'.2.1 k j = M.2.1 k j) (h1 : M'.2.1 0 1 = 0) (h2 : M'.2.1 0 2 = (p : Int)) (h0 : M'.2.1 2 0 = wr (M.2.1 2 0 + 1)) : CH (skF A p) M' := by
  have ek : ∀ k, (∀ j, eC k j = true) → k ≠ 0 → k ≠ 2 → M'.2.1 k = M.2.1 k := fun k hk n0 n2 => by
    funext j
    exact e k j (hk j) (by omega) (by omega)
  have e31 : ∀ k, k = 31 ∨ k = 31 + 1 ∨ k = 31 + 2 ∨ k = 31 + 4 → M'.2.1 k = M.2.1 k := by
    rintro k (rfl | rfl | rfl | rfl) <;> exact ek _ (fun j => by simp [eC]) (by omega) (by omega)
  have e36 : ∀ k, k = 36 ∨ k = 36 + 1 ∨ k = 36 + 2 ∨ k = 36 + 4 → M'.2.1 k = M.2.1 k := by
    rintro k (rfl | rfl | rfl | rfl) <;> exact ek _ (fun j => by simp [eC]) (by omega) (by omega)
  obtain ⟨a1, a2, a3, a4, a5, a6, a7, a8, a9, a10, a11⟩ := h
  refine ⟨a1.fr (fun k z1 z2 => ek k (fun j => by simp [eC, z1, z2]) (by omega) (by omega)), a2.fr e31, ?_, h1, fun i hi => (by cases hi), h2, fun j hj => ?_, ?_, ?_, ?_, ?_⟩
  · rcases a3 with ⟨z1, z2⟩ | ⟨V, P, K, z1, z2, z3⟩
    · exact Or.inl ⟨z1, by rw [e 0 9 (by decide) (by omega) (by omega)]; exact z2⟩
    · exact Or.inr ⟨V, P, K, z1, by rw [e 0 9 (by decide) (by omega) (by omega)]; exact z2, z3.fr e36⟩
  · show M'.2.1 2 j = (if j = 0 then wr (aR A 0 + 1) else aR A j)
    by_cases c : j = 0
    · rw [if_pos c, c, h0, a7 0 (by omega)]
    · rw [if_neg c, e 2 j (by simp [eC]) (by omega) (by omega)]
      exact a7 j hj
  · rw [e 17 2 (by decide) (by omega) (by omega)]; exact a8
  · rw [e 19 2 (by decide) (by omega) (by omega)]; exact a9
  · rw [e 21 2 (by decide) (by omega) (by omega)]; exact a10
  · rw [e 23 2 (by decide) (by omega) (by omega)]; exact a11
theorem eC_z {k j : Nat} (h : eC k j = true) : Pz k j = false := by
  unfold eC at h
  simp only [Bool.or_eq_true, Bool.and_eq_true, beq_iff_eq, decide_eq_true_eq] at h
  exact decide_eq_false (by omega)
theorem kC_z (h : sf Pz M M') : kC M M' := kC.sf h (fun k j hk => decide_eq_false (by omega))
/-- the outcome of a text -/
noncomputable def skyA (A : AS) (n : Nat) : AS := match pSky (tks (fun i => (aT A).getD i 0) n) 701 0 D00 with
  | .inl x => skF A (tZ (fun i => (aT A).getD i 0) n x.2)
  | .inr D => skG A D
noncomputable def skyV (A : AS) (n : Nat) : Int := match pSky (tks (fun i => (aT A).getD i 0) n) 701 0 D00 with
  | .inl x => (x.1 : Int)
  | .inr _ => 0
theorem skyA_ok (hA : OKA A) (hn : n ≤ 700) : OKA (skyA A n) := by
  unfold skyA
  cases e : pSky (tks (fun i => (aT A).getD i 0) n) 701 0 D00 with
  | inl x => exact skF_ok hA
  | inr D => exact skG_ok (pSky_ok (tks_Tok hn) tks_TokV 701 0 D00 D D00_ok e)
theorem c_sky (hA : OKA A) (h : CH A M) (hn : n ≤ (aT A).length) : wOut (skyA A n) 0 (skyV A n) M (fn X (d + 56) 323 [rv 0, iv (n : Int), rv 111] M) := by
  have h7 : (aT A).length ≤ 700 := hA.2.2.2.2.2.2.1
  have hT : Tok (tks (fun i => (aT A).getD i 0) n) := tks_Tok (by omega)
  obtain ⟨a1, a2, a3, a4, a5, a6, a7, a8, a9, a10, a11⟩ := id h
  have hb : TB (fun i => (aT A).getD i 0) n (puI M 0 1 0) := ⟨by omega, fun i hi => by rw [puI_ne (by omega)]; exact a5 i (by omega), tape_b hA⟩
  obtain ⟨M1, v, b1, b2, b3⟩ := c_text (X := X) (d := d) hb (by rw [puI_ne (by omega)]; exact a8) (by rw [puI_ne (by omega)]; exact a9) (by rw [puI_ne (by omega)]; exact a10) (by rw [puI_ne (by omega)]; exact a11)
  have kz : kC M M1 := (kC.rf.pu (by omega) _ _).tr (kC_z b2)
  have hx : M1.1 = M.1 := b2.1
  have o01 : M1.2.1 0 1 = 0 := by rw [(b2.2 0 1 rfl).1, puI_eq]
  rw [q_323_0_111, q_152_0, if_neg (by omega), a4, if_neg (by omega), b1, cI_I, q_16_29, cI_I]
  unfold skyA skyV
  cases e : pSky (tks (fun i => (aT A).getD i 0) n) 701 0 D00 with
  | inl x =>
    obtain ⟨c1, c2, c3⟩ := b3.1 x.1 x.2 e
    dsimp only
    rw [c1, if_neg (by omega)]
    refine w_ok rfl ?_ ((kz.pu (by omega) _ _).pu (by omega) _ _) hx
    refine CH_F h (fun k j z n1 n2 => ?_) ?_ ?_ ?_
    · by_cases e2 : k = 2
      · subst e2
        rw [puI_nj (by omega), puI_ne (by omega), (b2.2 2 j (eC_z z)).1, puI_ne (by omega)]
      · rw [puI_ne e2]
        by_cases e0 : k = 0
        · subst e0
          rw [puI_nj (by omega), (b2.2 0 j (eC_z z)).1, puI_nj (by omega)]
        · rw [puI_ne e0, (b2.2 k j (eC_z z)).1, puI_ne e0]
    · rw [puI_ne (by omega), puI_nj (by omega)]; exact o01
    · rw [puI_ne (by omega), puI_eq]; exact c3
    · rw [puI_eq, (b2.2 2 0 rfl).1, puI_ne (by omega)]
  | inr D =>
    obtain ⟨c1, c2, c3, c4⟩ := b3.2 D e
    have hD : DFo D := pSky_ok hT tks_TokV 701 0 D00 D D00_ok e
    dsimp only
    rw [c1, if_pos rfl, c4]
    have s2 : sf (Pc 0 2) M1 (puI M1 0 2 (-1)) := sf.rf.pu rfl _
    have c3' : RU (rul D.1) (puI M1 0 2 (-1)) := ⟨by rw [puI_ne (by omega)]; exact c3.1, fun i hi => by rw [puI_ne (by omega)]; exact c3.2 i hi⟩
    obtain ⟨M2, d1, d2, d3, d4, d5, d6⟩ := c_65 (X := X) (d := d + 52) (CDr_sf c2 s2 rfl (fun _ => rfl) (fun _ => rfl) (fun _ => rfl) (fun _ => rfl)) c3' hD
    obtain ⟨M3, f1, f2, f3⟩ := c_91 (X := X) (d := d + 51) d2 hD.1 d3 (W := W0s D) rfl rfl rfl (fun c hc => W0s_c (by have := hD.1.1; omega))
    have o3 : ∀ k j, k ≠ 35 → M3.2.1 k j = M2.2.1 k j := fun k j hk => (f3.2 k j (beq_false_of_ne hk)).1
    have o2 : ∀ k, k = 1 ∨ k = 2 ∨ 13 < k → M2.2.1 k = M1.2.1 k := fun k hk => by rw [d4 k (by omega), puI_k (by omega)]
    rw [d1, cV_V, q_140_31, f1, cV_V, cV_V]
    have kz2 : kC M1 M3 := fun k hk => by
      funext j
      rw [o3 k j (by omega), o2 k (by omega)]
    refine w_ok rfl ?_ (((((kz.tr kz2).pu (by omega) _ _).pu (by omega) _ _).pu (by omega) _ _).pu (by omega) _ _) ?_
    · have kf : ∀ k j, k ≠ 0 → k ≠ 31 → (puI (puI (puI (puI M3 31 2 0) 31 3 0) 31 5 0) 0 9 0).2.1 k j = M3.2.1 k j := fun k j z0 z1 => by rw [puI_ne z0, puI_ne z1, puI_ne z1, puI_ne z1]
      refine ⟨d2.fr (fun k z1 z2 => by funext j; rw [kf k j (by omega) (by omega), o3 k j (by omega)]), ⟨?_, ⟨0, ?_, by omega, fun i hi => (by cases hi)⟩, ?_, ?_, fun i hi => (by cases hi)⟩, Or.inl ⟨rfl, puI_eq _ _ _ _⟩, ?_, fun i hi => (by cases hi), ?_, fun j hj => ?_, ?_, ?_, ?_, ?_⟩
      · exact f2.fr (by funext j; exact kf 35 j (by omega) (by omega))
      · rw [puI_ne (by omega), puI_nj (by omega), puI_nj (by omega), puI_eq] <;> rfl
      · rw [puI_ne (by omega), puI_nj (by omega), puI_eq] <;> rfl
      · rw [puI_ne (by omega), puI_eq] <;> rfl
      · rw [puI_nj (by omega), puI_ne (by omega), puI_ne (by omega), puI_ne (by omega), o3 0 1 (by omega), d4 0 (by omega), puI_nj (by omega)]; exact o01
      · rw [puI_nj (by omega), puI_ne (by omega), puI_ne (by omega), puI_ne (by omega), o3 0 2 (by omega), d4 0 (by omega)]; exact puI_eq _ _ _ _
      · rw [kf 2 j (by omega) (by omega), o3 2 j (by omega), o2 2 (by omega), (b2.2 2 j rfl).1, puI_ne (by omega)]
        exact a7 j hj
      · rw [kf 17 2 (by omega) (by omega), o3 17 2 (by omega), o2 17 (by omega), (b2.2 17 2 rfl).1, puI_ne (by omega)]; exact a8
      · rw [kf 19 2 (by omega) (by omega), o3 19 2 (by omega), o2 19 (by omega), (b2.2 19 2 rfl).1, puI_ne (by omega)]; exact a9
      · rw [kf 21 2 (by omega) (by omega), o3 21 2 (by omega), o2 21 (by omega), (b2.2 21 2 rfl).1, puI_ne (by omega)]; exact a10
      · rw [kf 23 2 (by omega) (by omega), o3 23 2 (by omega), o2 23 (by omega), (b2.2 23 2 rfl).1, puI_ne (by omega)]; exact a11
    · show M3.1 = M.1
      rw [f3.1, d5]
      exact hx
theorem c_skyX (h : CH A M) {a : Int} (hn : a < 0 ∨ ((aT A).length : Int) < a) (v : Int) : wOut A 1 v M (fn X (d + 2) 323 [rv 0, iv a, rv 111] M) := by
  rw [q_323_0_111, q_152_0, h.2.2.2.1]
  by_cases c : a < 0
  · rw [if_pos c]
    exact w_x (q := 1) (k := 1) (M1 := thr M) rfl rfl (by omega) h kC.rf rfl
  · rw [if_neg c, if_pos (by omega)]
    exact w_x (q := 1) (k := 1) (M1 := thr M) rfl rfl (by omega) h kC.rf rfl
end C89f
