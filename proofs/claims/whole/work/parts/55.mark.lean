/-! ===== mark, forget ===== -/
theorem mark_b1 : ∀ c, c < 6 → ∀ k, k < 5 → c * 256 ||| k * 32 = c * 256 + k * 32 := by decide +kernel
theorem mark_b2 : ∀ y, y < 45 → ∀ w, w < 6 → y * 32 ||| w * 2 = y * 32 + w * 2 := by decide +kernel
theorem mark_b3 : ∀ z, z < 720 → ∀ x, x < 2 → z * 2 ||| x = z * 2 + x := by decide +kernel
theorem mark_bits (c : Nat) (hc : c < 6) (k : Nat) (hk : k < 5) (w : Nat) (hw : w < 6) (x : Nat) (hx : x < 2) : ((c * 256 ||| k * 32) ||| w * 2) ||| x = c * 256 + k * 32 + w * 2 + x ∧ (c * 256 ||| k * 32) < 2048 ∧ ((c * 256 ||| k * 32) ||| w * 2) < 2048 := by
  have h1 := mark_b1 c hc k hk
  have h2 := mark_b2 (c * 8 + k) (by omega) w hw
  have h3 := mark_b3 ((c * 8 + k) * 16 + w) (by omega) x hx
  rw [show (c * 8 + k) * 32 = c * 256 + k * 32 by omega] at h2
  rw [show ((c * 8 + k) * 16 + w) * 2 = c * 256 + k * 32 + w * 2 by omega] at h3
  rw [h1, h2, h3]
  omega
section C55
variable {X : Nat × (Nat → Int32)} {d n : Nat} {M M1 M2 M' : rM} {A A' : AS} {W V : WD} {P : List WD} {K : List MK}
theorem getK_l {m : MK} {i : Nat} (h : i < K.length) : (K ++ [m]).getD i K00 = K.getD i K00 := by
  rw [List.getD_eq_getElem?_getD, List.getElem?_append_left h, List.getD_eq_getElem?_getD]
theorem getK_r {m : MK} : (K ++ [m]).getD K.length K00 = m := by
  rw [List.getD_eq_getElem?_getD, List.getElem?_append_right (Nat.le_refl _), Nat.sub_self]
  rfl
def mrkO (A : AS) (b : Int) : Bool := decide (1 ≤ b ∧ b ≤ 4) && decide ((aK A).length < 8)
noncomputable def mrkA (A : AS) (a b w x : Int) : AS := if (0 ≤ a ∧ a < (nC (aS A) : Int)) ∧ 0 ≤ w ∧ w ≤ 5 then (if mrkO A b = true then sD A (aW A) (aP A) (aK A ++ [(a.toNat, b.toNat, w.toNat, if x = 0 then 0 else 1)]) else sRe A 2) else A
def mrkV (A : AS) (b : Int) : Int := if mrkO A b = true then ((aK A).length : Int) + 1 else -1
theorem mrk_in {c w : Nat} {b x : Int} (hc : (0 ≤ (c : Int) ∧ (c : Int) < (nC (aS A) : Int)) ∧ 0 ≤ (w : Int) ∧ (w : Int) ≤ 5) : (mrkO A b = true → mrkA A (c : Int) b (w : Int) x = sD A (aW A) (aP A) (aK A ++ [(c, b.toNat, w, if x = 0 then 0 else 1)])) ∧ (¬ mrkO A b = true → mrkA A (c : Int) b (w : Int) x = sRe A 2) := by
  unfold mrkA
  rw [if_pos hc]
  exact ⟨fun z => if_pos z, fun z => if_neg z⟩
theorem mrk_out {a b w x : Int} (hc : ¬ ((0 ≤ a ∧ a < (nC (aS A) : Int)) ∧ 0 ≤ w ∧ w ≤ 5)) : mrkA A a b w x = A := if_neg hc
theorem OKA.mrk (h : OKA A) (a b w x : Int) : OKA (mrkA A a b w x) := by
  unfold mrkA
  split
  · rename_i hc
    split
    · rename_i ho
      unfold mrkO at ho
      simp only [Bool.and_eq_true, decide_eq_true_eq] at ho
      obtain ⟨h1, h2, h3, h4, h5, h6⟩ := h
      refine ⟨h1, h2, h3, h4, ⟨?_, fun m hm => ?_⟩, h6⟩
      · show (aK A ++ [(a.toNat, b.toNat, w.toNat, if x = 0 then 0 else 1)]).length ≤ 8
        rw [List.length_append, List.length_singleton]
        omega
      · rcases List.mem_append.1 hm with hm | hm
        · exact h5.2 m hm
        · rw [List.mem_singleton.1 hm]
          show a.toNat < nC (aS A) ∧ 1 ≤ b.toNat ∧ b.toNat ≤ 4 ∧ w.toNat < 6 ∧ (if x = 0 then 0 else 1) ≤ 1
          refine ⟨by omega, by omega, by omega, by omega, ?_⟩
          split <;> omega
    · exact h.re 2
  · exact h
theorem c_markW (h : CWd 31 n W P K M) (hK : K.length < 8) {c b w : Nat} {x : Int} (hc : c < 6) (hb : b < 5) (hw : w < 6) : ∃ M', fn X (d + 1) 146 [rv 31, iv (c : Int), iv (b : Int), iv (w : Int), iv x] M = oV M' ∧ CWd 31 n W P (K ++ [(c, b, w, if x = 0 then 0 else 1)]) M' ∧ (∀ k, k ≠ 31 → k ≠ 33 → M'.2.1 k = M.2.1 k) ∧ M'.1 = M.1 := by
  obtain ⟨h1, ⟨o, h2, h3, h4⟩, h5, h6, h7⟩ := h
  have s1 : ishl (c : Int) 8 = ((c * 256 : Nat) : Int) := ishl_nat (k := 8) (by omega) (by omega)
  have s2 : ishl (b : Int) 5 = ((b * 32 : Nat) : Int) := ishl_nat (k := 5) (by omega) (by omega)
  have s3 : ishl (w : Int) 1 = ((w * 2 : Nat) : Int) := ishl_nat (k := 1) (by omega) (by omega)
  obtain ⟨y1, y2, y3⟩ := mark_bits c hc b hb w hw 1 (by omega)
  obtain ⟨y4, -, -⟩ := mark_bits c hc b hb w hw 0 (by omega)
  have b1 : ior ((((c * 256 ||| b * 32) ||| w * 2) : Nat) : Int) 1 = ((c * 256 + b * 32 + w * 2 + 1 : Nat) : Int) := by
    rw [← y1]
    exact ior_nat (b := 1) (by omega) (by omega)
  have b0 : ior ((((c * 256 ||| b * 32) ||| w * 2) : Nat) : Int) 0 = ((c * 256 + b * 32 + w * 2 + 0 : Nat) : Int) := by
    rw [← y4]
    exact ior_nat (b := 0) (by omega) (by omega)
  have go : ∀ e : Nat, ∃ M', oV (puI (puI M 33 K.length ((c * 256 + b * 32 + w * 2 + e : Nat) : Int)) 31 5 ((K.length + 1 : Nat) : Int)) = oV M' ∧ CWd 31 n W P (K ++ [(c, b, w, e)]) M' ∧ (∀ k, k ≠ 31 → k ≠ 33 → M'.2.1 k = M.2.1 k) ∧ M'.1 = M.1 := by
    intro e
    refine ⟨_, rfl, ⟨h1.fr ((puI_k (by omega)).trans (puI_k (by omega))), ⟨o, ?_, h3, fun i hi => ?_⟩, ?_, ?_, fun i hi => ?_⟩, fun k z1 z2 => (puI_k z1).trans (puI_k z2), rfl⟩
    · rw [puI_nj (by omega), puI_k (by omega)]
      exact h2
    · exact (h4 i hi).fr ((puI_k (by omega)).trans (puI_k (by omega)))
    · rw [puI_nj (by omega), puI_k (by omega)]
      exact h5
    · rw [puI_eq, List.length_append, List.length_singleton]
    · rw [List.length_append, List.length_singleton] at hi
      rw [show 31 + 2 = 33 from rfl, puI_k (by omega)]
      by_cases e1 : i = K.length
      · subst e1
        rw [puI_eq, getK_r]
        rfl
      · rw [puI_nj (by omega), getK_l (by omega)]
        exact h7 i (by omega)
  rw [q_146_31, h6, if_pos (by omega), s1, s2, s3, ior_nat (by omega) (by omega), ior_nat (by omega) (by omega), b0, b1, gdx (by omega) (by omega), gdx (by omega) (by omega), Int.toNat_natCast, wr_succ (by omega)]
  by_cases hx : x = 0
  · rw [if_pos hx, if_pos hx]
    exact go 0
  · rw [if_neg hx, if_neg hx]
    exact go 1
theorem c_mark (hA : OKA A) (h : CH A M) (a b w x : Int) : wOut (mrkA A a b w x) (ans ((0 ≤ a ∧ a < (nC (aS A) : Int)) ∧ 0 ≤ w ∧ w ≤ 5) 0).1 (mrkV A b) M (fn X (d + 4) 341 [rv 0, iv a, iv b, iv w, iv x, rv 111] M) := by
  obtain ⟨hF, hR, hV, hP, hK, -⟩ := hA
  have hS := h.1
  have h6 := hF.1
  rw [q_341_0_111, q_175_0, c_chkC hS]
  unfold ans
  by_cases hc : 0 ≤ a ∧ a < (nC (aS A) : Int)
  · rw [if_pos hc, cV_V, c_chkB]
    by_cases hr : 0 ≤ w ∧ w ≤ 5
    · obtain ⟨c, hc1, rfl⟩ := nat_of hc
      obtain ⟨k, hk1, rfl⟩ := nat_le (n := 5) hr
      have hcr : (0 ≤ (c : Int) ∧ (c : Int) < (nC (aS A) : Int)) ∧ 0 ≤ (k : Int) ∧ (k : Int) ≤ 5 := ⟨hc, hr⟩
      obtain ⟨y1, y2⟩ := mrk_in (b := b) (x := x) hcr
      rw [if_pos hcr, if_pos hr, cV_V]
      have q5 : ∀ M : rM, fn X (d + 2) 145 [rv 31] M = oI (M.2.1 31 5) M := fun M => q_145_31 M
      have hk5 : M.2.1 31 5 = ((aK A).length : Int) := h.2.1.2.2.2.1
      have ref : ¬ mrkO A b = true → ∀ hh, wOut (mrkA A (c : Int) b (k : Int) x) 0 (mrkV A b) M (cIh (oI (-1) (puI M 2 2 (wr (M.2.1 2 2 + 1)))) (fun x2 M1 => oI 0 (puJ M1 111 0 (i2j x2))) hh) := by
        intro z hh
        rw [y2 z]
        unfold mrkV
        rw [if_neg z]
        exact w_ok (M1 := puI M 2 2 (wr (M.2.1 2 2 + 1))) rfl (h.Re (by omega)) (kC.rf.pu (by omega) _ _) rfl
      by_cases h1 : b < 1
      · rw [if_pos h1]
        exact ref (by unfold mrkO; simp; omega) _
      · rw [if_neg h1]
        by_cases h2 : 4 < b
        · rw [if_pos h2]
          exact ref (by unfold mrkO; simp; omega) _
        · rw [if_neg h2, q5, cI_I, hk5]
          by_cases h3 : (aK A).length < 8
          · have ho : mrkO A b = true := by
              unfold mrkO
              simp
              omega
            obtain ⟨b', rfl⟩ : ∃ b' : Nat, b = (b' : Int) := ⟨b.toNat, by omega⟩
            obtain ⟨M1, g1, g2, g3, g4⟩ := c_markW (X := X) (d := d + 1) (x := x) h.2.1 h3 (c := c) (b := b') (w := k) (by omega) (by omega) (by omega)
            have g5 : M1.2.1 31 5 = ((aK A).length : Int) + 1 := by
              have := g2.2.2.2.1
              rw [List.length_append, List.length_singleton] at this
              rw [this]
              omega
            rw [if_pos (show ((aK A).length : Int) < 8 by omega), g1, cV_V, q5, cI_I, g5, y1 ho]
            unfold mrkV
            rw [if_pos ho]
            exact w_ok (M1 := M1) rfl (h.D g2 (fun k j _ hn => by rw [g3 k (by omega) (by omega)])) (fun k hk => g3 k (by omega) (by omega)) g4
          · rw [if_neg (show ¬ ((aK A).length : Int) < 8 by omega)]
            exact ref (by unfold mrkO; simp; omega) _
    · have hcr : ¬ ((0 ≤ a ∧ a < (nC (aS A) : Int)) ∧ 0 ≤ w ∧ w ≤ 5) := fun z => hr z.2
      rw [mrk_out hcr, if_neg hcr, if_neg hr, cV_X]
      exact w_x (q := 0) (k := 1) (M1 := thr M) rfl rfl (by omega) h kC.rf rfl
  · have hcr : ¬ ((0 ≤ a ∧ a < (nC (aS A) : Int)) ∧ 0 ≤ w ∧ w ≤ 5) := fun z => hc z.1
    rw [mrk_out hcr, if_neg hcr, if_neg hc, cV_X]
    exact w_x (q := 0) (k := 1) (M1 := thr M) rfl rfl (by omega) h kC.rf rfl
theorem m_mark (hA : OKA A) (h : MH A M) (a b w x : Int) : mOut (mrkA A a b w x) (ans ((0 ≤ a ∧ a < (nC (aS A) : Int)) ∧ 0 ≤ w ∧ w ≤ 5) 0).1 (if (0 ≤ a ∧ a < (nC (aS A) : Int)) ∧ 0 ≤ w ∧ w ≤ 5 then mrkV A b else 0) M (fn X (d + 4) 299 [rv 59, iv a, iv b, iv w, iv x] M) := by
  obtain ⟨hF, hR, hV, hP, hK, -⟩ := hA
  have h6 := hF.1
  have hK8 := hK.1
  obtain ⟨h0, z0, k0⟩ := m_0 h
  rw [q_299_59]
  generalize puI M 59 0 0 = M1 at *
  have hS := h0.1
  rw [m_cre hS z0]
  unfold ans
  by_cases hc : 0 ≤ a ∧ a < (nC (aS A) : Int)
  · rw [if_pos hc, cI_I, if_neg n10, m_what z0]
    by_cases hr : 0 ≤ w ∧ w ≤ 5
    · obtain ⟨c, hc1, rfl⟩ := nat_of hc
      obtain ⟨k, hk1, rfl⟩ := nat_le (n := 5) hr
      have hcr : (0 ≤ (c : Int) ∧ (c : Int) < (nC (aS A) : Int)) ∧ 0 ≤ (k : Int) ∧ (k : Int) ≤ 5 := ⟨hc, hr⟩
      obtain ⟨y1, y2⟩ := mrk_in (b := b) (x := x) hcr
      obtain ⟨Mr, r1, r2, r3, r4⟩ := m_refuse (X := X) (d := d + 2) h0 (i := 2) (by omega)
      have r1 : fn X (d + 3) 247 [rv 59, iv 2] M1 = oI (-1) Mr := r1
      have ref : ¬ mrkO A b = true → mOut (mrkA A (c : Int) b (k : Int) x) 0 (mrkV A b) M (oI (-1) Mr) := by
        intro z
        rw [y2 z]
        unfold mrkV
        rw [if_neg z]
        exact ⟨Mr, rfl, r4.trans z0, r2, k0.tr r3⟩
      obtain ⟨w1, w2, w3, w4, w5⟩ := h0.2.1
      simp only [if_pos hcr]
      rw [if_pos hr, cI_I, if_neg n10, w4, r1, cI_I]
      by_cases h3 : (aK A).length = 8
      · rw [if_pos (show ((aK A).length : Int) = 8 by omega)]
        exact ref (by unfold mrkO; simp; omega)
      · rw [if_neg (show ¬ ((aK A).length : Int) = 8 by omega), q_210]
        by_cases h1 : b < 1
        · rw [if_pos h1, cI_I, if_pos (show (0 : Int) = 0 from rfl), r1, cI_I]
          exact ref (by unfold mrkO; simp; omega)
        · by_cases h2 : 4 < b
          · rw [if_neg h1, if_pos h2, cI_I, if_pos (show (0 : Int) = 0 from rfl), r1, cI_I]
            exact ref (by unfold mrkO; simp; omega)
          · have ho : mrkO A b = true := by
              unfold mrkO
              simp
              omega
            obtain ⟨b', rfl⟩ : ∃ b' : Nat, b = (b' : Int) := ⟨b.toNat, by omega⟩
            generalize hL : (aK A).length = L at *
            have e0 : wr (4 * (L : Int)) = ((4 * L : Nat) : Int) := by
              rw [wri (by omega) (by omega)]
              omega
            have e1 : wr (((4 * L : Nat) : Int) + 1) = ((4 * L + 1 : Nat) : Int) := by
              rw [wri (by omega) (by omega)]
              omega
            have e2 : wr (((4 * L : Nat) : Int) + 2) = ((4 * L + 2 : Nat) : Int) := by
              rw [wri (by omega) (by omega)]
              omega
            have e3 : wr (((4 * L : Nat) : Int) + 3) = ((4 * L + 3 : Nat) : Int) := by
              rw [wri (by omega) (by omega)]
              omega
            rw [if_neg h1, if_neg h2, cI_I, if_neg n10, w4, e0, e1, e2, e3, wr_succ (by omega)]
            simp only [Int.toNat_natCast]
            rw [gdx (by omega) (by omega), gdx (by omega) (by omega), gdx (by omega) (by omega), gdx (by omega) (by omega), y1 ho]
            unfold mrkV
            rw [if_pos ho, hL]
            have go : ∀ e : Nat, mOut (sD A (aW A) (aP A) (aK A ++ [(c, (b' : Int).toNat, k, e)])) 0 ((L : Int) + 1) M (oI ((L + 1 : Nat) : Int) (puI (puI (puI (puI (puI M1 104 (4 * L) (c : Int)) 104 (4 * L + 1) (b' : Int)) 104 (4 * L + 2) (k : Int)) 104 (4 * L + 3) (e : Int)) 59 76 ((L + 1 : Nat) : Int))) := by
              intro e
              have f59 : ∀ j, j ≠ 76 → (puI (puI (puI (puI (puI M1 104 (4 * L) (c : Int)) 104 (4 * L + 1) (b' : Int)) 104 (4 * L + 2) (k : Int)) 104 (4 * L + 3) (e : Int)) 59 76 ((L + 1 : Nat) : Int)).2.1 59 j = M1.2.1 59 j := by
                intro j hj
                rw [puI_nj hj, puI_k (by omega), puI_k (by omega), puI_k (by omega), puI_k (by omega)]
              have fk : ∀ k', k' ≠ 59 → k' ≠ 104 → (puI (puI (puI (puI (puI M1 104 (4 * L) (c : Int)) 104 (4 * L + 1) (b' : Int)) 104 (4 * L + 2) (k : Int)) 104 (4 * L + 3) (e : Int)) 59 76 ((L + 1 : Nat) : Int)).2.1 k' = M1.2.1 k' := by
                intro k' a1 a2
                rw [puI_k a1, puI_k a2, puI_k a2, puI_k a2, puI_k a2]
              refine ⟨_, by rw [show ((L + 1 : Nat) : Int) = (L : Int) + 1 by omega], (f59 0 (by omega)).trans z0, h0.D ⟨w1.fr (fun j _ _ => by rw [fk 91 (by omega) (by omega)]), ?_, fun i hi => ?_, ?_, fun i hi => ?_⟩ (fun k' j _ hn => ?_), k0.tr ⟨rfl, fun k' hk => fk k' (by omega) (by omega), rfl⟩⟩
              · rw [f59 61 (by omega)]
                exact w2
              · intro j hj
                rw [fk 92 (by omega) (by omega)]
                exact w3 i hi j hj
              · rw [puI_eq, List.length_append, List.length_singleton, hL]
              · rw [List.length_append, List.length_singleton, hL] at hi
                rw [puI_k (by omega)]
                by_cases e5 : i = L
                · subst e5
                  have := getK_r (K := aK A) (m := (c, (b' : Int).toNat, k, e))
                  rw [hL] at this
                  rw [this]
                  refine ⟨?_, ?_, ?_, ?_⟩
                  · rw [puI_nj (by omega), puI_nj (by omega), puI_nj (by omega), puI_eq]
                  · rw [puI_nj (by omega), puI_nj (by omega), puI_eq]
                    rfl
                  · rw [puI_nj (by omega), puI_eq]
                  · rw [puI_eq]
                · rw [getK_l (by omega)]
                  have := w5 i (by omega)
                  refine ⟨?_, ?_, ?_, ?_⟩ <;> rw [puI_nj (by omega), puI_nj (by omega), puI_nj (by omega), puI_nj (by omega)]
                  · exact this.1
                  · exact this.2.1
                  · exact this.2.2.1
                  · exact this.2.2.2
              · by_cases e6 : k' = 59
                · subst e6
                  exact f59 j (by omega)
                · rw [fk k' e6 (by omega)]
            by_cases hx : x = 0
            · rw [if_pos hx, if_pos hx]
              exact go 0
            · rw [if_neg hx, if_neg hx, gdx (by omega) (by omega)]
              exact go 1
    · have hcr : ¬ ((0 ≤ a ∧ a < (nC (aS A) : Int)) ∧ 0 ≤ w ∧ w ≤ 5) := fun z => hr z.2
      simp only [mrk_out hcr, if_neg hcr]
      rw [if_neg hr, cI_I, if_pos rfl]
      exact ⟨_, rfl, puI_eq _ _ _ _, h0.p0 1, k0.pu (by omega) _ _⟩
  · have hcr : ¬ ((0 ≤ a ∧ a < (nC (aS A) : Int)) ∧ 0 ≤ w ∧ w ≤ 5) := fun z => hc z.1
    simp only [mrk_out hcr, if_neg hcr]
    rw [if_neg hc, cI_I, if_pos rfl]
    exact ⟨_, rfl, puI_eq _ _ _ _, h0.p0 1, k0.pu (by omega) _ _⟩
/-! forget -/
noncomputable def fgtA (A : AS) : AS := sD A (aW A) (aP A) []
theorem OKA.fgt (h : OKA A) : OKA (fgtA A) := by
  obtain ⟨h1, h2, h3, h4, h5, h6⟩ := h
  exact ⟨h1, h2, h3, h4, ⟨by show ([] : List MK).length ≤ 8; simp, fun m hm => absurd hm (by show ¬ m ∈ ([] : List MK); simp)⟩, h6⟩
theorem c_forget (h : CH A M) : ∃ M', fn X (d + 2) 176 [rv 0] M = oV M' ∧ CH (fgtA A) M' ∧ kC M M' ∧ M'.1 = M.1 := by
  obtain ⟨h1, ⟨o, h2, h3, h4⟩, h5, h6, h7⟩ := h.2.1
  rw [q_176_0, q_147_31, cV_V]
  refine ⟨_, rfl, h.D ⟨h1.fr (puI_k (by omega)), ⟨o, ?_, h3, fun i hi => ?_⟩, ?_, ?_, fun i hi => ?_⟩ (fun k j _ hn => by rw [puI_k (by omega)]), fun k hk => puI_k (by omega), rfl⟩
  · rw [puI_nj (by omega)]
    exact h2
  · exact (h4 i hi).fr (puI_k (by omega))
  · rw [puI_nj (by omega)]
    exact h5
  · rw [puI_eq]
    rfl
  · exact absurd hi (by simp)
theorem m_forget (h : MH A M) : ∃ M', fn X (d + 1) 300 [rv 59] M = oV M' ∧ MH (fgtA A) M' ∧ kM M M' := by
  obtain ⟨h0, z0, k0⟩ := m_0 h
  obtain ⟨w1, w2, w3, w4, w5⟩ := h0.2.1
  rw [q_300_59]
  refine ⟨_, rfl, h0.D ⟨w1.fr (fun j _ _ => by rw [puI_k (by omega)]), ?_, fun i hi j hj => ?_, ?_, fun i hi => ?_⟩ (fun k j _ hn => ?_), k0.pu (by omega) _ _⟩
  · rw [puI_nj (by omega)]
    exact w2
  · rw [puI_k (by omega)]
    exact w3 i hi j hj
  · rw [puI_eq]
    rfl
  · exact absurd hi (by simp)
  · by_cases e : k = 59
    · subst e
      rw [puI_nj (by omega)]
    · rw [puI_k e]
end C55
